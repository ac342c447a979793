/-! 24.vcD: what the machine asks of each method, from its entry (st_) and from each loop head (lp_): printed by a program, checked by the kernel -/
set_option maxRecDepth 20000 in
/-- GraspJudgeModel.in -/
theorem st_155 {E : gj_E} {Q : Int32 → gj_I → gj_J → Prop} (a1 : Int64) (a2 : Int64) (a3 : Int64) (SI : gj_I) (SJ : gj_J) (h : (a1 < a2 → Q (i3 0) SI SJ) ∧ (¬ a1 < a2 → (a1 > a3 → Q (i3 0) SI SJ) ∧ (¬ a1 > a3 → Q (i3 1) SI SJ))) : DoI E 155 [(.long a1), (.long a2), (.long a3)] SI SJ Q := by
  refine gj_start (M := mt_155) ok_155 (Nat.le_of_ble_eq_true rfl) ?_
  refine gj_goq gj_clT ok_155 [] ?_
  show ((lg_cmp a1 a2) < 0 → gj_Goes E om0 mt_155 17 [some (.long a1), none, some (.long a2), none, some (.long a3), none] [] SI SJ (QI Q)) ∧ (¬ (lg_cmp a1 a2) < 0 → (0 < (lg_cmp a1 a3) → gj_Goes E om0 mt_155 17 [some (.long a1), none, some (.long a2), none, some (.long a3), none] [] SI SJ (QI Q)) ∧ (¬ 0 < (lg_cmp a1 a3) → gj_Goes E om0 mt_155 18 [some (.long a1), none, some (.long a2), none, some (.long a3), none] [(.int (i3 1))] SI SJ (QI Q)))
  refine ⟨fun c1 => ?_, fun c1 => ?_⟩
  · refine gj_goq gj_clT ok_155 [] ?_
    show ((i3 0) = 0 ∨ (i3 0) = 1) ∧ (QI Q (some (.int (i3 0))) SI SJ)
    refine ⟨(Or.inl rfl), ?_⟩
    exact ⟨_, rfl, (h.1 (lgc_lt.mp c1))⟩
  · refine ⟨fun c2 => ?_, fun c2 => ?_⟩
    · refine gj_goq gj_clT ok_155 [] ?_
      show ((i3 0) = 0 ∨ (i3 0) = 1) ∧ (QI Q (some (.int (i3 0))) SI SJ)
      refine ⟨(Or.inl rfl), ?_⟩
      exact ⟨_, rfl, ((h.2 (fun z_ => c1 (lgc_lt.mpr z_))).1 (lgc_gt.mp c2))⟩
    · refine gj_goq gj_clT ok_155 [] ?_
      show ((i3 1) = 0 ∨ (i3 1) = 1) ∧ (QI Q (some (.int (i3 1))) SI SJ)
      refine ⟨(Or.inr rfl), ?_⟩
      exact ⟨_, rfl, ((h.2 (fun z_ => c1 (lgc_lt.mpr z_))).2 (fun z_ => c2 (lgc_gt.mpr z_)))⟩
set_option maxRecDepth 20000 in
/-- GraspJudgeModel.min -/
theorem st_156 {E : gj_E} {Q : Int32 → gj_I → gj_J → Prop} (a1 : Int32) (a2 : Int32) (SI : gj_I) (SJ : gj_J) (h : (a2 ≤ a1 → Q a2 SI SJ) ∧ (¬ a2 ≤ a1 → Q a1 SI SJ)) : DoI E 156 [(.int a1), (.int a2)] SI SJ Q := by
  refine gj_start (M := mt_156) ok_156 (Nat.le_of_ble_eq_true rfl) ?_
  refine gj_goq gj_clT ok_156 [] ?_
  show (a2 ≤ a1 → gj_Goes E om0 mt_156 9 [some (.int a1), some (.int a2)] [] SI SJ (QI Q)) ∧ (¬ a2 ≤ a1 → gj_Goes E om0 mt_156 10 [some (.int a1), some (.int a2)] [(.int a1)] SI SJ (QI Q))
  refine ⟨fun c1 => ?_, fun c1 => ?_⟩
  · refine gj_goq gj_clT ok_156 [] ?_
    show QI Q (some (.int a2)) SI SJ
    exact ⟨_, rfl, (h.1 c1)⟩
  · refine gj_goq gj_clT ok_156 [] ?_
    show QI Q (some (.int a1)) SI SJ
    exact ⟨_, rfl, (h.2 c1)⟩
set_option maxRecDepth 20000 in
/-- GraspJudgeModel.max -/
theorem st_157 {E : gj_E} {Q : Int32 → gj_I → gj_J → Prop} (a1 : Int32) (a2 : Int32) (SI : gj_I) (SJ : gj_J) (h : (a1 ≤ a2 → Q a2 SI SJ) ∧ (¬ a1 ≤ a2 → Q a1 SI SJ)) : DoI E 157 [(.int a1), (.int a2)] SI SJ Q := by
  refine gj_start (M := mt_157) ok_157 (Nat.le_of_ble_eq_true rfl) ?_
  refine gj_goq gj_clT ok_157 [] ?_
  show (a1 ≤ a2 → gj_Goes E om0 mt_157 9 [some (.int a1), some (.int a2)] [] SI SJ (QI Q)) ∧ (¬ a1 ≤ a2 → gj_Goes E om0 mt_157 10 [some (.int a1), some (.int a2)] [(.int a1)] SI SJ (QI Q))
  refine ⟨fun c1 => ?_, fun c1 => ?_⟩
  · refine gj_goq gj_clT ok_157 [] ?_
    show QI Q (some (.int a2)) SI SJ
    exact ⟨_, rfl, (h.1 c1)⟩
  · refine gj_goq gj_clT ok_157 [] ?_
    show QI Q (some (.int a1)) SI SJ
    exact ⟨_, rfl, (h.2 c1)⟩
set_option maxRecDepth 20000 in
/-- GraspJudgeModel.size -/
theorem st_158 {E : gj_E} {Q : Int64 → gj_I → gj_J → Prop} (a1 : Int64) (SI : gj_I) (SJ : gj_J) (h : (a1 ≥ (i6 0) → Q a1 SI SJ) ∧ (¬ a1 ≥ (i6 0) → Q (-a1) SI SJ)) : DoL E 158 [(.long a1)] SI SJ Q := by
  refine gj_start (M := mt_158) ok_158 (Nat.le_of_ble_eq_true rfl) ?_
  refine gj_goq gj_clT ok_158 [] ?_
  show (0 ≤ (lg_cmp a1 (i6 0)) → gj_Goes E om0 mt_158 11 [some (.long a1), none] [] SI SJ (QL Q)) ∧ (¬ 0 ≤ (lg_cmp a1 (i6 0)) → gj_Goes E om0 mt_158 12 [some (.long a1), none] [(.long (-a1))] SI SJ (QL Q))
  refine ⟨fun c1 => ?_, fun c1 => ?_⟩
  · refine gj_goq gj_clT ok_158 [] ?_
    show QL Q (some (.long a1)) SI SJ
    exact ⟨_, rfl, (h.1 (lgc_ge.mp c1))⟩
  · refine gj_goq gj_clT ok_158 [] ?_
    show QL Q (some (.long (-a1))) SI SJ
    exact ⟨_, rfl, (h.2 (fun z_ => c1 (lgc_ge.mpr z_)))⟩
set_option maxRecDepth 20000 in
/-- GraspJudgeModel.has -/
theorem st_159 {E : gj_E} {Q : Int32 → gj_I → gj_J → Prop} (a1 : Int32) (a2 : Int32) (SI : gj_I) (SJ : gj_J) (h : (¬ ((a1 >>> (a2 &&& 31)) &&& (i3 1)) = (i3 1) → Q (i3 0) SI SJ) ∧ (((a1 >>> (a2 &&& 31)) &&& (i3 1)) = (i3 1) → Q (i3 1) SI SJ)) : DoI E 159 [(.int a1), (.int a2)] SI SJ Q := by
  refine gj_start (M := mt_159) ok_159 (Nat.le_of_ble_eq_true rfl) ?_
  refine gj_goq gj_clT ok_159 [] ?_
  show (¬ ((a1 >>> (a2 &&& 31)) &&& (i3 1)) = (i3 1) → gj_Goes E om0 mt_159 13 [some (.int a1), some (.int a2)] [] SI SJ (QI Q)) ∧ (((a1 >>> (a2 &&& 31)) &&& (i3 1)) = (i3 1) → gj_Goes E om0 mt_159 14 [some (.int a1), some (.int a2)] [(.int (i3 1))] SI SJ (QI Q))
  refine ⟨fun c1 => ?_, fun c1 => ?_⟩
  · refine gj_goq gj_clT ok_159 [] ?_
    show ((i3 0) = 0 ∨ (i3 0) = 1) ∧ (QI Q (some (.int (i3 0))) SI SJ)
    refine ⟨(Or.inl rfl), ?_⟩
    exact ⟨_, rfl, (h.1 c1)⟩
  · refine gj_goq gj_clT ok_159 [] ?_
    show ((i3 1) = 0 ∨ (i3 1) = 1) ∧ (QI Q (some (.int (i3 1))) SI SJ)
    refine ⟨(Or.inr rfl), ?_⟩
    exact ⟨_, rfl, (h.2 c1)⟩
set_option maxRecDepth 20000 in
/-- GraspJudgeModel.sizeOf -/
theorem st_160 {E : gj_E} {Q : Int32 → gj_I → gj_J → Prop} (a1 : Int32) (SI : gj_I) (SJ : gj_J) (h : GoI E mt_160 4 [none, some (.int (i3 0)), some (.int a1)] SI SJ Q) : DoI E 160 [(.int a1)] SI SJ Q := by
  refine gj_start (M := mt_160) ok_160 (Nat.le_of_ble_eq_true rfl) ?_
  refine gj_goq gj_clT ok_160 [4] ?_
  show gj_Goes E om0 mt_160 4 [some (.int a1), some (.int (i3 0)), some (.int a1)] [] SI SJ (QI Q)
  exact gj_fh h (And.intro (Or.inl rfl) (And.intro (Or.inr rfl) (And.intro (Or.inr rfl) trivial)))
set_option maxRecDepth 20000 in
theorem lp_160_4 {E : gj_E} {Q : Int32 → gj_I → gj_J → Prop} (x1 : Int32) (x2 : Int32) (SI : gj_I) (SJ : gj_J) (h : (x2 = 0 → Q x1 SI SJ) ∧ (¬ x2 = 0 → GoI E mt_160 4 [none, some (.int (x1 + (i3 1))), some (.int (x2 &&& (x2 - (i3 1))))] SI SJ Q)) : GoI E mt_160 4 [none, some (.int x1), some (.int x2)] SI SJ Q := by
  refine gj_goq gj_clT ok_160 [4] ?_
  show (x2 = 0 → gj_Goes E om0 mt_160 21 [none, some (.int x1), some (.int x2)] [] SI SJ (QI Q)) ∧ (¬ x2 = 0 → gj_Goes E om0 mt_160 4 [none, some (.int (x1 + (i3 1))), some (.int (x2 &&& (x2 - (i3 1))))] [] SI SJ (QI Q))
  refine ⟨fun c1 => ?_, fun c1 => ?_⟩
  · refine gj_goq gj_clT ok_160 [4] ?_
    show QI Q (some (.int x1)) SI SJ
    exact ⟨_, rfl, (h.1 c1)⟩
  · exact (h.2 c1)
set_option maxRecDepth 20000 in
/-- GraspJudgeModel.common -/
theorem st_161 {E : gj_E} {Q : Int64 → gj_I → gj_J → Prop} (a1 : Int64) (a2 : Int64) (SI : gj_I) (SJ : gj_J) (h : DoL E 158 [(.long a1)] SI SJ (fun r1 SI2 SJ2 => DoL E 158 [(.long a2)] SI2 SJ2 (fun r3 SI4 SJ4 => GoL E mt_161 12 [none, none, none, none, some (.long r1), none, some (.long r3), none, none, none] SI4 SJ4 Q))) : DoL E 161 [(.long a1), (.long a2)] SI SJ Q := by
  refine gj_start (M := mt_161) ok_161 (Nat.le_of_ble_eq_true rfl) ?_
  refine gj_goq gj_clT ok_161 [4, 10, 12] ?_
  show gj_Do E om0 (gj_mt 158) [(.long a1)] SI SJ _
  refine gj_Do.mono h (fun v_ SI2 SJ2 h_ => ?_)
  obtain ⟨r1, rfl, q1⟩ := h_
  show gj_Goes E om0 mt_161 4 [some (.long a1), none, some (.long a2), none, none, none, none, none, none, none] [(.long r1)] SI2 SJ2 (QL Q)
  refine gj_goq gj_clT ok_161 [4, 10, 12] ?_
  show gj_Do E om0 (gj_mt 158) [(.long a2)] SI2 SJ2 _
  refine gj_Do.mono q1 (fun v_ SI4 SJ4 h_ => ?_)
  obtain ⟨r3, rfl, q2⟩ := h_
  show gj_Goes E om0 mt_161 10 [some (.long a1), none, some (.long a2), none, some (.long r1), none, none, none, none, none] [(.long r3)] SI4 SJ4 (QL Q)
  refine gj_goq gj_clT ok_161 [4, 10, 12] ?_
  show gj_Goes E om0 mt_161 12 [some (.long a1), none, some (.long a2), none, some (.long r1), none, some (.long r3), none, none, none] [] SI4 SJ4 (QL Q)
  exact gj_fh q2 (And.intro (Or.inl rfl) (And.intro (Or.inl rfl) (And.intro (Or.inl rfl) (And.intro (Or.inl rfl) (And.intro (Or.inr rfl) (And.intro (Or.inl rfl) (And.intro (Or.inr rfl) (And.intro (Or.inl rfl) (And.intro (Or.inl rfl) (And.intro (Or.inl rfl) trivial))))))))))
set_option maxRecDepth 20000 in
theorem lp_161_12 {E : gj_E} {Q : Int64 → gj_I → gj_J → Prop} (x4 : Int64) (x6 : Int64) (SI : gj_I) (SJ : gj_J) (h : (x6 = (i6 0) → Q x4 SI SJ) ∧ (¬ x6 = (i6 0) → ¬ x6 = 0 ∧ (GoL E mt_161 12 [none, none, none, none, some (.long x6), none, some (.long (x4 - x4 / x6 * x6)), none, none, none] SI SJ Q))) : GoL E mt_161 12 [none, none, none, none, some (.long x4), none, some (.long x6), none, none, none] SI SJ Q := by
  refine gj_goq gj_clT ok_161 [4, 10, 12] ?_
  show ((lg_cmp x6 (i6 0)) = 0 → gj_Goes E om0 mt_161 37 [none, none, none, none, some (.long x4), none, some (.long x6), none, none, none] [] SI SJ (QL Q)) ∧ (¬ (lg_cmp x6 (i6 0)) = 0 → ¬ x6 = 0 ∧ (gj_Goes E om0 mt_161 12 [none, none, none, none, some (.long x6), none, some (.long (x4 - x4 / x6 * x6)), none, some (.long (x4 - x4 / x6 * x6)), none] [] SI SJ (QL Q)))
  refine ⟨fun c1 => ?_, fun c1 => ?_⟩
  · refine gj_goq gj_clT ok_161 [4, 10, 12] ?_
    show QL Q (some (.long x4)) SI SJ
    exact ⟨_, rfl, (h.1 (lgc_eq.mp c1))⟩
  · have k2 := (h.2 (fun z_ => c1 (lgc_eq.mpr z_))).1
    refine ⟨k2, ?_⟩
    exact gj_fh (h.2 (fun z_ => c1 (lgc_eq.mpr z_))).2 (And.intro (Or.inl rfl) (And.intro (Or.inl rfl) (And.intro (Or.inl rfl) (And.intro (Or.inl rfl) (And.intro (Or.inr rfl) (And.intro (Or.inl rfl) (And.intro (Or.inr rfl) (And.intro (Or.inl rfl) (And.intro (Or.inl rfl) (And.intro (Or.inl rfl) trivial))))))))))
set_option maxRecDepth 20000 in
/-- GraspJudgeModel.corners -/
theorem st_162 {E : gj_E} {Q : Int32 → gj_I → gj_J → Prop} (SI : gj_I) (SJ : gj_J) (h : Q (SI 82 0) SI SJ) : DoI E 162 [(.ref 81)] SI SJ Q := by
  refine gj_start (M := mt_162) ok_162 (Nat.le_of_ble_eq_true rfl) ?_
  refine gj_goq gj_clT ok_162 [] ?_
  show vp_in (i3 0) 135 ∧ (QI Q (some (.int (SI 82 0))) SI SJ)
  refine ⟨(gj_vin (by decide)), ?_⟩
  exact ⟨_, rfl, h⟩
set_option maxRecDepth 20000 in
/-- GraspJudgeModel.cornerX -/
theorem st_163 {E : gj_E} {Q : Int32 → gj_I → gj_J → Prop} (a1 : Int32) (SI : gj_I) (SJ : gj_J) (h : DoI E 162 [(.ref 81)] SI SJ (fun r1 SI2 SJ2 => ¬ r1 = 0 ∧ (vp_in ((i3 1) + (a1 - a1 / r1 * r1)) 135 ∧ (Q (SI2 82 (gj_n ((i3 1) + (a1 - a1 / r1 * r1)))) SI2 SJ2)))) : DoI E 163 [(.ref 81), (.int a1)] SI SJ Q := by
  refine gj_start (M := mt_163) ok_163 (Nat.le_of_ble_eq_true rfl) ?_
  refine gj_goq gj_clT ok_163 [10] ?_
  show gj_Do E om0 (gj_mt 162) [(.ref 81)] SI SJ _
  refine gj_Do.mono h (fun v_ SI2 SJ2 h_ => ?_)
  obtain ⟨r1, rfl, q1⟩ := h_
  show gj_Goes E om0 mt_163 10 [some (.ref 81), some (.int a1)] [(.int r1), (.int a1), (.int (i3 1)), (.ref 82)] SI2 SJ2 (QI Q)
  refine gj_goq gj_clT ok_163 [10] ?_
  show ¬ r1 = 0 ∧ (vp_in ((i3 1) + (a1 - a1 / r1 * r1)) 135 ∧ (QI Q (some (.int (SI2 82 (gj_n ((i3 1) + (a1 - a1 / r1 * r1)))))) SI2 SJ2))
  have k2 := q1.1
  refine ⟨k2, ?_⟩
  have k3 := q1.2.1
  refine ⟨k3, ?_⟩
  exact ⟨_, rfl, q1.2.2⟩
set_option maxRecDepth 20000 in
/-- GraspJudgeModel.cornerY -/
theorem st_164 {E : gj_E} {Q : Int32 → gj_I → gj_J → Prop} (a1 : Int32) (SI : gj_I) (SJ : gj_J) (h : DoI E 162 [(.ref 81)] SI SJ (fun r1 SI2 SJ2 => ¬ r1 = 0 ∧ (vp_in ((i3 9) + (a1 - a1 / r1 * r1)) 135 ∧ (Q (SI2 82 (gj_n ((i3 9) + (a1 - a1 / r1 * r1)))) SI2 SJ2)))) : DoI E 164 [(.ref 81), (.int a1)] SI SJ Q := by
  refine gj_start (M := mt_164) ok_164 (Nat.le_of_ble_eq_true rfl) ?_
  refine gj_goq gj_clT ok_164 [11] ?_
  show gj_Do E om0 (gj_mt 162) [(.ref 81)] SI SJ _
  refine gj_Do.mono h (fun v_ SI2 SJ2 h_ => ?_)
  obtain ⟨r1, rfl, q1⟩ := h_
  show gj_Goes E om0 mt_164 11 [some (.ref 81), some (.int a1)] [(.int r1), (.int a1), (.int (i3 9)), (.ref 82)] SI2 SJ2 (QI Q)
  refine gj_goq gj_clT ok_164 [11] ?_
  show ¬ r1 = 0 ∧ (vp_in ((i3 9) + (a1 - a1 / r1 * r1)) 135 ∧ (QI Q (some (.int (SI2 82 (gj_n ((i3 9) + (a1 - a1 / r1 * r1)))))) SI2 SJ2))
  have k2 := q1.1
  refine ⟨k2, ?_⟩
  have k3 := q1.2.1
  refine ⟨k3, ?_⟩
  exact ⟨_, rfl, q1.2.2⟩
set_option maxRecDepth 20000 in
/-- GraspJudgeModel.stepsOf -/
theorem st_165 {E : gj_E} {Q : Int32 → gj_I → gj_J → Prop} (a1 : Int32) (SI : gj_I) (SJ : gj_J) (h : DoI E 163 [(.ref 81), (.int (a1 + (i3 1)))] SI SJ (fun r1 SI2 SJ2 => DoI E 163 [(.ref 81), (.int a1)] SI2 SJ2 (fun r3 SI4 SJ4 => DoI E 164 [(.ref 81), (.int (a1 + (i3 1)))] SI4 SJ4 (fun r5 SI6 SJ6 => DoI E 164 [(.ref 81), (.int a1)] SI6 SJ6 (fun r7 SI8 SJ8 => DoL E 161 [(.long (r1 - r3).toInt64), (.long (r5 - r7).toInt64)] SI8 SJ8 (fun r9 SI10 SJ10 => Q (r9).toInt32 SI10 SJ10)))))) : DoI E 165 [(.ref 81), (.int a1)] SI SJ Q := by
  refine gj_start (M := mt_165) ok_165 (Nat.le_of_ble_eq_true rfl) ?_
  refine gj_goq gj_clT ok_165 [7, 12, 21, 26, 31] ?_
  show gj_Do E om0 (gj_mt 163) [(.ref 81), (.int (a1 + (i3 1)))] SI SJ _
  refine gj_Do.mono h (fun v_ SI2 SJ2 h_ => ?_)
  obtain ⟨r1, rfl, q1⟩ := h_
  show gj_Goes E om0 mt_165 7 [some (.ref 81), some (.int a1)] [(.int r1)] SI2 SJ2 (QI Q)
  refine gj_goq gj_clT ok_165 [7, 12, 21, 26, 31] ?_
  show gj_Do E om0 (gj_mt 163) [(.ref 81), (.int a1)] SI2 SJ2 _
  refine gj_Do.mono q1 (fun v_ SI4 SJ4 h_ => ?_)
  obtain ⟨r3, rfl, q2⟩ := h_
  show gj_Goes E om0 mt_165 12 [some (.ref 81), some (.int a1)] [(.int r3), (.int r1)] SI4 SJ4 (QI Q)
  refine gj_goq gj_clT ok_165 [7, 12, 21, 26, 31] ?_
  show gj_Do E om0 (gj_mt 164) [(.ref 81), (.int (a1 + (i3 1)))] SI4 SJ4 _
  refine gj_Do.mono q2 (fun v_ SI6 SJ6 h_ => ?_)
  obtain ⟨r5, rfl, q3⟩ := h_
  show gj_Goes E om0 mt_165 21 [some (.ref 81), some (.int a1)] [(.int r5), (.long (r1 - r3).toInt64)] SI6 SJ6 (QI Q)
  refine gj_goq gj_clT ok_165 [7, 12, 21, 26, 31] ?_
  show gj_Do E om0 (gj_mt 164) [(.ref 81), (.int a1)] SI6 SJ6 _
  refine gj_Do.mono q3 (fun v_ SI8 SJ8 h_ => ?_)
  obtain ⟨r7, rfl, q4⟩ := h_
  show gj_Goes E om0 mt_165 26 [some (.ref 81), some (.int a1)] [(.int r7), (.int r5), (.long (r1 - r3).toInt64)] SI8 SJ8 (QI Q)
  refine gj_goq gj_clT ok_165 [7, 12, 21, 26, 31] ?_
  show gj_Do E om0 (gj_mt 161) [(.long (r1 - r3).toInt64), (.long (r5 - r7).toInt64)] SI8 SJ8 _
  refine gj_Do.mono q4 (fun v_ SI10 SJ10 h_ => ?_)
  obtain ⟨r9, rfl, q5⟩ := h_
  show gj_Goes E om0 mt_165 31 [some (.ref 81), some (.int a1)] [(.long r9)] SI10 SJ10 (QI Q)
  refine gj_goq gj_clT ok_165 [7, 12, 21, 26, 31] ?_
  show QI Q (some (.int (r9).toInt32)) SI10 SJ10
  exact ⟨_, rfl, q5⟩
set_option maxRecDepth 20000 in
/-- GraspJudgeModel.alongX -/
theorem st_166 {E : gj_E} {Q : Int32 → gj_I → gj_J → Prop} (a1 : Int32) (SI : gj_I) (SJ : gj_J) (h : DoI E 163 [(.ref 81), (.int (a1 + (i3 1)))] SI SJ (fun r1 SI2 SJ2 => DoI E 163 [(.ref 81), (.int a1)] SI2 SJ2 (fun r3 SI4 SJ4 => DoI E 165 [(.ref 81), (.int a1)] SI4 SJ4 (fun r5 SI6 SJ6 => ¬ r5 = 0 ∧ (Q ((r1 - r3) / r5) SI6 SJ6))))) : DoI E 166 [(.ref 81), (.int a1)] SI SJ Q := by
  refine gj_start (M := mt_166) ok_166 (Nat.le_of_ble_eq_true rfl) ?_
  refine gj_goq gj_clT ok_166 [7, 12, 18] ?_
  show gj_Do E om0 (gj_mt 163) [(.ref 81), (.int (a1 + (i3 1)))] SI SJ _
  refine gj_Do.mono h (fun v_ SI2 SJ2 h_ => ?_)
  obtain ⟨r1, rfl, q1⟩ := h_
  show gj_Goes E om0 mt_166 7 [some (.ref 81), some (.int a1)] [(.int r1)] SI2 SJ2 (QI Q)
  refine gj_goq gj_clT ok_166 [7, 12, 18] ?_
  show gj_Do E om0 (gj_mt 163) [(.ref 81), (.int a1)] SI2 SJ2 _
  refine gj_Do.mono q1 (fun v_ SI4 SJ4 h_ => ?_)
  obtain ⟨r3, rfl, q2⟩ := h_
  show gj_Goes E om0 mt_166 12 [some (.ref 81), some (.int a1)] [(.int r3), (.int r1)] SI4 SJ4 (QI Q)
  refine gj_goq gj_clT ok_166 [7, 12, 18] ?_
  show gj_Do E om0 (gj_mt 165) [(.ref 81), (.int a1)] SI4 SJ4 _
  refine gj_Do.mono q2 (fun v_ SI6 SJ6 h_ => ?_)
  obtain ⟨r5, rfl, q3⟩ := h_
  show gj_Goes E om0 mt_166 18 [some (.ref 81), some (.int a1)] [(.int r5), (.int (r1 - r3))] SI6 SJ6 (QI Q)
  refine gj_goq gj_clT ok_166 [7, 12, 18] ?_
  show ¬ r5 = 0 ∧ (QI Q (some (.int ((r1 - r3) / r5))) SI6 SJ6)
  have k4 := q3.1
  refine ⟨k4, ?_⟩
  exact ⟨_, rfl, q3.2⟩
set_option maxRecDepth 20000 in
/-- GraspJudgeModel.alongY -/
theorem st_167 {E : gj_E} {Q : Int32 → gj_I → gj_J → Prop} (a1 : Int32) (SI : gj_I) (SJ : gj_J) (h : DoI E 164 [(.ref 81), (.int (a1 + (i3 1)))] SI SJ (fun r1 SI2 SJ2 => DoI E 164 [(.ref 81), (.int a1)] SI2 SJ2 (fun r3 SI4 SJ4 => DoI E 165 [(.ref 81), (.int a1)] SI4 SJ4 (fun r5 SI6 SJ6 => ¬ r5 = 0 ∧ (Q ((r1 - r3) / r5) SI6 SJ6))))) : DoI E 167 [(.ref 81), (.int a1)] SI SJ Q := by
  refine gj_start (M := mt_167) ok_167 (Nat.le_of_ble_eq_true rfl) ?_
  refine gj_goq gj_clT ok_167 [7, 12, 18] ?_
  show gj_Do E om0 (gj_mt 164) [(.ref 81), (.int (a1 + (i3 1)))] SI SJ _
  refine gj_Do.mono h (fun v_ SI2 SJ2 h_ => ?_)
  obtain ⟨r1, rfl, q1⟩ := h_
  show gj_Goes E om0 mt_167 7 [some (.ref 81), some (.int a1)] [(.int r1)] SI2 SJ2 (QI Q)
  refine gj_goq gj_clT ok_167 [7, 12, 18] ?_
  show gj_Do E om0 (gj_mt 164) [(.ref 81), (.int a1)] SI2 SJ2 _
  refine gj_Do.mono q1 (fun v_ SI4 SJ4 h_ => ?_)
  obtain ⟨r3, rfl, q2⟩ := h_
  show gj_Goes E om0 mt_167 12 [some (.ref 81), some (.int a1)] [(.int r3), (.int r1)] SI4 SJ4 (QI Q)
  refine gj_goq gj_clT ok_167 [7, 12, 18] ?_
  show gj_Do E om0 (gj_mt 165) [(.ref 81), (.int a1)] SI4 SJ4 _
  refine gj_Do.mono q2 (fun v_ SI6 SJ6 h_ => ?_)
  obtain ⟨r5, rfl, q3⟩ := h_
  show gj_Goes E om0 mt_167 18 [some (.ref 81), some (.int a1)] [(.int r5), (.int (r1 - r3))] SI6 SJ6 (QI Q)
  refine gj_goq gj_clT ok_167 [7, 12, 18] ?_
  show ¬ r5 = 0 ∧ (QI Q (some (.int ((r1 - r3) / r5))) SI6 SJ6)
  have k4 := q3.1
  refine ⟨k4, ?_⟩
  exact ⟨_, rfl, q3.2⟩
set_option maxRecDepth 20000 in
/-- GraspJudgeModel.atX -/
theorem st_168 {E : gj_E} {Q : Int32 → gj_I → gj_J → Prop} (a1 : Int32) (a2 : Int32) (SI : gj_I) (SJ : gj_J) (h : DoI E 163 [(.ref 81), (.int a1)] SI SJ (fun r1 SI2 SJ2 => DoI E 166 [(.ref 81), (.int a1)] SI2 SJ2 (fun r3 SI4 SJ4 => Q (r1 + (a2 * r3)) SI4 SJ4))) : DoI E 168 [(.ref 81), (.int a1), (.int a2)] SI SJ Q := by
  refine gj_start (M := mt_168) ok_168 (Nat.le_of_ble_eq_true rfl) ?_
  refine gj_goq gj_clT ok_168 [5, 11] ?_
  show gj_Do E om0 (gj_mt 163) [(.ref 81), (.int a1)] SI SJ _
  refine gj_Do.mono h (fun v_ SI2 SJ2 h_ => ?_)
  obtain ⟨r1, rfl, q1⟩ := h_
  show gj_Goes E om0 mt_168 5 [some (.ref 81), some (.int a1), some (.int a2)] [(.int r1)] SI2 SJ2 (QI Q)
  refine gj_goq gj_clT ok_168 [5, 11] ?_
  show gj_Do E om0 (gj_mt 166) [(.ref 81), (.int a1)] SI2 SJ2 _
  refine gj_Do.mono q1 (fun v_ SI4 SJ4 h_ => ?_)
  obtain ⟨r3, rfl, q2⟩ := h_
  show gj_Goes E om0 mt_168 11 [some (.ref 81), some (.int a1), some (.int a2)] [(.int r3), (.int a2), (.int r1)] SI4 SJ4 (QI Q)
  refine gj_goq gj_clT ok_168 [5, 11] ?_
  show QI Q (some (.int (r1 + (a2 * r3)))) SI4 SJ4
  exact ⟨_, rfl, q2⟩
set_option maxRecDepth 20000 in
/-- GraspJudgeModel.atY -/
theorem st_169 {E : gj_E} {Q : Int32 → gj_I → gj_J → Prop} (a1 : Int32) (a2 : Int32) (SI : gj_I) (SJ : gj_J) (h : DoI E 164 [(.ref 81), (.int a1)] SI SJ (fun r1 SI2 SJ2 => DoI E 167 [(.ref 81), (.int a1)] SI2 SJ2 (fun r3 SI4 SJ4 => Q (r1 + (a2 * r3)) SI4 SJ4))) : DoI E 169 [(.ref 81), (.int a1), (.int a2)] SI SJ Q := by
  refine gj_start (M := mt_169) ok_169 (Nat.le_of_ble_eq_true rfl) ?_
  refine gj_goq gj_clT ok_169 [5, 11] ?_
  show gj_Do E om0 (gj_mt 164) [(.ref 81), (.int a1)] SI SJ _
  refine gj_Do.mono h (fun v_ SI2 SJ2 h_ => ?_)
  obtain ⟨r1, rfl, q1⟩ := h_
  show gj_Goes E om0 mt_169 5 [some (.ref 81), some (.int a1), some (.int a2)] [(.int r1)] SI2 SJ2 (QI Q)
  refine gj_goq gj_clT ok_169 [5, 11] ?_
  show gj_Do E om0 (gj_mt 167) [(.ref 81), (.int a1)] SI2 SJ2 _
  refine gj_Do.mono q1 (fun v_ SI4 SJ4 h_ => ?_)
  obtain ⟨r3, rfl, q2⟩ := h_
  show gj_Goes E om0 mt_169 11 [some (.ref 81), some (.int a1), some (.int a2)] [(.int r3), (.int a2), (.int r1)] SI4 SJ4 (QI Q)
  refine gj_goq gj_clT ok_169 [5, 11] ?_
  show QI Q (some (.int (r1 + (a2 * r3)))) SI4 SJ4
  exact ⟨_, rfl, q2⟩
set_option maxRecDepth 20000 in
/-- GraspJudgeModel.sideOf -/
theorem st_170 {E : gj_E} {Q : Int64 → gj_I → gj_J → Prop} (a1 : Int32) (a2 : Int32) (a3 : Int32) (a4 : Int32) (SI : gj_I) (SJ : gj_J) (h : DoI E 163 [(.ref 81), (.int a2)] SI SJ (fun r1 SI2 SJ2 => DoI E 163 [(.ref 81), (.int a1)] SI2 SJ2 (fun r3 SI4 SJ4 => DoI E 164 [(.ref 81), (.int a1)] SI4 SJ4 (fun r5 SI6 SJ6 => DoI E 164 [(.ref 81), (.int a2)] SI6 SJ6 (fun r7 SI8 SJ8 => DoI E 164 [(.ref 81), (.int a1)] SI8 SJ8 (fun r9 SI10 SJ10 => DoI E 163 [(.ref 81), (.int a1)] SI10 SJ10 (fun r11 SI12 SJ12 => Q (((r1 - r3).toInt64 * (a4 - r5).toInt64) - ((r7 - r9).toInt64 * (a3 - r11).toInt64)) SI12 SJ12))))))) : DoL E 170 [(.ref 81), (.int a1), (.int a2), (.int a3), (.int a4)] SI SJ Q := by
  refine gj_start (M := mt_170) ok_170 (Nat.le_of_ble_eq_true rfl) ?_
  refine gj_goq gj_clT ok_170 [5, 10, 19, 27, 32, 40] ?_
  show gj_Do E om0 (gj_mt 163) [(.ref 81), (.int a2)] SI SJ _
  refine gj_Do.mono h (fun v_ SI2 SJ2 h_ => ?_)
  obtain ⟨r1, rfl, q1⟩ := h_
  show gj_Goes E om0 mt_170 5 [some (.ref 81), some (.int a1), some (.int a2), some (.int a3), some (.int a4)] [(.int r1)] SI2 SJ2 (QL Q)
  refine gj_goq gj_clT ok_170 [5, 10, 19, 27, 32, 40] ?_
  show gj_Do E om0 (gj_mt 163) [(.ref 81), (.int a1)] SI2 SJ2 _
  refine gj_Do.mono q1 (fun v_ SI4 SJ4 h_ => ?_)
  obtain ⟨r3, rfl, q2⟩ := h_
  show gj_Goes E om0 mt_170 10 [some (.ref 81), some (.int a1), some (.int a2), some (.int a3), some (.int a4)] [(.int r3), (.int r1)] SI4 SJ4 (QL Q)
  refine gj_goq gj_clT ok_170 [5, 10, 19, 27, 32, 40] ?_
  show gj_Do E om0 (gj_mt 164) [(.ref 81), (.int a1)] SI4 SJ4 _
  refine gj_Do.mono q2 (fun v_ SI6 SJ6 h_ => ?_)
  obtain ⟨r5, rfl, q3⟩ := h_
  show gj_Goes E om0 mt_170 19 [some (.ref 81), some (.int a1), some (.int a2), some (.int a3), some (.int a4)] [(.int r5), (.int a4), (.long (r1 - r3).toInt64)] SI6 SJ6 (QL Q)
  refine gj_goq gj_clT ok_170 [5, 10, 19, 27, 32, 40] ?_
  show gj_Do E om0 (gj_mt 164) [(.ref 81), (.int a2)] SI6 SJ6 _
  refine gj_Do.mono q3 (fun v_ SI8 SJ8 h_ => ?_)
  obtain ⟨r7, rfl, q4⟩ := h_
  show gj_Goes E om0 mt_170 27 [some (.ref 81), some (.int a1), some (.int a2), some (.int a3), some (.int a4)] [(.int r7), (.long ((r1 - r3).toInt64 * (a4 - r5).toInt64))] SI8 SJ8 (QL Q)
  refine gj_goq gj_clT ok_170 [5, 10, 19, 27, 32, 40] ?_
  show gj_Do E om0 (gj_mt 164) [(.ref 81), (.int a1)] SI8 SJ8 _
  refine gj_Do.mono q4 (fun v_ SI10 SJ10 h_ => ?_)
  obtain ⟨r9, rfl, q5⟩ := h_
  show gj_Goes E om0 mt_170 32 [some (.ref 81), some (.int a1), some (.int a2), some (.int a3), some (.int a4)] [(.int r9), (.int r7), (.long ((r1 - r3).toInt64 * (a4 - r5).toInt64))] SI10 SJ10 (QL Q)
  refine gj_goq gj_clT ok_170 [5, 10, 19, 27, 32, 40] ?_
  show gj_Do E om0 (gj_mt 163) [(.ref 81), (.int a1)] SI10 SJ10 _
  refine gj_Do.mono q5 (fun v_ SI12 SJ12 h_ => ?_)
  obtain ⟨r11, rfl, q6⟩ := h_
  show gj_Goes E om0 mt_170 40 [some (.ref 81), some (.int a1), some (.int a2), some (.int a3), some (.int a4)] [(.int r11), (.int a3), (.long (r7 - r9).toInt64), (.long ((r1 - r3).toInt64 * (a4 - r5).toInt64))] SI12 SJ12 (QL Q)
  refine gj_goq gj_clT ok_170 [5, 10, 19, 27, 32, 40] ?_
  show QL Q (some (.long (((r1 - r3).toInt64 * (a4 - r5).toInt64) - ((r7 - r9).toInt64 * (a3 - r11).toInt64)))) SI12 SJ12
  exact ⟨_, rfl, q6⟩
set_option maxRecDepth 20000 in
/-- GraspJudgeModel.signOf -/
theorem st_171 {E : gj_E} {Q : Int32 → gj_I → gj_J → Prop} (a1 : Int64) (SI : gj_I) (SJ : gj_J) (h : (a1 ≤ (i6 0) → (a1 ≥ (i6 0) → Q (i3 0) SI SJ) ∧ (¬ a1 ≥ (i6 0) → Q (i3 (-1)) SI SJ)) ∧ (¬ a1 ≤ (i6 0) → Q (i3 1) SI SJ)) : DoI E 171 [(.long a1)] SI SJ Q := by
  refine gj_start (M := mt_171) ok_171 (Nat.le_of_ble_eq_true rfl) ?_
  refine gj_goq gj_clT ok_171 [] ?_
  show ((lg_cmp a1 (i6 0)) ≤ 0 → gj_Goes E om0 mt_171 10 [some (.long a1), none] [] SI SJ (QI Q)) ∧ (¬ (lg_cmp a1 (i6 0)) ≤ 0 → gj_Goes E om0 mt_171 21 [some (.long a1), none] [(.int (i3 1))] SI SJ (QI Q))
  refine ⟨fun c1 => ?_, fun c1 => ?_⟩
  · refine gj_goq gj_clT ok_171 [] ?_
    show (0 ≤ (lg_cmp a1 (i6 0)) → gj_Goes E om0 mt_171 20 [some (.long a1), none] [] SI SJ (QI Q)) ∧ (¬ 0 ≤ (lg_cmp a1 (i6 0)) → gj_Goes E om0 mt_171 21 [some (.long a1), none] [(.int (i3 (-1)))] SI SJ (QI Q))
    refine ⟨fun c2 => ?_, fun c2 => ?_⟩
    · refine gj_goq gj_clT ok_171 [] ?_
      show QI Q (some (.int (i3 0))) SI SJ
      exact ⟨_, rfl, ((h.1 (lgc_le.mp c1)).1 (lgc_ge.mp c2))⟩
    · refine gj_goq gj_clT ok_171 [] ?_
      show QI Q (some (.int (i3 (-1)))) SI SJ
      exact ⟨_, rfl, ((h.1 (lgc_le.mp c1)).2 (fun z_ => c2 (lgc_ge.mpr z_)))⟩
  · refine gj_goq gj_clT ok_171 [] ?_
    show QI Q (some (.int (i3 1))) SI SJ
    exact ⟨_, rfl, (h.2 (fun z_ => c1 (lgc_le.mpr z_)))⟩
set_option maxRecDepth 20000 in
/-- GraspJudgeModel.isBetween -/
theorem st_172 {E : gj_E} {Q : Int32 → gj_I → gj_J → Prop} (a1 : Int32) (a2 : Int32) (a3 : Int32) (SI : gj_I) (SJ : gj_J) (h : DoL E 170 [(.ref 81), (.int a1), (.int (a1 + (i3 1))), (.int a2), (.int a3)] SI SJ (fun r1 SI2 SJ2 => (r1 = (i6 0) → DoI E 163 [(.ref 81), (.int a1)] SI2 SJ2 (fun r3 SI4 SJ4 => DoI E 163 [(.ref 81), (.int (a1 + (i3 1)))] SI4 SJ4 (fun r5 SI6 SJ6 => DoI E 156 [(.int r3), (.int r5)] SI6 SJ6 (fun r7 SI8 SJ8 => DoI E 163 [(.ref 81), (.int a1)] SI8 SJ8 (fun r9 SI10 SJ10 => DoI E 163 [(.ref 81), (.int (a1 + (i3 1)))] SI10 SJ10 (fun r11 SI12 SJ12 => DoI E 157 [(.int r9), (.int r11)] SI12 SJ12 (fun r13 SI14 SJ14 => DoI E 155 [(.long (a2).toInt64), (.long (r7).toInt64), (.long (r13).toInt64)] SI14 SJ14 (fun r15 SI16 SJ16 => (r15 = 0 → Q (i3 0) SI16 SJ16) ∧ (¬ r15 = 0 → DoI E 164 [(.ref 81), (.int a1)] SI16 SJ16 (fun r17 SI18 SJ18 => DoI E 164 [(.ref 81), (.int (a1 + (i3 1)))] SI18 SJ18 (fun r19 SI20 SJ20 => DoI E 156 [(.int r17), (.int r19)] SI20 SJ20 (fun r21 SI22 SJ22 => DoI E 164 [(.ref 81), (.int a1)] SI22 SJ22 (fun r23 SI24 SJ24 => DoI E 164 [(.ref 81), (.int (a1 + (i3 1)))] SI24 SJ24 (fun r25 SI26 SJ26 => DoI E 157 [(.int r23), (.int r25)] SI26 SJ26 (fun r27 SI28 SJ28 => DoI E 155 [(.long (a3).toInt64), (.long (r21).toInt64), (.long (r27).toInt64)] SI28 SJ28 (fun r29 SI30 SJ30 => (r29 = 0 → Q (i3 0) SI30 SJ30) ∧ (¬ r29 = 0 → Q (i3 1) SI30 SJ30))))))))))))))))) ∧ (¬ r1 = (i6 0) → Q (i3 0) SI2 SJ2))) : DoI E 172 [(.ref 81), (.int a1), (.int a2), (.int a3)] SI SJ Q := by
  refine gj_start (M := mt_172) ok_172 (Nat.le_of_ble_eq_true rfl) ?_
  refine gj_goq gj_clT ok_172 [10, 24, 31, 34, 40, 47, 50, 54, 64, 71, 74, 80, 87, 90, 94] ?_
  show gj_Do E om0 (gj_mt 170) [(.ref 81), (.int a1), (.int (a1 + (i3 1))), (.int a2), (.int a3)] SI SJ _
  refine gj_Do.mono h (fun v_ SI2 SJ2 h_ => ?_)
  obtain ⟨r1, rfl, q1⟩ := h_
  show gj_Goes E om0 mt_172 10 [some (.ref 81), some (.int a1), some (.int a2), some (.int a3)] [(.long r1)] SI2 SJ2 (QI Q)
  refine gj_goq gj_clT ok_172 [10, 24, 31, 34, 40, 47, 50, 54, 64, 71, 74, 80, 87, 90, 94] ?_
  show ((lg_cmp r1 (i6 0)) = 0 → gj_Goes E om0 mt_172 17 [some (.ref 81), some (.int a1), some (.int a2), some (.int a3)] [] SI2 SJ2 (QI Q)) ∧ (¬ (lg_cmp r1 (i6 0)) = 0 → ((i3 0) = 0 ∨ (i3 0) = 1) ∧ (QI Q (some (.int (i3 0))) SI2 SJ2))
  refine ⟨fun c2 => ?_, fun c2 => ?_⟩
  · refine gj_goq gj_clT ok_172 [10, 24, 31, 34, 40, 47, 50, 54, 64, 71, 74, 80, 87, 90, 94] ?_
    show gj_Do E om0 (gj_mt 163) [(.ref 81), (.int a1)] SI2 SJ2 _
    refine gj_Do.mono (q1.1 (lgc_eq.mp c2)) (fun v_ SI4 SJ4 h_ => ?_)
    obtain ⟨r3, rfl, q3⟩ := h_
    show gj_Goes E om0 mt_172 24 [some (.ref 81), some (.int a1), some (.int a2), some (.int a3)] [(.int r3), (.long (a2).toInt64)] SI4 SJ4 (QI Q)
    refine gj_goq gj_clT ok_172 [10, 24, 31, 34, 40, 47, 50, 54, 64, 71, 74, 80, 87, 90, 94] ?_
    show gj_Do E om0 (gj_mt 163) [(.ref 81), (.int (a1 + (i3 1)))] SI4 SJ4 _
    refine gj_Do.mono q3 (fun v_ SI6 SJ6 h_ => ?_)
    obtain ⟨r5, rfl, q4⟩ := h_
    show gj_Goes E om0 mt_172 31 [some (.ref 81), some (.int a1), some (.int a2), some (.int a3)] [(.int r5), (.int r3), (.long (a2).toInt64)] SI6 SJ6 (QI Q)
    refine gj_goq gj_clT ok_172 [10, 24, 31, 34, 40, 47, 50, 54, 64, 71, 74, 80, 87, 90, 94] ?_
    show gj_Do E om0 (gj_mt 156) [(.int r3), (.int r5)] SI6 SJ6 _
    refine gj_Do.mono q4 (fun v_ SI8 SJ8 h_ => ?_)
    obtain ⟨r7, rfl, q5⟩ := h_
    show gj_Goes E om0 mt_172 34 [some (.ref 81), some (.int a1), some (.int a2), some (.int a3)] [(.int r7), (.long (a2).toInt64)] SI8 SJ8 (QI Q)
    refine gj_goq gj_clT ok_172 [10, 24, 31, 34, 40, 47, 50, 54, 64, 71, 74, 80, 87, 90, 94] ?_
    show gj_Do E om0 (gj_mt 163) [(.ref 81), (.int a1)] SI8 SJ8 _
    refine gj_Do.mono q5 (fun v_ SI10 SJ10 h_ => ?_)
    obtain ⟨r9, rfl, q6⟩ := h_
    show gj_Goes E om0 mt_172 40 [some (.ref 81), some (.int a1), some (.int a2), some (.int a3)] [(.int r9), (.long (r7).toInt64), (.long (a2).toInt64)] SI10 SJ10 (QI Q)
    refine gj_goq gj_clT ok_172 [10, 24, 31, 34, 40, 47, 50, 54, 64, 71, 74, 80, 87, 90, 94] ?_
    show gj_Do E om0 (gj_mt 163) [(.ref 81), (.int (a1 + (i3 1)))] SI10 SJ10 _
    refine gj_Do.mono q6 (fun v_ SI12 SJ12 h_ => ?_)
    obtain ⟨r11, rfl, q7⟩ := h_
    show gj_Goes E om0 mt_172 47 [some (.ref 81), some (.int a1), some (.int a2), some (.int a3)] [(.int r11), (.int r9), (.long (r7).toInt64), (.long (a2).toInt64)] SI12 SJ12 (QI Q)
    refine gj_goq gj_clT ok_172 [10, 24, 31, 34, 40, 47, 50, 54, 64, 71, 74, 80, 87, 90, 94] ?_
    show gj_Do E om0 (gj_mt 157) [(.int r9), (.int r11)] SI12 SJ12 _
    refine gj_Do.mono q7 (fun v_ SI14 SJ14 h_ => ?_)
    obtain ⟨r13, rfl, q8⟩ := h_
    show gj_Goes E om0 mt_172 50 [some (.ref 81), some (.int a1), some (.int a2), some (.int a3)] [(.int r13), (.long (r7).toInt64), (.long (a2).toInt64)] SI14 SJ14 (QI Q)
    refine gj_goq gj_clT ok_172 [10, 24, 31, 34, 40, 47, 50, 54, 64, 71, 74, 80, 87, 90, 94] ?_
    show gj_Do E om0 (gj_mt 155) [(.long (a2).toInt64), (.long (r7).toInt64), (.long (r13).toInt64)] SI14 SJ14 _
    refine gj_Do.mono q8 (fun v_ SI16 SJ16 h_ => ?_)
    obtain ⟨r15, rfl, q9⟩ := h_
    show gj_Goes E om0 mt_172 54 [some (.ref 81), some (.int a1), some (.int a2), some (.int a3)] [(.int r15)] SI16 SJ16 (QI Q)
    refine gj_goq gj_clT ok_172 [10, 24, 31, 34, 40, 47, 50, 54, 64, 71, 74, 80, 87, 90, 94] ?_
    show (r15 = 0 → gj_Goes E om0 mt_172 101 [some (.ref 81), some (.int a1), some (.int a2), some (.int a3)] [] SI16 SJ16 (QI Q)) ∧ (¬ r15 = 0 → gj_Do E om0 (gj_mt 164) [(.ref 81), (.int a1)] SI16 SJ16 _)
    refine ⟨fun c10 => ?_, fun c10 => ?_⟩
    · refine gj_goq gj_clT ok_172 [10, 24, 31, 34, 40, 47, 50, 54, 64, 71, 74, 80, 87, 90, 94] ?_
      show ((i3 0) = 0 ∨ (i3 0) = 1) ∧ (QI Q (some (.int (i3 0))) SI16 SJ16)
      refine ⟨(Or.inl rfl), ?_⟩
      exact ⟨_, rfl, (q9.1 c10)⟩
    · refine gj_Do.mono (q9.2 c10) (fun v_ SI18 SJ18 h_ => ?_)
      obtain ⟨r17, rfl, q11⟩ := h_
      show gj_Goes E om0 mt_172 64 [some (.ref 81), some (.int a1), some (.int a2), some (.int a3)] [(.int r17), (.long (a3).toInt64)] SI18 SJ18 (QI Q)
      refine gj_goq gj_clT ok_172 [10, 24, 31, 34, 40, 47, 50, 54, 64, 71, 74, 80, 87, 90, 94] ?_
      show gj_Do E om0 (gj_mt 164) [(.ref 81), (.int (a1 + (i3 1)))] SI18 SJ18 _
      refine gj_Do.mono q11 (fun v_ SI20 SJ20 h_ => ?_)
      obtain ⟨r19, rfl, q12⟩ := h_
      show gj_Goes E om0 mt_172 71 [some (.ref 81), some (.int a1), some (.int a2), some (.int a3)] [(.int r19), (.int r17), (.long (a3).toInt64)] SI20 SJ20 (QI Q)
      refine gj_goq gj_clT ok_172 [10, 24, 31, 34, 40, 47, 50, 54, 64, 71, 74, 80, 87, 90, 94] ?_
      show gj_Do E om0 (gj_mt 156) [(.int r17), (.int r19)] SI20 SJ20 _
      refine gj_Do.mono q12 (fun v_ SI22 SJ22 h_ => ?_)
      obtain ⟨r21, rfl, q13⟩ := h_
      show gj_Goes E om0 mt_172 74 [some (.ref 81), some (.int a1), some (.int a2), some (.int a3)] [(.int r21), (.long (a3).toInt64)] SI22 SJ22 (QI Q)
      refine gj_goq gj_clT ok_172 [10, 24, 31, 34, 40, 47, 50, 54, 64, 71, 74, 80, 87, 90, 94] ?_
      show gj_Do E om0 (gj_mt 164) [(.ref 81), (.int a1)] SI22 SJ22 _
      refine gj_Do.mono q13 (fun v_ SI24 SJ24 h_ => ?_)
      obtain ⟨r23, rfl, q14⟩ := h_
      show gj_Goes E om0 mt_172 80 [some (.ref 81), some (.int a1), some (.int a2), some (.int a3)] [(.int r23), (.long (r21).toInt64), (.long (a3).toInt64)] SI24 SJ24 (QI Q)
      refine gj_goq gj_clT ok_172 [10, 24, 31, 34, 40, 47, 50, 54, 64, 71, 74, 80, 87, 90, 94] ?_
      show gj_Do E om0 (gj_mt 164) [(.ref 81), (.int (a1 + (i3 1)))] SI24 SJ24 _
      refine gj_Do.mono q14 (fun v_ SI26 SJ26 h_ => ?_)
      obtain ⟨r25, rfl, q15⟩ := h_
      show gj_Goes E om0 mt_172 87 [some (.ref 81), some (.int a1), some (.int a2), some (.int a3)] [(.int r25), (.int r23), (.long (r21).toInt64), (.long (a3).toInt64)] SI26 SJ26 (QI Q)
      refine gj_goq gj_clT ok_172 [10, 24, 31, 34, 40, 47, 50, 54, 64, 71, 74, 80, 87, 90, 94] ?_
      show gj_Do E om0 (gj_mt 157) [(.int r23), (.int r25)] SI26 SJ26 _
      refine gj_Do.mono q15 (fun v_ SI28 SJ28 h_ => ?_)
      obtain ⟨r27, rfl, q16⟩ := h_
      show gj_Goes E om0 mt_172 90 [some (.ref 81), some (.int a1), some (.int a2), some (.int a3)] [(.int r27), (.long (r21).toInt64), (.long (a3).toInt64)] SI28 SJ28 (QI Q)
      refine gj_goq gj_clT ok_172 [10, 24, 31, 34, 40, 47, 50, 54, 64, 71, 74, 80, 87, 90, 94] ?_
      show gj_Do E om0 (gj_mt 155) [(.long (a3).toInt64), (.long (r21).toInt64), (.long (r27).toInt64)] SI28 SJ28 _
      refine gj_Do.mono q16 (fun v_ SI30 SJ30 h_ => ?_)
      obtain ⟨r29, rfl, q17⟩ := h_
      show gj_Goes E om0 mt_172 94 [some (.ref 81), some (.int a1), some (.int a2), some (.int a3)] [(.int r29)] SI30 SJ30 (QI Q)
      refine gj_goq gj_clT ok_172 [10, 24, 31, 34, 40, 47, 50, 54, 64, 71, 74, 80, 87, 90, 94] ?_
      show (r29 = 0 → gj_Goes E om0 mt_172 101 [some (.ref 81), some (.int a1), some (.int a2), some (.int a3)] [] SI30 SJ30 (QI Q)) ∧ (¬ r29 = 0 → gj_Goes E om0 mt_172 102 [some (.ref 81), some (.int a1), some (.int a2), some (.int a3)] [(.int (i3 1))] SI30 SJ30 (QI Q))
      refine ⟨fun c18 => ?_, fun c18 => ?_⟩
      · refine gj_goq gj_clT ok_172 [10, 24, 31, 34, 40, 47, 50, 54, 64, 71, 74, 80, 87, 90, 94] ?_
        show ((i3 0) = 0 ∨ (i3 0) = 1) ∧ (QI Q (some (.int (i3 0))) SI30 SJ30)
        refine ⟨(Or.inl rfl), ?_⟩
        exact ⟨_, rfl, (q17.1 c18)⟩
      · refine gj_goq gj_clT ok_172 [10, 24, 31, 34, 40, 47, 50, 54, 64, 71, 74, 80, 87, 90, 94] ?_
        show ((i3 1) = 0 ∨ (i3 1) = 1) ∧ (QI Q (some (.int (i3 1))) SI30 SJ30)
        refine ⟨(Or.inr rfl), ?_⟩
        exact ⟨_, rfl, (q17.2 c18)⟩
  · refine ⟨(Or.inl rfl), ?_⟩
    exact ⟨_, rfl, (q1.2 (fun z_ => c2 (lgc_eq.mpr z_)))⟩
set_option maxRecDepth 20000 in
/-- GraspJudgeModel.areMeeting -/
theorem st_173 {E : gj_E} {Q : Int32 → gj_I → gj_J → Prop} (a1 : Int32) (a2 : Int32) (SI : gj_I) (SJ : gj_J) (h : DoI E 163 [(.ref 81), (.int a2)] SI SJ (fun r1 SI2 SJ2 => DoI E 164 [(.ref 81), (.int a2)] SI2 SJ2 (fun r3 SI4 SJ4 => DoL E 170 [(.ref 81), (.int a1), (.int (a1 + (i3 1))), (.int r1), (.int r3)] SI4 SJ4 (fun r5 SI6 SJ6 => DoI E 171 [(.long r5)] SI6 SJ6 (fun r7 SI8 SJ8 => DoI E 163 [(.ref 81), (.int (a2 + (i3 1)))] SI8 SJ8 (fun r9 SI10 SJ10 => DoI E 164 [(.ref 81), (.int (a2 + (i3 1)))] SI10 SJ10 (fun r11 SI12 SJ12 => DoL E 170 [(.ref 81), (.int a1), (.int (a1 + (i3 1))), (.int r9), (.int r11)] SI12 SJ12 (fun r13 SI14 SJ14 => DoI E 171 [(.long r13)] SI14 SJ14 (fun r15 SI16 SJ16 => DoI E 163 [(.ref 81), (.int a1)] SI16 SJ16 (fun r17 SI18 SJ18 => DoI E 164 [(.ref 81), (.int a1)] SI18 SJ18 (fun r19 SI20 SJ20 => DoL E 170 [(.ref 81), (.int a2), (.int (a2 + (i3 1))), (.int r17), (.int r19)] SI20 SJ20 (fun r21 SI22 SJ22 => DoI E 171 [(.long r21)] SI22 SJ22 (fun r23 SI24 SJ24 => DoI E 163 [(.ref 81), (.int (a1 + (i3 1)))] SI24 SJ24 (fun r25 SI26 SJ26 => DoI E 164 [(.ref 81), (.int (a1 + (i3 1)))] SI26 SJ26 (fun r27 SI28 SJ28 => DoL E 170 [(.ref 81), (.int a2), (.int (a2 + (i3 1))), (.int r25), (.int r27)] SI28 SJ28 (fun r29 SI30 SJ30 => DoI E 171 [(.long r29)] SI30 SJ30 (fun r31 SI32 SJ32 => (0 ≤ (r7 * r15) → DoI E 163 [(.ref 81), (.int a2)] SI32 SJ32 (fun r33 SI34 SJ34 => DoI E 164 [(.ref 81), (.int a2)] SI34 SJ34 (fun r35 SI36 SJ36 => DoI E 172 [(.ref 81), (.int a1), (.int r33), (.int r35)] SI36 SJ36 (fun r37 SI38 SJ38 => (¬ r37 = 0 → Q (i3 1) SI38 SJ38) ∧ (r37 = 0 → DoI E 163 [(.ref 81), (.int (a2 + (i3 1)))] SI38 SJ38 (fun r39 SI40 SJ40 => DoI E 164 [(.ref 81), (.int (a2 + (i3 1)))] SI40 SJ40 (fun r41 SI42 SJ42 => DoI E 172 [(.ref 81), (.int a1), (.int r39), (.int r41)] SI42 SJ42 (fun r43 SI44 SJ44 => (¬ r43 = 0 → Q (i3 1) SI44 SJ44) ∧ (r43 = 0 → DoI E 163 [(.ref 81), (.int a1)] SI44 SJ44 (fun r45 SI46 SJ46 => DoI E 164 [(.ref 81), (.int a1)] SI46 SJ46 (fun r47 SI48 SJ48 => DoI E 172 [(.ref 81), (.int a2), (.int r45), (.int r47)] SI48 SJ48 (fun r49 SI50 SJ50 => (¬ r49 = 0 → Q (i3 1) SI50 SJ50) ∧ (r49 = 0 → DoI E 163 [(.ref 81), (.int (a1 + (i3 1)))] SI50 SJ50 (fun r51 SI52 SJ52 => DoI E 164 [(.ref 81), (.int (a1 + (i3 1)))] SI52 SJ52 (fun r53 SI54 SJ54 => DoI E 172 [(.ref 81), (.int a2), (.int r51), (.int r53)] SI54 SJ54 (fun r55 SI56 SJ56 => (r55 = 0 → Q (i3 0) SI56 SJ56) ∧ (¬ r55 = 0 → Q (i3 1) SI56 SJ56))))))))))))))))) ∧ (¬ 0 ≤ (r7 * r15) → (0 ≤ (r23 * r31) → DoI E 163 [(.ref 81), (.int a2)] SI32 SJ32 (fun r57 SI58 SJ58 => DoI E 164 [(.ref 81), (.int a2)] SI58 SJ58 (fun r59 SI60 SJ60 => DoI E 172 [(.ref 81), (.int a1), (.int r57), (.int r59)] SI60 SJ60 (fun r61 SI62 SJ62 => (¬ r61 = 0 → Q (i3 1) SI62 SJ62) ∧ (r61 = 0 → DoI E 163 [(.ref 81), (.int (a2 + (i3 1)))] SI62 SJ62 (fun r63 SI64 SJ64 => DoI E 164 [(.ref 81), (.int (a2 + (i3 1)))] SI64 SJ64 (fun r65 SI66 SJ66 => DoI E 172 [(.ref 81), (.int a1), (.int r63), (.int r65)] SI66 SJ66 (fun r67 SI68 SJ68 => (¬ r67 = 0 → Q (i3 1) SI68 SJ68) ∧ (r67 = 0 → DoI E 163 [(.ref 81), (.int a1)] SI68 SJ68 (fun r69 SI70 SJ70 => DoI E 164 [(.ref 81), (.int a1)] SI70 SJ70 (fun r71 SI72 SJ72 => DoI E 172 [(.ref 81), (.int a2), (.int r69), (.int r71)] SI72 SJ72 (fun r73 SI74 SJ74 => (¬ r73 = 0 → Q (i3 1) SI74 SJ74) ∧ (r73 = 0 → DoI E 163 [(.ref 81), (.int (a1 + (i3 1)))] SI74 SJ74 (fun r75 SI76 SJ76 => DoI E 164 [(.ref 81), (.int (a1 + (i3 1)))] SI76 SJ76 (fun r77 SI78 SJ78 => DoI E 172 [(.ref 81), (.int a2), (.int r75), (.int r77)] SI78 SJ78 (fun r79 SI80 SJ80 => (r79 = 0 → Q (i3 0) SI80 SJ80) ∧ (¬ r79 = 0 → Q (i3 1) SI80 SJ80))))))))))))))))) ∧ (¬ 0 ≤ (r23 * r31) → Q (i3 1) SI32 SJ32))))))))))))))))))) : DoI E 173 [(.ref 81), (.int a1), (.int a2)] SI SJ Q := by
  refine gj_start (M := mt_173) ok_173 (Nat.le_of_ble_eq_true rfl) ?_
  refine gj_goq gj_clT ok_173 [10, 15, 18, 21, 34, 41, 44, 47, 59, 64, 67, 70, 84, 91, 94, 97, 123, 128, 131, 143, 150, 153, 163, 168, 171, 183, 190, 193] ?_
  show gj_Do E om0 (gj_mt 163) [(.ref 81), (.int a2)] SI SJ _
  refine gj_Do.mono h (fun v_ SI2 SJ2 h_ => ?_)
  obtain ⟨r1, rfl, q1⟩ := h_
  show gj_Goes E om0 mt_173 10 [some (.ref 81), some (.int a1), some (.int a2), none, none, none, none] [(.int r1), (.int (a1 + (i3 1))), (.int a1), (.ref 81)] SI2 SJ2 (QI Q)
  refine gj_goq gj_clT ok_173 [10, 15, 18, 21, 34, 41, 44, 47, 59, 64, 67, 70, 84, 91, 94, 97, 123, 128, 131, 143, 150, 153, 163, 168, 171, 183, 190, 193] ?_
  show gj_Do E om0 (gj_mt 164) [(.ref 81), (.int a2)] SI2 SJ2 _
  refine gj_Do.mono q1 (fun v_ SI4 SJ4 h_ => ?_)
  obtain ⟨r3, rfl, q2⟩ := h_
  show gj_Goes E om0 mt_173 15 [some (.ref 81), some (.int a1), some (.int a2), none, none, none, none] [(.int r3), (.int r1), (.int (a1 + (i3 1))), (.int a1), (.ref 81)] SI4 SJ4 (QI Q)
  refine gj_goq gj_clT ok_173 [10, 15, 18, 21, 34, 41, 44, 47, 59, 64, 67, 70, 84, 91, 94, 97, 123, 128, 131, 143, 150, 153, 163, 168, 171, 183, 190, 193] ?_
  show gj_Do E om0 (gj_mt 170) [(.ref 81), (.int a1), (.int (a1 + (i3 1))), (.int r1), (.int r3)] SI4 SJ4 _
  refine gj_Do.mono q2 (fun v_ SI6 SJ6 h_ => ?_)
  obtain ⟨r5, rfl, q3⟩ := h_
  show gj_Goes E om0 mt_173 18 [some (.ref 81), some (.int a1), some (.int a2), none, none, none, none] [(.long r5)] SI6 SJ6 (QI Q)
  refine gj_goq gj_clT ok_173 [10, 15, 18, 21, 34, 41, 44, 47, 59, 64, 67, 70, 84, 91, 94, 97, 123, 128, 131, 143, 150, 153, 163, 168, 171, 183, 190, 193] ?_
  show gj_Do E om0 (gj_mt 171) [(.long r5)] SI6 SJ6 _
  refine gj_Do.mono q3 (fun v_ SI8 SJ8 h_ => ?_)
  obtain ⟨r7, rfl, q4⟩ := h_
  show gj_Goes E om0 mt_173 21 [some (.ref 81), some (.int a1), some (.int a2), none, none, none, none] [(.int r7)] SI8 SJ8 (QI Q)
  refine gj_goq gj_clT ok_173 [10, 15, 18, 21, 34, 41, 44, 47, 59, 64, 67, 70, 84, 91, 94, 97, 123, 128, 131, 143, 150, 153, 163, 168, 171, 183, 190, 193] ?_
  show gj_Do E om0 (gj_mt 163) [(.ref 81), (.int (a2 + (i3 1)))] SI8 SJ8 _
  refine gj_Do.mono q4 (fun v_ SI10 SJ10 h_ => ?_)
  obtain ⟨r9, rfl, q5⟩ := h_
  show gj_Goes E om0 mt_173 34 [some (.ref 81), some (.int a1), some (.int a2), some (.int r7), none, none, none] [(.int r9), (.int (a1 + (i3 1))), (.int a1), (.ref 81)] SI10 SJ10 (QI Q)
  refine gj_goq gj_clT ok_173 [10, 15, 18, 21, 34, 41, 44, 47, 59, 64, 67, 70, 84, 91, 94, 97, 123, 128, 131, 143, 150, 153, 163, 168, 171, 183, 190, 193] ?_
  show gj_Do E om0 (gj_mt 164) [(.ref 81), (.int (a2 + (i3 1)))] SI10 SJ10 _
  refine gj_Do.mono q5 (fun v_ SI12 SJ12 h_ => ?_)
  obtain ⟨r11, rfl, q6⟩ := h_
  show gj_Goes E om0 mt_173 41 [some (.ref 81), some (.int a1), some (.int a2), some (.int r7), none, none, none] [(.int r11), (.int r9), (.int (a1 + (i3 1))), (.int a1), (.ref 81)] SI12 SJ12 (QI Q)
  refine gj_goq gj_clT ok_173 [10, 15, 18, 21, 34, 41, 44, 47, 59, 64, 67, 70, 84, 91, 94, 97, 123, 128, 131, 143, 150, 153, 163, 168, 171, 183, 190, 193] ?_
  show gj_Do E om0 (gj_mt 170) [(.ref 81), (.int a1), (.int (a1 + (i3 1))), (.int r9), (.int r11)] SI12 SJ12 _
  refine gj_Do.mono q6 (fun v_ SI14 SJ14 h_ => ?_)
  obtain ⟨r13, rfl, q7⟩ := h_
  show gj_Goes E om0 mt_173 44 [some (.ref 81), some (.int a1), some (.int a2), some (.int r7), none, none, none] [(.long r13)] SI14 SJ14 (QI Q)
  refine gj_goq gj_clT ok_173 [10, 15, 18, 21, 34, 41, 44, 47, 59, 64, 67, 70, 84, 91, 94, 97, 123, 128, 131, 143, 150, 153, 163, 168, 171, 183, 190, 193] ?_
  show gj_Do E om0 (gj_mt 171) [(.long r13)] SI14 SJ14 _
  refine gj_Do.mono q7 (fun v_ SI16 SJ16 h_ => ?_)
  obtain ⟨r15, rfl, q8⟩ := h_
  show gj_Goes E om0 mt_173 47 [some (.ref 81), some (.int a1), some (.int a2), some (.int r7), none, none, none] [(.int r15)] SI16 SJ16 (QI Q)
  refine gj_goq gj_clT ok_173 [10, 15, 18, 21, 34, 41, 44, 47, 59, 64, 67, 70, 84, 91, 94, 97, 123, 128, 131, 143, 150, 153, 163, 168, 171, 183, 190, 193] ?_
  show gj_Do E om0 (gj_mt 163) [(.ref 81), (.int a1)] SI16 SJ16 _
  refine gj_Do.mono q8 (fun v_ SI18 SJ18 h_ => ?_)
  obtain ⟨r17, rfl, q9⟩ := h_
  show gj_Goes E om0 mt_173 59 [some (.ref 81), some (.int a1), some (.int a2), some (.int r7), some (.int r15), none, none] [(.int r17), (.int (a2 + (i3 1))), (.int a2), (.ref 81)] SI18 SJ18 (QI Q)
  refine gj_goq gj_clT ok_173 [10, 15, 18, 21, 34, 41, 44, 47, 59, 64, 67, 70, 84, 91, 94, 97, 123, 128, 131, 143, 150, 153, 163, 168, 171, 183, 190, 193] ?_
  show gj_Do E om0 (gj_mt 164) [(.ref 81), (.int a1)] SI18 SJ18 _
  refine gj_Do.mono q9 (fun v_ SI20 SJ20 h_ => ?_)
  obtain ⟨r19, rfl, q10⟩ := h_
  show gj_Goes E om0 mt_173 64 [some (.ref 81), some (.int a1), some (.int a2), some (.int r7), some (.int r15), none, none] [(.int r19), (.int r17), (.int (a2 + (i3 1))), (.int a2), (.ref 81)] SI20 SJ20 (QI Q)
  refine gj_goq gj_clT ok_173 [10, 15, 18, 21, 34, 41, 44, 47, 59, 64, 67, 70, 84, 91, 94, 97, 123, 128, 131, 143, 150, 153, 163, 168, 171, 183, 190, 193] ?_
  show gj_Do E om0 (gj_mt 170) [(.ref 81), (.int a2), (.int (a2 + (i3 1))), (.int r17), (.int r19)] SI20 SJ20 _
  refine gj_Do.mono q10 (fun v_ SI22 SJ22 h_ => ?_)
  obtain ⟨r21, rfl, q11⟩ := h_
  show gj_Goes E om0 mt_173 67 [some (.ref 81), some (.int a1), some (.int a2), some (.int r7), some (.int r15), none, none] [(.long r21)] SI22 SJ22 (QI Q)
  refine gj_goq gj_clT ok_173 [10, 15, 18, 21, 34, 41, 44, 47, 59, 64, 67, 70, 84, 91, 94, 97, 123, 128, 131, 143, 150, 153, 163, 168, 171, 183, 190, 193] ?_
  show gj_Do E om0 (gj_mt 171) [(.long r21)] SI22 SJ22 _
  refine gj_Do.mono q11 (fun v_ SI24 SJ24 h_ => ?_)
  obtain ⟨r23, rfl, q12⟩ := h_
  show gj_Goes E om0 mt_173 70 [some (.ref 81), some (.int a1), some (.int a2), some (.int r7), some (.int r15), none, none] [(.int r23)] SI24 SJ24 (QI Q)
  refine gj_goq gj_clT ok_173 [10, 15, 18, 21, 34, 41, 44, 47, 59, 64, 67, 70, 84, 91, 94, 97, 123, 128, 131, 143, 150, 153, 163, 168, 171, 183, 190, 193] ?_
  show gj_Do E om0 (gj_mt 163) [(.ref 81), (.int (a1 + (i3 1)))] SI24 SJ24 _
  refine gj_Do.mono q12 (fun v_ SI26 SJ26 h_ => ?_)
  obtain ⟨r25, rfl, q13⟩ := h_
  show gj_Goes E om0 mt_173 84 [some (.ref 81), some (.int a1), some (.int a2), some (.int r7), some (.int r15), some (.int r23), none] [(.int r25), (.int (a2 + (i3 1))), (.int a2), (.ref 81)] SI26 SJ26 (QI Q)
  refine gj_goq gj_clT ok_173 [10, 15, 18, 21, 34, 41, 44, 47, 59, 64, 67, 70, 84, 91, 94, 97, 123, 128, 131, 143, 150, 153, 163, 168, 171, 183, 190, 193] ?_
  show gj_Do E om0 (gj_mt 164) [(.ref 81), (.int (a1 + (i3 1)))] SI26 SJ26 _
  refine gj_Do.mono q13 (fun v_ SI28 SJ28 h_ => ?_)
  obtain ⟨r27, rfl, q14⟩ := h_
  show gj_Goes E om0 mt_173 91 [some (.ref 81), some (.int a1), some (.int a2), some (.int r7), some (.int r15), some (.int r23), none] [(.int r27), (.int r25), (.int (a2 + (i3 1))), (.int a2), (.ref 81)] SI28 SJ28 (QI Q)
  refine gj_goq gj_clT ok_173 [10, 15, 18, 21, 34, 41, 44, 47, 59, 64, 67, 70, 84, 91, 94, 97, 123, 128, 131, 143, 150, 153, 163, 168, 171, 183, 190, 193] ?_
  show gj_Do E om0 (gj_mt 170) [(.ref 81), (.int a2), (.int (a2 + (i3 1))), (.int r25), (.int r27)] SI28 SJ28 _
  refine gj_Do.mono q14 (fun v_ SI30 SJ30 h_ => ?_)
  obtain ⟨r29, rfl, q15⟩ := h_
  show gj_Goes E om0 mt_173 94 [some (.ref 81), some (.int a1), some (.int a2), some (.int r7), some (.int r15), some (.int r23), none] [(.long r29)] SI30 SJ30 (QI Q)
  refine gj_goq gj_clT ok_173 [10, 15, 18, 21, 34, 41, 44, 47, 59, 64, 67, 70, 84, 91, 94, 97, 123, 128, 131, 143, 150, 153, 163, 168, 171, 183, 190, 193] ?_
  show gj_Do E om0 (gj_mt 171) [(.long r29)] SI30 SJ30 _
  refine gj_Do.mono q15 (fun v_ SI32 SJ32 h_ => ?_)
  obtain ⟨r31, rfl, q16⟩ := h_
  show gj_Goes E om0 mt_173 97 [some (.ref 81), some (.int a1), some (.int a2), some (.int r7), some (.int r15), some (.int r23), none] [(.int r31)] SI32 SJ32 (QI Q)
  refine gj_goq gj_clT ok_173 [10, 15, 18, 21, 34, 41, 44, 47, 59, 64, 67, 70, 84, 91, 94, 97, 123, 128, 131, 143, 150, 153, 163, 168, 171, 183, 190, 193] ?_
  show (0 ≤ (r7 * r15) → gj_Goes E om0 mt_173 116 [some (.ref 81), some (.int a1), some (.int a2), some (.int r7), some (.int r15), some (.int r23), some (.int r31)] [] SI32 SJ32 (QI Q)) ∧ (¬ 0 ≤ (r7 * r15) → (0 ≤ (r23 * r31) → gj_Goes E om0 mt_173 116 [some (.ref 81), some (.int a1), some (.int a2), some (.int r7), some (.int r15), some (.int r23), some (.int r31)] [] SI32 SJ32 (QI Q)) ∧ (¬ 0 ≤ (r23 * r31) → ((i3 1) = 0 ∨ (i3 1) = 1) ∧ (QI Q (some (.int (i3 1))) SI32 SJ32)))
  refine ⟨fun c17 => ?_, fun c17 => ?_⟩
  · refine gj_goq gj_clT ok_173 [10, 15, 18, 21, 34, 41, 44, 47, 59, 64, 67, 70, 84, 91, 94, 97, 123, 128, 131, 143, 150, 153, 163, 168, 171, 183, 190, 193] ?_
    show gj_Do E om0 (gj_mt 163) [(.ref 81), (.int a2)] SI32 SJ32 _
    refine gj_Do.mono (q16.1 c17) (fun v_ SI34 SJ34 h_ => ?_)
    obtain ⟨r33, rfl, q18⟩ := h_
    show gj_Goes E om0 mt_173 123 [some (.ref 81), some (.int a1), some (.int a2), some (.int r7), some (.int r15), some (.int r23), some (.int r31)] [(.int r33), (.int a1), (.ref 81)] SI34 SJ34 (QI Q)
    refine gj_goq gj_clT ok_173 [10, 15, 18, 21, 34, 41, 44, 47, 59, 64, 67, 70, 84, 91, 94, 97, 123, 128, 131, 143, 150, 153, 163, 168, 171, 183, 190, 193] ?_
    show gj_Do E om0 (gj_mt 164) [(.ref 81), (.int a2)] SI34 SJ34 _
    refine gj_Do.mono q18 (fun v_ SI36 SJ36 h_ => ?_)
    obtain ⟨r35, rfl, q19⟩ := h_
    show gj_Goes E om0 mt_173 128 [some (.ref 81), some (.int a1), some (.int a2), some (.int r7), some (.int r15), some (.int r23), some (.int r31)] [(.int r35), (.int r33), (.int a1), (.ref 81)] SI36 SJ36 (QI Q)
    refine gj_goq gj_clT ok_173 [10, 15, 18, 21, 34, 41, 44, 47, 59, 64, 67, 70, 84, 91, 94, 97, 123, 128, 131, 143, 150, 153, 163, 168, 171, 183, 190, 193] ?_
    show gj_Do E om0 (gj_mt 172) [(.ref 81), (.int a1), (.int r33), (.int r35)] SI36 SJ36 _
    refine gj_Do.mono q19 (fun v_ SI38 SJ38 h_ => ?_)
    obtain ⟨r37, rfl, q20⟩ := h_
    show gj_Goes E om0 mt_173 131 [some (.ref 81), some (.int a1), some (.int a2), some (.int r7), some (.int r15), some (.int r23), some (.int r31)] [(.int r37)] SI38 SJ38 (QI Q)
    refine gj_goq gj_clT ok_173 [10, 15, 18, 21, 34, 41, 44, 47, 59, 64, 67, 70, 84, 91, 94, 97, 123, 128, 131, 143, 150, 153, 163, 168, 171, 183, 190, 193] ?_
    show (¬ r37 = 0 → gj_Goes E om0 mt_173 196 [some (.ref 81), some (.int a1), some (.int a2), some (.int r7), some (.int r15), some (.int r23), some (.int r31)] [] SI38 SJ38 (QI Q)) ∧ (r37 = 0 → gj_Do E om0 (gj_mt 163) [(.ref 81), (.int (a2 + (i3 1)))] SI38 SJ38 _)
    refine ⟨fun c21 => ?_, fun c21 => ?_⟩
    · refine gj_goq gj_clT ok_173 [10, 15, 18, 21, 34, 41, 44, 47, 59, 64, 67, 70, 84, 91, 94, 97, 123, 128, 131, 143, 150, 153, 163, 168, 171, 183, 190, 193] ?_
      show gj_Goes E om0 mt_173 201 [some (.ref 81), some (.int a1), some (.int a2), some (.int r7), some (.int r15), some (.int r23), some (.int r31)] [(.int (i3 1))] SI38 SJ38 (QI Q)
      refine gj_goq gj_clT ok_173 [10, 15, 18, 21, 34, 41, 44, 47, 59, 64, 67, 70, 84, 91, 94, 97, 123, 128, 131, 143, 150, 153, 163, 168, 171, 183, 190, 193] ?_
      show ((i3 1) = 0 ∨ (i3 1) = 1) ∧ (QI Q (some (.int (i3 1))) SI38 SJ38)
      refine ⟨(Or.inr rfl), ?_⟩
      exact ⟨_, rfl, (q20.1 c21)⟩
    · refine gj_Do.mono (q20.2 c21) (fun v_ SI40 SJ40 h_ => ?_)
      obtain ⟨r39, rfl, q22⟩ := h_
      show gj_Goes E om0 mt_173 143 [some (.ref 81), some (.int a1), some (.int a2), some (.int r7), some (.int r15), some (.int r23), some (.int r31)] [(.int r39), (.int a1), (.ref 81)] SI40 SJ40 (QI Q)
      refine gj_goq gj_clT ok_173 [10, 15, 18, 21, 34, 41, 44, 47, 59, 64, 67, 70, 84, 91, 94, 97, 123, 128, 131, 143, 150, 153, 163, 168, 171, 183, 190, 193] ?_
      show gj_Do E om0 (gj_mt 164) [(.ref 81), (.int (a2 + (i3 1)))] SI40 SJ40 _
      refine gj_Do.mono q22 (fun v_ SI42 SJ42 h_ => ?_)
      obtain ⟨r41, rfl, q23⟩ := h_
      show gj_Goes E om0 mt_173 150 [some (.ref 81), some (.int a1), some (.int a2), some (.int r7), some (.int r15), some (.int r23), some (.int r31)] [(.int r41), (.int r39), (.int a1), (.ref 81)] SI42 SJ42 (QI Q)
      refine gj_goq gj_clT ok_173 [10, 15, 18, 21, 34, 41, 44, 47, 59, 64, 67, 70, 84, 91, 94, 97, 123, 128, 131, 143, 150, 153, 163, 168, 171, 183, 190, 193] ?_
      show gj_Do E om0 (gj_mt 172) [(.ref 81), (.int a1), (.int r39), (.int r41)] SI42 SJ42 _
      refine gj_Do.mono q23 (fun v_ SI44 SJ44 h_ => ?_)
      obtain ⟨r43, rfl, q24⟩ := h_
      show gj_Goes E om0 mt_173 153 [some (.ref 81), some (.int a1), some (.int a2), some (.int r7), some (.int r15), some (.int r23), some (.int r31)] [(.int r43)] SI44 SJ44 (QI Q)
      refine gj_goq gj_clT ok_173 [10, 15, 18, 21, 34, 41, 44, 47, 59, 64, 67, 70, 84, 91, 94, 97, 123, 128, 131, 143, 150, 153, 163, 168, 171, 183, 190, 193] ?_
      show (¬ r43 = 0 → gj_Goes E om0 mt_173 196 [some (.ref 81), some (.int a1), some (.int a2), some (.int r7), some (.int r15), some (.int r23), some (.int r31)] [] SI44 SJ44 (QI Q)) ∧ (r43 = 0 → gj_Do E om0 (gj_mt 163) [(.ref 81), (.int a1)] SI44 SJ44 _)
      refine ⟨fun c25 => ?_, fun c25 => ?_⟩
      · refine gj_goq gj_clT ok_173 [10, 15, 18, 21, 34, 41, 44, 47, 59, 64, 67, 70, 84, 91, 94, 97, 123, 128, 131, 143, 150, 153, 163, 168, 171, 183, 190, 193] ?_
        show gj_Goes E om0 mt_173 201 [some (.ref 81), some (.int a1), some (.int a2), some (.int r7), some (.int r15), some (.int r23), some (.int r31)] [(.int (i3 1))] SI44 SJ44 (QI Q)
        refine gj_goq gj_clT ok_173 [10, 15, 18, 21, 34, 41, 44, 47, 59, 64, 67, 70, 84, 91, 94, 97, 123, 128, 131, 143, 150, 153, 163, 168, 171, 183, 190, 193] ?_
        show ((i3 1) = 0 ∨ (i3 1) = 1) ∧ (QI Q (some (.int (i3 1))) SI44 SJ44)
        refine ⟨(Or.inr rfl), ?_⟩
        exact ⟨_, rfl, (q24.1 c25)⟩
      · refine gj_Do.mono (q24.2 c25) (fun v_ SI46 SJ46 h_ => ?_)
        obtain ⟨r45, rfl, q26⟩ := h_
        show gj_Goes E om0 mt_173 163 [some (.ref 81), some (.int a1), some (.int a2), some (.int r7), some (.int r15), some (.int r23), some (.int r31)] [(.int r45), (.int a2), (.ref 81)] SI46 SJ46 (QI Q)
        refine gj_goq gj_clT ok_173 [10, 15, 18, 21, 34, 41, 44, 47, 59, 64, 67, 70, 84, 91, 94, 97, 123, 128, 131, 143, 150, 153, 163, 168, 171, 183, 190, 193] ?_
        show gj_Do E om0 (gj_mt 164) [(.ref 81), (.int a1)] SI46 SJ46 _
        refine gj_Do.mono q26 (fun v_ SI48 SJ48 h_ => ?_)
        obtain ⟨r47, rfl, q27⟩ := h_
        show gj_Goes E om0 mt_173 168 [some (.ref 81), some (.int a1), some (.int a2), some (.int r7), some (.int r15), some (.int r23), some (.int r31)] [(.int r47), (.int r45), (.int a2), (.ref 81)] SI48 SJ48 (QI Q)
        refine gj_goq gj_clT ok_173 [10, 15, 18, 21, 34, 41, 44, 47, 59, 64, 67, 70, 84, 91, 94, 97, 123, 128, 131, 143, 150, 153, 163, 168, 171, 183, 190, 193] ?_
        show gj_Do E om0 (gj_mt 172) [(.ref 81), (.int a2), (.int r45), (.int r47)] SI48 SJ48 _
        refine gj_Do.mono q27 (fun v_ SI50 SJ50 h_ => ?_)
        obtain ⟨r49, rfl, q28⟩ := h_
        show gj_Goes E om0 mt_173 171 [some (.ref 81), some (.int a1), some (.int a2), some (.int r7), some (.int r15), some (.int r23), some (.int r31)] [(.int r49)] SI50 SJ50 (QI Q)
        refine gj_goq gj_clT ok_173 [10, 15, 18, 21, 34, 41, 44, 47, 59, 64, 67, 70, 84, 91, 94, 97, 123, 128, 131, 143, 150, 153, 163, 168, 171, 183, 190, 193] ?_
        show (¬ r49 = 0 → gj_Goes E om0 mt_173 196 [some (.ref 81), some (.int a1), some (.int a2), some (.int r7), some (.int r15), some (.int r23), some (.int r31)] [] SI50 SJ50 (QI Q)) ∧ (r49 = 0 → gj_Do E om0 (gj_mt 163) [(.ref 81), (.int (a1 + (i3 1)))] SI50 SJ50 _)
        refine ⟨fun c29 => ?_, fun c29 => ?_⟩
        · refine gj_goq gj_clT ok_173 [10, 15, 18, 21, 34, 41, 44, 47, 59, 64, 67, 70, 84, 91, 94, 97, 123, 128, 131, 143, 150, 153, 163, 168, 171, 183, 190, 193] ?_
          show gj_Goes E om0 mt_173 201 [some (.ref 81), some (.int a1), some (.int a2), some (.int r7), some (.int r15), some (.int r23), some (.int r31)] [(.int (i3 1))] SI50 SJ50 (QI Q)
          refine gj_goq gj_clT ok_173 [10, 15, 18, 21, 34, 41, 44, 47, 59, 64, 67, 70, 84, 91, 94, 97, 123, 128, 131, 143, 150, 153, 163, 168, 171, 183, 190, 193] ?_
          show ((i3 1) = 0 ∨ (i3 1) = 1) ∧ (QI Q (some (.int (i3 1))) SI50 SJ50)
          refine ⟨(Or.inr rfl), ?_⟩
          exact ⟨_, rfl, (q28.1 c29)⟩
        · refine gj_Do.mono (q28.2 c29) (fun v_ SI52 SJ52 h_ => ?_)
          obtain ⟨r51, rfl, q30⟩ := h_
          show gj_Goes E om0 mt_173 183 [some (.ref 81), some (.int a1), some (.int a2), some (.int r7), some (.int r15), some (.int r23), some (.int r31)] [(.int r51), (.int a2), (.ref 81)] SI52 SJ52 (QI Q)
          refine gj_goq gj_clT ok_173 [10, 15, 18, 21, 34, 41, 44, 47, 59, 64, 67, 70, 84, 91, 94, 97, 123, 128, 131, 143, 150, 153, 163, 168, 171, 183, 190, 193] ?_
          show gj_Do E om0 (gj_mt 164) [(.ref 81), (.int (a1 + (i3 1)))] SI52 SJ52 _
          refine gj_Do.mono q30 (fun v_ SI54 SJ54 h_ => ?_)
          obtain ⟨r53, rfl, q31⟩ := h_
          show gj_Goes E om0 mt_173 190 [some (.ref 81), some (.int a1), some (.int a2), some (.int r7), some (.int r15), some (.int r23), some (.int r31)] [(.int r53), (.int r51), (.int a2), (.ref 81)] SI54 SJ54 (QI Q)
          refine gj_goq gj_clT ok_173 [10, 15, 18, 21, 34, 41, 44, 47, 59, 64, 67, 70, 84, 91, 94, 97, 123, 128, 131, 143, 150, 153, 163, 168, 171, 183, 190, 193] ?_
          show gj_Do E om0 (gj_mt 172) [(.ref 81), (.int a2), (.int r51), (.int r53)] SI54 SJ54 _
          refine gj_Do.mono q31 (fun v_ SI56 SJ56 h_ => ?_)
          obtain ⟨r55, rfl, q32⟩ := h_
          show gj_Goes E om0 mt_173 193 [some (.ref 81), some (.int a1), some (.int a2), some (.int r7), some (.int r15), some (.int r23), some (.int r31)] [(.int r55)] SI56 SJ56 (QI Q)
          refine gj_goq gj_clT ok_173 [10, 15, 18, 21, 34, 41, 44, 47, 59, 64, 67, 70, 84, 91, 94, 97, 123, 128, 131, 143, 150, 153, 163, 168, 171, 183, 190, 193] ?_
          show (r55 = 0 → gj_Goes E om0 mt_173 200 [some (.ref 81), some (.int a1), some (.int a2), some (.int r7), some (.int r15), some (.int r23), some (.int r31)] [] SI56 SJ56 (QI Q)) ∧ (¬ r55 = 0 → gj_Goes E om0 mt_173 201 [some (.ref 81), some (.int a1), some (.int a2), some (.int r7), some (.int r15), some (.int r23), some (.int r31)] [(.int (i3 1))] SI56 SJ56 (QI Q))
          refine ⟨fun c33 => ?_, fun c33 => ?_⟩
          · refine gj_goq gj_clT ok_173 [10, 15, 18, 21, 34, 41, 44, 47, 59, 64, 67, 70, 84, 91, 94, 97, 123, 128, 131, 143, 150, 153, 163, 168, 171, 183, 190, 193] ?_
            show ((i3 0) = 0 ∨ (i3 0) = 1) ∧ (QI Q (some (.int (i3 0))) SI56 SJ56)
            refine ⟨(Or.inl rfl), ?_⟩
            exact ⟨_, rfl, (q32.1 c33)⟩
          · refine gj_goq gj_clT ok_173 [10, 15, 18, 21, 34, 41, 44, 47, 59, 64, 67, 70, 84, 91, 94, 97, 123, 128, 131, 143, 150, 153, 163, 168, 171, 183, 190, 193] ?_
            show ((i3 1) = 0 ∨ (i3 1) = 1) ∧ (QI Q (some (.int (i3 1))) SI56 SJ56)
            refine ⟨(Or.inr rfl), ?_⟩
            exact ⟨_, rfl, (q32.2 c33)⟩
  · refine ⟨fun c34 => ?_, fun c34 => ?_⟩
    · refine gj_goq gj_clT ok_173 [10, 15, 18, 21, 34, 41, 44, 47, 59, 64, 67, 70, 84, 91, 94, 97, 123, 128, 131, 143, 150, 153, 163, 168, 171, 183, 190, 193] ?_
      show gj_Do E om0 (gj_mt 163) [(.ref 81), (.int a2)] SI32 SJ32 _
      refine gj_Do.mono ((q16.2 c17).1 c34) (fun v_ SI58 SJ58 h_ => ?_)
      obtain ⟨r57, rfl, q35⟩ := h_
      show gj_Goes E om0 mt_173 123 [some (.ref 81), some (.int a1), some (.int a2), some (.int r7), some (.int r15), some (.int r23), some (.int r31)] [(.int r57), (.int a1), (.ref 81)] SI58 SJ58 (QI Q)
      refine gj_goq gj_clT ok_173 [10, 15, 18, 21, 34, 41, 44, 47, 59, 64, 67, 70, 84, 91, 94, 97, 123, 128, 131, 143, 150, 153, 163, 168, 171, 183, 190, 193] ?_
      show gj_Do E om0 (gj_mt 164) [(.ref 81), (.int a2)] SI58 SJ58 _
      refine gj_Do.mono q35 (fun v_ SI60 SJ60 h_ => ?_)
      obtain ⟨r59, rfl, q36⟩ := h_
      show gj_Goes E om0 mt_173 128 [some (.ref 81), some (.int a1), some (.int a2), some (.int r7), some (.int r15), some (.int r23), some (.int r31)] [(.int r59), (.int r57), (.int a1), (.ref 81)] SI60 SJ60 (QI Q)
      refine gj_goq gj_clT ok_173 [10, 15, 18, 21, 34, 41, 44, 47, 59, 64, 67, 70, 84, 91, 94, 97, 123, 128, 131, 143, 150, 153, 163, 168, 171, 183, 190, 193] ?_
      show gj_Do E om0 (gj_mt 172) [(.ref 81), (.int a1), (.int r57), (.int r59)] SI60 SJ60 _
      refine gj_Do.mono q36 (fun v_ SI62 SJ62 h_ => ?_)
      obtain ⟨r61, rfl, q37⟩ := h_
      show gj_Goes E om0 mt_173 131 [some (.ref 81), some (.int a1), some (.int a2), some (.int r7), some (.int r15), some (.int r23), some (.int r31)] [(.int r61)] SI62 SJ62 (QI Q)
      refine gj_goq gj_clT ok_173 [10, 15, 18, 21, 34, 41, 44, 47, 59, 64, 67, 70, 84, 91, 94, 97, 123, 128, 131, 143, 150, 153, 163, 168, 171, 183, 190, 193] ?_
      show (¬ r61 = 0 → gj_Goes E om0 mt_173 196 [some (.ref 81), some (.int a1), some (.int a2), some (.int r7), some (.int r15), some (.int r23), some (.int r31)] [] SI62 SJ62 (QI Q)) ∧ (r61 = 0 → gj_Do E om0 (gj_mt 163) [(.ref 81), (.int (a2 + (i3 1)))] SI62 SJ62 _)
      refine ⟨fun c38 => ?_, fun c38 => ?_⟩
      · refine gj_goq gj_clT ok_173 [10, 15, 18, 21, 34, 41, 44, 47, 59, 64, 67, 70, 84, 91, 94, 97, 123, 128, 131, 143, 150, 153, 163, 168, 171, 183, 190, 193] ?_
        show gj_Goes E om0 mt_173 201 [some (.ref 81), some (.int a1), some (.int a2), some (.int r7), some (.int r15), some (.int r23), some (.int r31)] [(.int (i3 1))] SI62 SJ62 (QI Q)
        refine gj_goq gj_clT ok_173 [10, 15, 18, 21, 34, 41, 44, 47, 59, 64, 67, 70, 84, 91, 94, 97, 123, 128, 131, 143, 150, 153, 163, 168, 171, 183, 190, 193] ?_
        show ((i3 1) = 0 ∨ (i3 1) = 1) ∧ (QI Q (some (.int (i3 1))) SI62 SJ62)
        refine ⟨(Or.inr rfl), ?_⟩
        exact ⟨_, rfl, (q37.1 c38)⟩
      · refine gj_Do.mono (q37.2 c38) (fun v_ SI64 SJ64 h_ => ?_)
        obtain ⟨r63, rfl, q39⟩ := h_
        show gj_Goes E om0 mt_173 143 [some (.ref 81), some (.int a1), some (.int a2), some (.int r7), some (.int r15), some (.int r23), some (.int r31)] [(.int r63), (.int a1), (.ref 81)] SI64 SJ64 (QI Q)
        refine gj_goq gj_clT ok_173 [10, 15, 18, 21, 34, 41, 44, 47, 59, 64, 67, 70, 84, 91, 94, 97, 123, 128, 131, 143, 150, 153, 163, 168, 171, 183, 190, 193] ?_
        show gj_Do E om0 (gj_mt 164) [(.ref 81), (.int (a2 + (i3 1)))] SI64 SJ64 _
        refine gj_Do.mono q39 (fun v_ SI66 SJ66 h_ => ?_)
        obtain ⟨r65, rfl, q40⟩ := h_
        show gj_Goes E om0 mt_173 150 [some (.ref 81), some (.int a1), some (.int a2), some (.int r7), some (.int r15), some (.int r23), some (.int r31)] [(.int r65), (.int r63), (.int a1), (.ref 81)] SI66 SJ66 (QI Q)
        refine gj_goq gj_clT ok_173 [10, 15, 18, 21, 34, 41, 44, 47, 59, 64, 67, 70, 84, 91, 94, 97, 123, 128, 131, 143, 150, 153, 163, 168, 171, 183, 190, 193] ?_
        show gj_Do E om0 (gj_mt 172) [(.ref 81), (.int a1), (.int r63), (.int r65)] SI66 SJ66 _
        refine gj_Do.mono q40 (fun v_ SI68 SJ68 h_ => ?_)
        obtain ⟨r67, rfl, q41⟩ := h_
        show gj_Goes E om0 mt_173 153 [some (.ref 81), some (.int a1), some (.int a2), some (.int r7), some (.int r15), some (.int r23), some (.int r31)] [(.int r67)] SI68 SJ68 (QI Q)
        refine gj_goq gj_clT ok_173 [10, 15, 18, 21, 34, 41, 44, 47, 59, 64, 67, 70, 84, 91, 94, 97, 123, 128, 131, 143, 150, 153, 163, 168, 171, 183, 190, 193] ?_
        show (¬ r67 = 0 → gj_Goes E om0 mt_173 196 [some (.ref 81), some (.int a1), some (.int a2), some (.int r7), some (.int r15), some (.int r23), some (.int r31)] [] SI68 SJ68 (QI Q)) ∧ (r67 = 0 → gj_Do E om0 (gj_mt 163) [(.ref 81), (.int a1)] SI68 SJ68 _)
        refine ⟨fun c42 => ?_, fun c42 => ?_⟩
        · refine gj_goq gj_clT ok_173 [10, 15, 18, 21, 34, 41, 44, 47, 59, 64, 67, 70, 84, 91, 94, 97, 123, 128, 131, 143, 150, 153, 163, 168, 171, 183, 190, 193] ?_
          show gj_Goes E om0 mt_173 201 [some (.ref 81), some (.int a1), some (.int a2), some (.int r7), some (.int r15), some (.int r23), some (.int r31)] [(.int (i3 1))] SI68 SJ68 (QI Q)
          refine gj_goq gj_clT ok_173 [10, 15, 18, 21, 34, 41, 44, 47, 59, 64, 67, 70, 84, 91, 94, 97, 123, 128, 131, 143, 150, 153, 163, 168, 171, 183, 190, 193] ?_
          show ((i3 1) = 0 ∨ (i3 1) = 1) ∧ (QI Q (some (.int (i3 1))) SI68 SJ68)
          refine ⟨(Or.inr rfl), ?_⟩
          exact ⟨_, rfl, (q41.1 c42)⟩
        · refine gj_Do.mono (q41.2 c42) (fun v_ SI70 SJ70 h_ => ?_)
          obtain ⟨r69, rfl, q43⟩ := h_
          show gj_Goes E om0 mt_173 163 [some (.ref 81), some (.int a1), some (.int a2), some (.int r7), some (.int r15), some (.int r23), some (.int r31)] [(.int r69), (.int a2), (.ref 81)] SI70 SJ70 (QI Q)
          refine gj_goq gj_clT ok_173 [10, 15, 18, 21, 34, 41, 44, 47, 59, 64, 67, 70, 84, 91, 94, 97, 123, 128, 131, 143, 150, 153, 163, 168, 171, 183, 190, 193] ?_
          show gj_Do E om0 (gj_mt 164) [(.ref 81), (.int a1)] SI70 SJ70 _
          refine gj_Do.mono q43 (fun v_ SI72 SJ72 h_ => ?_)
          obtain ⟨r71, rfl, q44⟩ := h_
          show gj_Goes E om0 mt_173 168 [some (.ref 81), some (.int a1), some (.int a2), some (.int r7), some (.int r15), some (.int r23), some (.int r31)] [(.int r71), (.int r69), (.int a2), (.ref 81)] SI72 SJ72 (QI Q)
          refine gj_goq gj_clT ok_173 [10, 15, 18, 21, 34, 41, 44, 47, 59, 64, 67, 70, 84, 91, 94, 97, 123, 128, 131, 143, 150, 153, 163, 168, 171, 183, 190, 193] ?_
          show gj_Do E om0 (gj_mt 172) [(.ref 81), (.int a2), (.int r69), (.int r71)] SI72 SJ72 _
          refine gj_Do.mono q44 (fun v_ SI74 SJ74 h_ => ?_)
          obtain ⟨r73, rfl, q45⟩ := h_
          show gj_Goes E om0 mt_173 171 [some (.ref 81), some (.int a1), some (.int a2), some (.int r7), some (.int r15), some (.int r23), some (.int r31)] [(.int r73)] SI74 SJ74 (QI Q)
          refine gj_goq gj_clT ok_173 [10, 15, 18, 21, 34, 41, 44, 47, 59, 64, 67, 70, 84, 91, 94, 97, 123, 128, 131, 143, 150, 153, 163, 168, 171, 183, 190, 193] ?_
          show (¬ r73 = 0 → gj_Goes E om0 mt_173 196 [some (.ref 81), some (.int a1), some (.int a2), some (.int r7), some (.int r15), some (.int r23), some (.int r31)] [] SI74 SJ74 (QI Q)) ∧ (r73 = 0 → gj_Do E om0 (gj_mt 163) [(.ref 81), (.int (a1 + (i3 1)))] SI74 SJ74 _)
          refine ⟨fun c46 => ?_, fun c46 => ?_⟩
          · refine gj_goq gj_clT ok_173 [10, 15, 18, 21, 34, 41, 44, 47, 59, 64, 67, 70, 84, 91, 94, 97, 123, 128, 131, 143, 150, 153, 163, 168, 171, 183, 190, 193] ?_
            show gj_Goes E om0 mt_173 201 [some (.ref 81), some (.int a1), some (.int a2), some (.int r7), some (.int r15), some (.int r23), some (.int r31)] [(.int (i3 1))] SI74 SJ74 (QI Q)
            refine gj_goq gj_clT ok_173 [10, 15, 18, 21, 34, 41, 44, 47, 59, 64, 67, 70, 84, 91, 94, 97, 123, 128, 131, 143, 150, 153, 163, 168, 171, 183, 190, 193] ?_
            show ((i3 1) = 0 ∨ (i3 1) = 1) ∧ (QI Q (some (.int (i3 1))) SI74 SJ74)
            refine ⟨(Or.inr rfl), ?_⟩
            exact ⟨_, rfl, (q45.1 c46)⟩
          · refine gj_Do.mono (q45.2 c46) (fun v_ SI76 SJ76 h_ => ?_)
            obtain ⟨r75, rfl, q47⟩ := h_
            show gj_Goes E om0 mt_173 183 [some (.ref 81), some (.int a1), some (.int a2), some (.int r7), some (.int r15), some (.int r23), some (.int r31)] [(.int r75), (.int a2), (.ref 81)] SI76 SJ76 (QI Q)
            refine gj_goq gj_clT ok_173 [10, 15, 18, 21, 34, 41, 44, 47, 59, 64, 67, 70, 84, 91, 94, 97, 123, 128, 131, 143, 150, 153, 163, 168, 171, 183, 190, 193] ?_
            show gj_Do E om0 (gj_mt 164) [(.ref 81), (.int (a1 + (i3 1)))] SI76 SJ76 _
            refine gj_Do.mono q47 (fun v_ SI78 SJ78 h_ => ?_)
            obtain ⟨r77, rfl, q48⟩ := h_
            show gj_Goes E om0 mt_173 190 [some (.ref 81), some (.int a1), some (.int a2), some (.int r7), some (.int r15), some (.int r23), some (.int r31)] [(.int r77), (.int r75), (.int a2), (.ref 81)] SI78 SJ78 (QI Q)
            refine gj_goq gj_clT ok_173 [10, 15, 18, 21, 34, 41, 44, 47, 59, 64, 67, 70, 84, 91, 94, 97, 123, 128, 131, 143, 150, 153, 163, 168, 171, 183, 190, 193] ?_
            show gj_Do E om0 (gj_mt 172) [(.ref 81), (.int a2), (.int r75), (.int r77)] SI78 SJ78 _
            refine gj_Do.mono q48 (fun v_ SI80 SJ80 h_ => ?_)
            obtain ⟨r79, rfl, q49⟩ := h_
            show gj_Goes E om0 mt_173 193 [some (.ref 81), some (.int a1), some (.int a2), some (.int r7), some (.int r15), some (.int r23), some (.int r31)] [(.int r79)] SI80 SJ80 (QI Q)
            refine gj_goq gj_clT ok_173 [10, 15, 18, 21, 34, 41, 44, 47, 59, 64, 67, 70, 84, 91, 94, 97, 123, 128, 131, 143, 150, 153, 163, 168, 171, 183, 190, 193] ?_
            show (r79 = 0 → gj_Goes E om0 mt_173 200 [some (.ref 81), some (.int a1), some (.int a2), some (.int r7), some (.int r15), some (.int r23), some (.int r31)] [] SI80 SJ80 (QI Q)) ∧ (¬ r79 = 0 → gj_Goes E om0 mt_173 201 [some (.ref 81), some (.int a1), some (.int a2), some (.int r7), some (.int r15), some (.int r23), some (.int r31)] [(.int (i3 1))] SI80 SJ80 (QI Q))
            refine ⟨fun c50 => ?_, fun c50 => ?_⟩
            · refine gj_goq gj_clT ok_173 [10, 15, 18, 21, 34, 41, 44, 47, 59, 64, 67, 70, 84, 91, 94, 97, 123, 128, 131, 143, 150, 153, 163, 168, 171, 183, 190, 193] ?_
              show ((i3 0) = 0 ∨ (i3 0) = 1) ∧ (QI Q (some (.int (i3 0))) SI80 SJ80)
              refine ⟨(Or.inl rfl), ?_⟩
              exact ⟨_, rfl, (q49.1 c50)⟩
            · refine gj_goq gj_clT ok_173 [10, 15, 18, 21, 34, 41, 44, 47, 59, 64, 67, 70, 84, 91, 94, 97, 123, 128, 131, 143, 150, 153, 163, 168, 171, 183, 190, 193] ?_
              show ((i3 1) = 0 ∨ (i3 1) = 1) ∧ (QI Q (some (.int (i3 1))) SI80 SJ80)
              refine ⟨(Or.inr rfl), ?_⟩
              exact ⟨_, rfl, (q49.2 c50)⟩
    · refine ⟨(Or.inr rfl), ?_⟩
      exact ⟨_, rfl, ((q16.2 c17).2 c34)⟩
set_option maxRecDepth 20000 in
/-- GraspJudgeModel.areaTwice -/
theorem st_174 {E : gj_E} {Q : Int64 → gj_I → gj_J → Prop} (SI : gj_I) (SJ : gj_J) (h : GoL E mt_174 4 [some (.ref 81), some (.long (i6 0)), none, some (.int (i3 0))] SI SJ Q) : DoL E 174 [(.ref 81)] SI SJ Q := by
  refine gj_start (M := mt_174) ok_174 (Nat.le_of_ble_eq_true rfl) ?_
  refine gj_goq gj_clT ok_174 [4, 9, 18, 25, 35, 40] ?_
  show gj_Goes E om0 mt_174 4 [some (.ref 81), some (.long (i6 0)), none, some (.int (i3 0))] [] SI SJ (QL Q)
  exact h
set_option maxRecDepth 20000 in
theorem lp_174_4 {E : gj_E} {Q : Int64 → gj_I → gj_J → Prop} (x1 : Int64) (x3 : Int32) (SI : gj_I) (SJ : gj_J) (h : DoI E 162 [(.ref 81)] SI SJ (fun r1 SI2 SJ2 => (r1 ≤ x3 → Q x1 SI2 SJ2) ∧ (¬ r1 ≤ x3 → DoI E 163 [(.ref 81), (.int x3)] SI2 SJ2 (fun r3 SI4 SJ4 => DoI E 164 [(.ref 81), (.int (x3 + (i3 1)))] SI4 SJ4 (fun r5 SI6 SJ6 => DoI E 163 [(.ref 81), (.int (x3 + (i3 1)))] SI6 SJ6 (fun r7 SI8 SJ8 => DoI E 164 [(.ref 81), (.int x3)] SI8 SJ8 (fun r9 SI10 SJ10 => GoL E mt_174 4 [some (.ref 81), some (.long ((x1 + (r3 * r5).toInt64) - (r7 * r9).toInt64)), none, some (.int (x3 + (i3 1)))] SI10 SJ10 Q))))))) : GoL E mt_174 4 [some (.ref 81), some (.long x1), none, some (.int x3)] SI SJ Q := by
  refine gj_goq gj_clT ok_174 [4, 9, 18, 25, 35, 40] ?_
  show gj_Do E om0 (gj_mt 162) [(.ref 81)] SI SJ _
  refine gj_Do.mono h (fun v_ SI2 SJ2 h_ => ?_)
  obtain ⟨r1, rfl, q1⟩ := h_
  show gj_Goes E om0 mt_174 9 [some (.ref 81), some (.long x1), none, some (.int x3)] [(.int r1), (.int x3)] SI2 SJ2 (QL Q)
  refine gj_goq gj_clT ok_174 [4, 9, 18, 25, 35, 40] ?_
  show (r1 ≤ x3 → gj_Goes E om0 mt_174 50 [some (.ref 81), some (.long x1), none, some (.int x3)] [] SI2 SJ2 (QL Q)) ∧ (¬ r1 ≤ x3 → gj_Do E om0 (gj_mt 163) [(.ref 81), (.int x3)] SI2 SJ2 _)
  refine ⟨fun c2 => ?_, fun c2 => ?_⟩
  · refine gj_goq gj_clT ok_174 [4, 9, 18, 25, 35, 40] ?_
    show QL Q (some (.long x1)) SI2 SJ2
    exact ⟨_, rfl, (q1.1 c2)⟩
  · refine gj_Do.mono (q1.2 c2) (fun v_ SI4 SJ4 h_ => ?_)
    obtain ⟨r3, rfl, q3⟩ := h_
    show gj_Goes E om0 mt_174 18 [some (.ref 81), some (.long x1), none, some (.int x3)] [(.int r3), (.long x1)] SI4 SJ4 (QL Q)
    refine gj_goq gj_clT ok_174 [4, 9, 18, 25, 35, 40] ?_
    show gj_Do E om0 (gj_mt 164) [(.ref 81), (.int (x3 + (i3 1)))] SI4 SJ4 _
    refine gj_Do.mono q3 (fun v_ SI6 SJ6 h_ => ?_)
    obtain ⟨r5, rfl, q4⟩ := h_
    show gj_Goes E om0 mt_174 25 [some (.ref 81), some (.long x1), none, some (.int x3)] [(.int r5), (.int r3), (.long x1)] SI6 SJ6 (QL Q)
    refine gj_goq gj_clT ok_174 [4, 9, 18, 25, 35, 40] ?_
    show gj_Do E om0 (gj_mt 163) [(.ref 81), (.int (x3 + (i3 1)))] SI6 SJ6 _
    refine gj_Do.mono q4 (fun v_ SI8 SJ8 h_ => ?_)
    obtain ⟨r7, rfl, q5⟩ := h_
    show gj_Goes E om0 mt_174 35 [some (.ref 81), some (.long x1), none, some (.int x3)] [(.int r7), (.long (x1 + (r3 * r5).toInt64))] SI8 SJ8 (QL Q)
    refine gj_goq gj_clT ok_174 [4, 9, 18, 25, 35, 40] ?_
    show gj_Do E om0 (gj_mt 164) [(.ref 81), (.int x3)] SI8 SJ8 _
    refine gj_Do.mono q5 (fun v_ SI10 SJ10 h_ => ?_)
    obtain ⟨r9, rfl, q6⟩ := h_
    show gj_Goes E om0 mt_174 40 [some (.ref 81), some (.long x1), none, some (.int x3)] [(.int r9), (.int r7), (.long (x1 + (r3 * r5).toInt64))] SI10 SJ10 (QL Q)
    refine gj_goq gj_clT ok_174 [4, 9, 18, 25, 35, 40] ?_
    show gj_Goes E om0 mt_174 4 [some (.ref 81), some (.long ((x1 + (r3 * r5).toInt64) - (r7 * r9).toInt64)), none, some (.int (x3 + (i3 1)))] [] SI10 SJ10 (QL Q)
    exact q6
set_option maxRecDepth 20000 in
/-- GraspJudgeModel.isPlate -/
theorem st_175 {E : gj_E} {Q : Int32 → gj_I → gj_J → Prop} (SI : gj_I) (SJ : gj_J) (h : DoI E 162 [(.ref 81)] SI SJ (fun r1 SI2 SJ2 => ((i3 3) ≤ r1 → GoI E mt_175 14 [some (.ref 81), some (.int r1), some (.int (i3 0)), none] SI2 SJ2 Q) ∧ (¬ (i3 3) ≤ r1 → Q (i3 0) SI2 SJ2))) : DoI E 175 [(.ref 81)] SI SJ Q := by
  refine gj_start (M := mt_175) ok_175 (Nat.le_of_ble_eq_true rfl) ?_
  refine gj_goq gj_clT ok_175 [4, 14, 31, 38, 41, 56, 65, 85, 106] ?_
  show gj_Do E om0 (gj_mt 162) [(.ref 81)] SI SJ _
  refine gj_Do.mono h (fun v_ SI2 SJ2 h_ => ?_)
  obtain ⟨r1, rfl, q1⟩ := h_
  show gj_Goes E om0 mt_175 4 [some (.ref 81), none, none, none] [(.int r1)] SI2 SJ2 (QI Q)
  refine gj_goq gj_clT ok_175 [4, 14, 31, 38, 41, 56, 65, 85, 106] ?_
  show ((i3 3) ≤ r1 → gj_Goes E om0 mt_175 12 [some (.ref 81), some (.int r1), none, none] [] SI2 SJ2 (QI Q)) ∧ (¬ (i3 3) ≤ r1 → ((i3 0) = 0 ∨ (i3 0) = 1) ∧ (QI Q (some (.int (i3 0))) SI2 SJ2))
  refine ⟨fun c2 => ?_, fun c2 => ?_⟩
  · refine gj_goq gj_clT ok_175 [4, 14, 31, 38, 41, 56, 65, 85, 106] ?_
    show gj_Goes E om0 mt_175 14 [some (.ref 81), some (.int r1), some (.int (i3 0)), none] [] SI2 SJ2 (QI Q)
    exact (q1.1 c2)
  · refine ⟨(Or.inl rfl), ?_⟩
    exact ⟨_, rfl, (q1.2 c2)⟩
set_option maxRecDepth 20000 in
theorem lp_175_14 {E : gj_E} {Q : Int32 → gj_I → gj_J → Prop} (x1 : Int32) (x2 : Int32) (SI : gj_I) (SJ : gj_J) (h : (x1 ≤ x2 → GoI E mt_175 56 [some (.ref 81), some (.int x1), some (.int (i3 0)), none] SI SJ Q) ∧ (¬ x1 ≤ x2 → DoI E 163 [(.ref 81), (.int (x2 + (i3 2)))] SI SJ (fun r1 SI2 SJ2 => DoI E 164 [(.ref 81), (.int (x2 + (i3 2)))] SI2 SJ2 (fun r3 SI4 SJ4 => DoL E 170 [(.ref 81), (.int x2), (.int (x2 + (i3 1))), (.int r1), (.int r3)] SI4 SJ4 (fun r5 SI6 SJ6 => (¬ r5 = (i6 0) → GoI E mt_175 14 [some (.ref 81), some (.int x1), some (.int (x2 + (i3 1))), none] SI6 SJ6 Q) ∧ (r5 = (i6 0) → Q (i3 0) SI6 SJ6)))))) : GoI E mt_175 14 [some (.ref 81), some (.int x1), some (.int x2), none] SI SJ Q := by
  refine gj_goq gj_clT ok_175 [4, 14, 31, 38, 41, 56, 65, 85, 106] ?_
  show (x1 ≤ x2 → gj_Goes E om0 mt_175 54 [some (.ref 81), some (.int x1), some (.int x2), none] [] SI SJ (QI Q)) ∧ (¬ x1 ≤ x2 → gj_Do E om0 (gj_mt 163) [(.ref 81), (.int (x2 + (i3 2)))] SI SJ _)
  refine ⟨fun c1 => ?_, fun c1 => ?_⟩
  · refine gj_goq gj_clT ok_175 [4, 14, 31, 38, 41, 56, 65, 85, 106] ?_
    show gj_Goes E om0 mt_175 56 [some (.ref 81), some (.int x1), some (.int (i3 0)), none] [] SI SJ (QI Q)
    exact (h.1 c1)
  · refine gj_Do.mono (h.2 c1) (fun v_ SI2 SJ2 h_ => ?_)
    obtain ⟨r1, rfl, q2⟩ := h_
    show gj_Goes E om0 mt_175 31 [some (.ref 81), some (.int x1), some (.int x2), none] [(.int r1), (.int (x2 + (i3 1))), (.int x2), (.ref 81)] SI2 SJ2 (QI Q)
    refine gj_goq gj_clT ok_175 [4, 14, 31, 38, 41, 56, 65, 85, 106] ?_
    show gj_Do E om0 (gj_mt 164) [(.ref 81), (.int (x2 + (i3 2)))] SI2 SJ2 _
    refine gj_Do.mono q2 (fun v_ SI4 SJ4 h_ => ?_)
    obtain ⟨r3, rfl, q3⟩ := h_
    show gj_Goes E om0 mt_175 38 [some (.ref 81), some (.int x1), some (.int x2), none] [(.int r3), (.int r1), (.int (x2 + (i3 1))), (.int x2), (.ref 81)] SI4 SJ4 (QI Q)
    refine gj_goq gj_clT ok_175 [4, 14, 31, 38, 41, 56, 65, 85, 106] ?_
    show gj_Do E om0 (gj_mt 170) [(.ref 81), (.int x2), (.int (x2 + (i3 1))), (.int r1), (.int r3)] SI4 SJ4 _
    refine gj_Do.mono q3 (fun v_ SI6 SJ6 h_ => ?_)
    obtain ⟨r5, rfl, q4⟩ := h_
    show gj_Goes E om0 mt_175 41 [some (.ref 81), some (.int x1), some (.int x2), none] [(.long r5)] SI6 SJ6 (QI Q)
    refine gj_goq gj_clT ok_175 [4, 14, 31, 38, 41, 56, 65, 85, 106] ?_
    show (¬ (lg_cmp r5 (i6 0)) = 0 → gj_Goes E om0 mt_175 48 [some (.ref 81), some (.int x1), some (.int x2), none] [] SI6 SJ6 (QI Q)) ∧ ((lg_cmp r5 (i6 0)) = 0 → ((i3 0) = 0 ∨ (i3 0) = 1) ∧ (QI Q (some (.int (i3 0))) SI6 SJ6))
    refine ⟨fun c5 => ?_, fun c5 => ?_⟩
    · refine gj_goq gj_clT ok_175 [4, 14, 31, 38, 41, 56, 65, 85, 106] ?_
      show gj_Goes E om0 mt_175 14 [some (.ref 81), some (.int x1), some (.int (x2 + (i3 1))), none] [] SI6 SJ6 (QI Q)
      exact (q4.1 (fun z_ => c5 (lgc_eq.mpr z_)))
    · refine ⟨(Or.inl rfl), ?_⟩
      exact ⟨_, rfl, (q4.2 (lgc_eq.mp c5))⟩
set_option maxRecDepth 20000 in
theorem lp_175_56 {E : gj_E} {Q : Int32 → gj_I → gj_J → Prop} (x1 : Int32) (x2 : Int32) (SI : gj_I) (SJ : gj_J) (h : (x1 ≤ x2 → DoL E 174 [(.ref 81)] SI SJ (fun r1 SI2 SJ2 => (r1 ≤ (i6 0) → Q (i3 0) SI2 SJ2) ∧ (¬ r1 ≤ (i6 0) → Q (i3 1) SI2 SJ2))) ∧ (¬ x1 ≤ x2 → GoI E mt_175 65 [some (.ref 81), some (.int x1), some (.int x2), some (.int (x2 + (i3 2)))] SI SJ Q)) : GoI E mt_175 56 [some (.ref 81), some (.int x1), some (.int x2), none] SI SJ Q := by
  refine gj_goq gj_clT ok_175 [4, 14, 31, 38, 41, 56, 65, 85, 106] ?_
  show (x1 ≤ x2 → gj_Goes E om0 mt_175 102 [some (.ref 81), some (.int x1), some (.int x2), none] [] SI SJ (QI Q)) ∧ (¬ x1 ≤ x2 → gj_Goes E om0 mt_175 65 [some (.ref 81), some (.int x1), some (.int x2), some (.int (x2 + (i3 2)))] [] SI SJ (QI Q))
  refine ⟨fun c1 => ?_, fun c1 => ?_⟩
  · refine gj_goq gj_clT ok_175 [4, 14, 31, 38, 41, 56, 65, 85, 106] ?_
    show gj_Do E om0 (gj_mt 174) [(.ref 81)] SI SJ _
    refine gj_Do.mono (h.1 c1) (fun v_ SI2 SJ2 h_ => ?_)
    obtain ⟨r1, rfl, q2⟩ := h_
    show gj_Goes E om0 mt_175 106 [some (.ref 81), some (.int x1), some (.int x2), none] [(.long r1)] SI2 SJ2 (QI Q)
    refine gj_goq gj_clT ok_175 [4, 14, 31, 38, 41, 56, 65, 85, 106] ?_
    show ((lg_cmp r1 (i6 0)) ≤ 0 → gj_Goes E om0 mt_175 115 [some (.ref 81), some (.int x1), some (.int x2), none] [] SI2 SJ2 (QI Q)) ∧ (¬ (lg_cmp r1 (i6 0)) ≤ 0 → gj_Goes E om0 mt_175 116 [some (.ref 81), some (.int x1), some (.int x2), none] [(.int (i3 1))] SI2 SJ2 (QI Q))
    refine ⟨fun c3 => ?_, fun c3 => ?_⟩
    · refine gj_goq gj_clT ok_175 [4, 14, 31, 38, 41, 56, 65, 85, 106] ?_
      show ((i3 0) = 0 ∨ (i3 0) = 1) ∧ (QI Q (some (.int (i3 0))) SI2 SJ2)
      refine ⟨(Or.inl rfl), ?_⟩
      exact ⟨_, rfl, (q2.1 (lgc_le.mp c3))⟩
    · refine gj_goq gj_clT ok_175 [4, 14, 31, 38, 41, 56, 65, 85, 106] ?_
      show ((i3 1) = 0 ∨ (i3 1) = 1) ∧ (QI Q (some (.int (i3 1))) SI2 SJ2)
      refine ⟨(Or.inr rfl), ?_⟩
      exact ⟨_, rfl, (q2.2 (fun z_ => c3 (lgc_le.mpr z_)))⟩
  · exact (h.2 c1)
set_option maxRecDepth 20000 in
theorem lp_175_65 {E : gj_E} {Q : Int32 → gj_I → gj_J → Prop} (x1 : Int32) (x2 : Int32) (x3 : Int32) (SI : gj_I) (SJ : gj_J) (h : (x1 ≤ x3 → GoI E mt_175 56 [some (.ref 81), some (.int x1), some (.int (x2 + (i3 1))), none] SI SJ Q) ∧ (¬ x1 ≤ x3 → ¬ x1 = 0 ∧ ((((x3 + (i3 1)) - (x3 + (i3 1)) / x1 * x1) = x2 → GoI E mt_175 65 [some (.ref 81), some (.int x1), some (.int x2), some (.int (x3 + (i3 1)))] SI SJ Q) ∧ (¬ ((x3 + (i3 1)) - (x3 + (i3 1)) / x1 * x1) = x2 → DoI E 173 [(.ref 81), (.int x2), (.int x3)] SI SJ (fun r1 SI2 SJ2 => (r1 = 0 → GoI E mt_175 65 [some (.ref 81), some (.int x1), some (.int x2), some (.int (x3 + (i3 1)))] SI2 SJ2 Q) ∧ (¬ r1 = 0 → Q (i3 0) SI2 SJ2)))))) : GoI E mt_175 65 [some (.ref 81), some (.int x1), some (.int x2), some (.int x3)] SI SJ Q := by
  refine gj_goq gj_clT ok_175 [4, 14, 31, 38, 41, 56, 65, 85, 106] ?_
  show (x1 ≤ x3 → gj_Goes E om0 mt_175 96 [some (.ref 81), some (.int x1), some (.int x2), some (.int x3)] [] SI SJ (QI Q)) ∧ (¬ x1 ≤ x3 → ¬ x1 = 0 ∧ ((((x3 + (i3 1)) - (x3 + (i3 1)) / x1 * x1) = x2 → gj_Goes E om0 mt_175 90 [some (.ref 81), some (.int x1), some (.int x2), some (.int x3)] [] SI SJ (QI Q)) ∧ (¬ ((x3 + (i3 1)) - (x3 + (i3 1)) / x1 * x1) = x2 → gj_Do E om0 (gj_mt 173) [(.ref 81), (.int x2), (.int x3)] SI SJ _)))
  refine ⟨fun c1 => ?_, fun c1 => ?_⟩
  · refine gj_goq gj_clT ok_175 [4, 14, 31, 38, 41, 56, 65, 85, 106] ?_
    show gj_Goes E om0 mt_175 56 [some (.ref 81), some (.int x1), some (.int (x2 + (i3 1))), some (.int x3)] [] SI SJ (QI Q)
    exact gj_fh (h.1 c1) (And.intro (Or.inr rfl) (And.intro (Or.inr rfl) (And.intro (Or.inr rfl) (And.intro (Or.inl rfl) trivial))))
  · have k2 := (h.2 c1).1
    refine ⟨k2, ?_⟩
    refine ⟨fun c3 => ?_, fun c3 => ?_⟩
    · refine gj_goq gj_clT ok_175 [4, 14, 31, 38, 41, 56, 65, 85, 106] ?_
      show gj_Goes E om0 mt_175 65 [some (.ref 81), some (.int x1), some (.int x2), some (.int (x3 + (i3 1)))] [] SI SJ (QI Q)
      exact ((h.2 c1).2.1 c3)
    · refine gj_Do.mono ((h.2 c1).2.2 c3) (fun v_ SI2 SJ2 h_ => ?_)
      obtain ⟨r1, rfl, q4⟩ := h_
      show gj_Goes E om0 mt_175 85 [some (.ref 81), some (.int x1), some (.int x2), some (.int x3)] [(.int r1)] SI2 SJ2 (QI Q)
      refine gj_goq gj_clT ok_175 [4, 14, 31, 38, 41, 56, 65, 85, 106] ?_
      show (r1 = 0 → gj_Goes E om0 mt_175 90 [some (.ref 81), some (.int x1), some (.int x2), some (.int x3)] [] SI2 SJ2 (QI Q)) ∧ (¬ r1 = 0 → ((i3 0) = 0 ∨ (i3 0) = 1) ∧ (QI Q (some (.int (i3 0))) SI2 SJ2))
      refine ⟨fun c5 => ?_, fun c5 => ?_⟩
      · refine gj_goq gj_clT ok_175 [4, 14, 31, 38, 41, 56, 65, 85, 106] ?_
        show gj_Goes E om0 mt_175 65 [some (.ref 81), some (.int x1), some (.int x2), some (.int (x3 + (i3 1)))] [] SI2 SJ2 (QI Q)
        exact (q4.1 c5)
      · refine ⟨(Or.inl rfl), ?_⟩
        exact ⟨_, rfl, (q4.2 c5)⟩
set_option maxRecDepth 20000 in
/-- GraspJudgeModel.placeMany -/
theorem st_176 {E : gj_E} {Q : Int32 → gj_I → gj_J → Prop} (SI : gj_I) (SJ : gj_J) (h : GoI E mt_176 4 [some (.ref 81), some (.int (i3 0)), some (.int (i3 0))] SI SJ Q) : DoI E 176 [(.ref 81)] SI SJ Q := by
  refine gj_start (M := mt_176) ok_176 (Nat.le_of_ble_eq_true rfl) ?_
  refine gj_goq gj_clT ok_176 [4, 9, 18] ?_
  show gj_Goes E om0 mt_176 4 [some (.ref 81), some (.int (i3 0)), some (.int (i3 0))] [] SI SJ (QI Q)
  exact h
set_option maxRecDepth 20000 in
theorem lp_176_4 {E : gj_E} {Q : Int32 → gj_I → gj_J → Prop} (x1 : Int32) (x2 : Int32) (SI : gj_I) (SJ : gj_J) (h : DoI E 162 [(.ref 81)] SI SJ (fun r1 SI2 SJ2 => (r1 ≤ x2 → Q x1 SI2 SJ2) ∧ (¬ r1 ≤ x2 → DoI E 165 [(.ref 81), (.int x2)] SI2 SJ2 (fun r3 SI4 SJ4 => GoI E mt_176 4 [some (.ref 81), some (.int ((x1 + r3) - (i3 1))), some (.int (x2 + (i3 1)))] SI4 SJ4 Q)))) : GoI E mt_176 4 [some (.ref 81), some (.int x1), some (.int x2)] SI SJ Q := by
  refine gj_goq gj_clT ok_176 [4, 9, 18] ?_
  show gj_Do E om0 (gj_mt 162) [(.ref 81)] SI SJ _
  refine gj_Do.mono h (fun v_ SI2 SJ2 h_ => ?_)
  obtain ⟨r1, rfl, q1⟩ := h_
  show gj_Goes E om0 mt_176 9 [some (.ref 81), some (.int x1), some (.int x2)] [(.int r1), (.int x2)] SI2 SJ2 (QI Q)
  refine gj_goq gj_clT ok_176 [4, 9, 18] ?_
  show (r1 ≤ x2 → gj_Goes E om0 mt_176 28 [some (.ref 81), some (.int x1), some (.int x2)] [] SI2 SJ2 (QI Q)) ∧ (¬ r1 ≤ x2 → gj_Do E om0 (gj_mt 165) [(.ref 81), (.int x2)] SI2 SJ2 _)
  refine ⟨fun c2 => ?_, fun c2 => ?_⟩
  · refine gj_goq gj_clT ok_176 [4, 9, 18] ?_
    show QI Q (some (.int x1)) SI2 SJ2
    exact ⟨_, rfl, (q1.1 c2)⟩
  · refine gj_Do.mono (q1.2 c2) (fun v_ SI4 SJ4 h_ => ?_)
    obtain ⟨r3, rfl, q3⟩ := h_
    show gj_Goes E om0 mt_176 18 [some (.ref 81), some (.int x1), some (.int x2)] [(.int r3), (.int x1)] SI4 SJ4 (QI Q)
    refine gj_goq gj_clT ok_176 [4, 9, 18] ?_
    show gj_Goes E om0 mt_176 4 [some (.ref 81), some (.int ((x1 + r3) - (i3 1))), some (.int (x2 + (i3 1)))] [] SI4 SJ4 (QI Q)
    exact q3
set_option maxRecDepth 20000 in
/-- GraspJudgeModel.placeEdge -/
theorem st_177 {E : gj_E} {Q : Int32 → gj_I → gj_J → Prop} (a1 : Int32) (SI : gj_I) (SJ : gj_J) (h : GoI E mt_177 4 [some (.ref 81), none, some (.int a1), some (.int (i3 0))] SI SJ Q) : DoI E 177 [(.ref 81), (.int a1)] SI SJ Q := by
  refine gj_start (M := mt_177) ok_177 (Nat.le_of_ble_eq_true rfl) ?_
  refine gj_goq gj_clT ok_177 [4, 10, 21] ?_
  show gj_Goes E om0 mt_177 4 [some (.ref 81), some (.int a1), some (.int a1), some (.int (i3 0))] [] SI SJ (QI Q)
  exact gj_fh h (And.intro (Or.inr rfl) (And.intro (Or.inl rfl) (And.intro (Or.inr rfl) (And.intro (Or.inr rfl) trivial))))
set_option maxRecDepth 20000 in
theorem lp_177_4 {E : gj_E} {Q : Int32 → gj_I → gj_J → Prop} (x2 : Int32) (x3 : Int32) (SI : gj_I) (SJ : gj_J) (h : DoI E 165 [(.ref 81), (.int x3)] SI SJ (fun r1 SI2 SJ2 => (x2 < (r1 - (i3 1)) → Q x3 SI2 SJ2) ∧ (¬ x2 < (r1 - (i3 1)) → DoI E 165 [(.ref 81), (.int x3)] SI2 SJ2 (fun r3 SI4 SJ4 => GoI E mt_177 4 [some (.ref 81), none, some (.int ((x2 - r3) + (i3 1))), some (.int (x3 + (i3 1)))] SI4 SJ4 Q)))) : GoI E mt_177 4 [some (.ref 81), none, some (.int x2), some (.int x3)] SI SJ Q := by
  refine gj_goq gj_clT ok_177 [4, 10, 21] ?_
  show gj_Do E om0 (gj_mt 165) [(.ref 81), (.int x3)] SI SJ _
  refine gj_Do.mono h (fun v_ SI2 SJ2 h_ => ?_)
  obtain ⟨r1, rfl, q1⟩ := h_
  show gj_Goes E om0 mt_177 10 [some (.ref 81), none, some (.int x2), some (.int x3)] [(.int r1), (.int x2)] SI2 SJ2 (QI Q)
  refine gj_goq gj_clT ok_177 [4, 10, 21] ?_
  show (x2 < (r1 - (i3 1)) → gj_Goes E om0 mt_177 32 [some (.ref 81), none, some (.int x2), some (.int x3)] [] SI2 SJ2 (QI Q)) ∧ (¬ x2 < (r1 - (i3 1)) → gj_Do E om0 (gj_mt 165) [(.ref 81), (.int x3)] SI2 SJ2 _)
  refine ⟨fun c2 => ?_, fun c2 => ?_⟩
  · refine gj_goq gj_clT ok_177 [4, 10, 21] ?_
    show QI Q (some (.int x3)) SI2 SJ2
    exact ⟨_, rfl, (q1.1 c2)⟩
  · refine gj_Do.mono (q1.2 c2) (fun v_ SI4 SJ4 h_ => ?_)
    obtain ⟨r3, rfl, q3⟩ := h_
    show gj_Goes E om0 mt_177 21 [some (.ref 81), none, some (.int x2), some (.int x3)] [(.int r3), (.int x2)] SI4 SJ4 (QI Q)
    refine gj_goq gj_clT ok_177 [4, 10, 21] ?_
    show gj_Goes E om0 mt_177 4 [some (.ref 81), none, some (.int ((x2 - r3) + (i3 1))), some (.int (x3 + (i3 1)))] [] SI4 SJ4 (QI Q)
    exact q3
set_option maxRecDepth 20000 in
/-- GraspJudgeModel.placeStep -/
theorem st_178 {E : gj_E} {Q : Int32 → gj_I → gj_J → Prop} (a1 : Int32) (SI : gj_I) (SJ : gj_J) (h : GoI E mt_178 4 [some (.ref 81), some (.int a1), some (.int a1), some (.int (i3 0))] SI SJ Q) : DoI E 178 [(.ref 81), (.int a1)] SI SJ Q := by
  refine gj_start (M := mt_178) ok_178 (Nat.le_of_ble_eq_true rfl) ?_
  refine gj_goq gj_clT ok_178 [4, 10, 19] ?_
  show gj_Goes E om0 mt_178 4 [some (.ref 81), some (.int a1), some (.int a1), some (.int (i3 0))] [] SI SJ (QI Q)
  exact h
set_option maxRecDepth 20000 in
theorem lp_178_4 {E : gj_E} {Q : Int32 → gj_I → gj_J → Prop} (x1 : Int32) (x2 : Int32) (x3 : Int32) (SI : gj_I) (SJ : gj_J) (h : DoI E 177 [(.ref 81), (.int x1)] SI SJ (fun r1 SI2 SJ2 => (r1 ≤ x3 → Q (x2 + (i3 1)) SI2 SJ2) ∧ (¬ r1 ≤ x3 → DoI E 165 [(.ref 81), (.int x3)] SI2 SJ2 (fun r3 SI4 SJ4 => GoI E mt_178 4 [some (.ref 81), some (.int x1), some (.int ((x2 - r3) + (i3 1))), some (.int (x3 + (i3 1)))] SI4 SJ4 Q)))) : GoI E mt_178 4 [some (.ref 81), some (.int x1), some (.int x2), some (.int x3)] SI SJ Q := by
  refine gj_goq gj_clT ok_178 [4, 10, 19] ?_
  show gj_Do E om0 (gj_mt 177) [(.ref 81), (.int x1)] SI SJ _
  refine gj_Do.mono h (fun v_ SI2 SJ2 h_ => ?_)
  obtain ⟨r1, rfl, q1⟩ := h_
  show gj_Goes E om0 mt_178 10 [some (.ref 81), some (.int x1), some (.int x2), some (.int x3)] [(.int r1), (.int x3)] SI2 SJ2 (QI Q)
  refine gj_goq gj_clT ok_178 [4, 10, 19] ?_
  show (r1 ≤ x3 → gj_Goes E om0 mt_178 29 [some (.ref 81), some (.int x1), some (.int x2), some (.int x3)] [] SI2 SJ2 (QI Q)) ∧ (¬ r1 ≤ x3 → gj_Do E om0 (gj_mt 165) [(.ref 81), (.int x3)] SI2 SJ2 _)
  refine ⟨fun c2 => ?_, fun c2 => ?_⟩
  · refine gj_goq gj_clT ok_178 [4, 10, 19] ?_
    show QI Q (some (.int (x2 + (i3 1)))) SI2 SJ2
    exact ⟨_, rfl, (q1.1 c2)⟩
  · refine gj_Do.mono (q1.2 c2) (fun v_ SI4 SJ4 h_ => ?_)
    obtain ⟨r3, rfl, q3⟩ := h_
    show gj_Goes E om0 mt_178 19 [some (.ref 81), some (.int x1), some (.int x2), some (.int x3)] [(.int r3), (.int x2)] SI4 SJ4 (QI Q)
    refine gj_goq gj_clT ok_178 [4, 10, 19] ?_
    show gj_Goes E om0 mt_178 4 [some (.ref 81), some (.int x1), some (.int ((x2 - r3) + (i3 1))), some (.int (x3 + (i3 1)))] [] SI4 SJ4 (QI Q)
    exact q3
set_option maxRecDepth 20000 in
/-- GraspJudgeModel.isPlace -/
theorem st_179 {E : gj_E} {Q : Int32 → gj_I → gj_J → Prop} (a1 : Int32) (SI : gj_I) (SJ : gj_J) (h : DoI E 176 [(.ref 81)] SI SJ (fun r1 SI2 SJ2 => DoI E 155 [(.long (a1).toInt64), (.long (i6 0)), (.long (r1 - (i3 1)).toInt64)] SI2 SJ2 (fun r3 SI4 SJ4 => (r3 = 0 ∨ r3 = 1) ∧ (Q r3 SI4 SJ4)))) : DoI E 179 [(.ref 81), (.int a1)] SI SJ Q := by
  refine gj_start (M := mt_179) ok_179 (Nat.le_of_ble_eq_true rfl) ?_
  refine gj_goq gj_clT ok_179 [7, 13] ?_
  show gj_Do E om0 (gj_mt 176) [(.ref 81)] SI SJ _
  refine gj_Do.mono h (fun v_ SI2 SJ2 h_ => ?_)
  obtain ⟨r1, rfl, q1⟩ := h_
  show gj_Goes E om0 mt_179 7 [some (.ref 81), some (.int a1)] [(.int r1), (.long (i6 0)), (.long (a1).toInt64)] SI2 SJ2 (QI Q)
  refine gj_goq gj_clT ok_179 [7, 13] ?_
  show gj_Do E om0 (gj_mt 155) [(.long (a1).toInt64), (.long (i6 0)), (.long (r1 - (i3 1)).toInt64)] SI2 SJ2 _
  refine gj_Do.mono q1 (fun v_ SI4 SJ4 h_ => ?_)
  obtain ⟨r3, rfl, q2⟩ := h_
  show gj_Goes E om0 mt_179 13 [some (.ref 81), some (.int a1)] [(.int r3)] SI4 SJ4 (QI Q)
  refine gj_goq gj_clT ok_179 [7, 13] ?_
  show (r3 = 0 ∨ r3 = 1) ∧ (QI Q (some (.int r3)) SI4 SJ4)
  have k3 := q2.1
  refine ⟨k3, ?_⟩
  exact ⟨_, rfl, q2.2⟩
set_option maxRecDepth 20000 in
/-- GraspJudgeModel.fingerAt -/
theorem st_180 {E : gj_E} {Q : Int32 → gj_I → gj_J → Prop} (a1 : Int32) (a2 : Int32) (SI : gj_I) (SJ : gj_J) (h : GoI E mt_180 2 [some (.ref 81), some (.int a1), some (.int a2), some (.int (i3 0))] SI SJ Q) : DoI E 180 [(.ref 81), (.int a1), (.int a2)] SI SJ Q := by
  refine gj_start (M := mt_180) ok_180 (Nat.le_of_ble_eq_true rfl) ?_
  refine gj_goq gj_clT ok_180 [2] ?_
  show gj_Goes E om0 mt_180 2 [some (.ref 81), some (.int a1), some (.int a2), some (.int (i3 0))] [] SI SJ (QI Q)
  exact h
set_option maxRecDepth 20000 in
theorem lp_180_2 {E : gj_E} {Q : Int32 → gj_I → gj_J → Prop} (x1 : Int32) (x2 : Int32) (x3 : Int32) (SI : gj_I) (SJ : gj_J) (h : ((SI 82 17) ≤ x3 → Q (i3 (-1)) SI SJ) ∧ (¬ (SI 82 17) ≤ x3 → vp_in ((i3 18) + x3) 135 ∧ ((¬ (SI 82 (gj_n ((i3 18) + x3))) = x1 → GoI E mt_180 2 [some (.ref 81), some (.int x1), some (.int x2), some (.int (x3 + (i3 1)))] SI SJ Q) ∧ ((SI 82 (gj_n ((i3 18) + x3))) = x1 → vp_in ((i3 24) + x3) 135 ∧ ((¬ (SI 82 (gj_n ((i3 24) + x3))) = x2 → GoI E mt_180 2 [some (.ref 81), some (.int x1), some (.int x2), some (.int (x3 + (i3 1)))] SI SJ Q) ∧ ((SI 82 (gj_n ((i3 24) + x3))) = x2 → Q x3 SI SJ)))))) : GoI E mt_180 2 [some (.ref 81), some (.int x1), some (.int x2), some (.int x3)] SI SJ Q := by
  refine gj_goq gj_clT ok_180 [2] ?_
  show vp_in (i3 17) 135 ∧ (((SI 82 17) ≤ x3 → gj_Goes E om0 mt_180 47 [some (.ref 81), some (.int x1), some (.int x2), some (.int x3)] [] SI SJ (QI Q)) ∧ (¬ (SI 82 17) ≤ x3 → vp_in ((i3 18) + x3) 135 ∧ ((¬ (SI 82 (gj_n ((i3 18) + x3))) = x1 → gj_Goes E om0 mt_180 41 [some (.ref 81), some (.int x1), some (.int x2), some (.int x3)] [] SI SJ (QI Q)) ∧ ((SI 82 (gj_n ((i3 18) + x3))) = x1 → vp_in ((i3 24) + x3) 135 ∧ ((¬ (SI 82 (gj_n ((i3 24) + x3))) = x2 → gj_Goes E om0 mt_180 41 [some (.ref 81), some (.int x1), some (.int x2), some (.int x3)] [] SI SJ (QI Q)) ∧ ((SI 82 (gj_n ((i3 24) + x3))) = x2 → QI Q (some (.int x3)) SI SJ))))))
  refine ⟨(gj_vin (by decide)), ?_⟩
  refine ⟨fun c1 => ?_, fun c1 => ?_⟩
  · refine gj_goq gj_clT ok_180 [2] ?_
    show QI Q (some (.int (i3 (-1)))) SI SJ
    exact ⟨_, rfl, (h.1 c1)⟩
  · have k2 := (h.2 c1).1
    refine ⟨k2, ?_⟩
    refine ⟨fun c3 => ?_, fun c3 => ?_⟩
    · refine gj_goq gj_clT ok_180 [2] ?_
      show gj_Goes E om0 mt_180 2 [some (.ref 81), some (.int x1), some (.int x2), some (.int (x3 + (i3 1)))] [] SI SJ (QI Q)
      exact ((h.2 c1).2.1 c3)
    · have k4 := ((h.2 c1).2.2 c3).1
      refine ⟨k4, ?_⟩
      refine ⟨fun c5 => ?_, fun c5 => ?_⟩
      · refine gj_goq gj_clT ok_180 [2] ?_
        show gj_Goes E om0 mt_180 2 [some (.ref 81), some (.int x1), some (.int x2), some (.int (x3 + (i3 1)))] [] SI SJ (QI Q)
        exact (((h.2 c1).2.2 c3).2.1 c5)
      · exact ⟨_, rfl, (((h.2 c1).2.2 c3).2.2 c5)⟩
set_option maxRecDepth 20000 in
/-- GraspJudgeModel.isFinger -/
theorem st_181 {E : gj_E} {Q : Int32 → gj_I → gj_J → Prop} (a1 : Int32) (SI : gj_I) (SJ : gj_J) (h : DoI E 155 [(.long (a1).toInt64), (.long (i6 0)), (.long ((SI 82 17) - (i3 1)).toInt64)] SI SJ (fun r1 SI2 SJ2 => (r1 = 0 ∨ r1 = 1) ∧ (Q r1 SI2 SJ2))) : DoI E 181 [(.ref 81), (.int a1)] SI SJ Q := by
  refine gj_start (M := mt_181) ok_181 (Nat.le_of_ble_eq_true rfl) ?_
  refine gj_goq gj_clT ok_181 [16] ?_
  show vp_in (i3 17) 135 ∧ (gj_Do E om0 (gj_mt 155) [(.long (a1).toInt64), (.long (i6 0)), (.long ((SI 82 17) - (i3 1)).toInt64)] SI SJ _)
  refine ⟨(gj_vin (by decide)), ?_⟩
  refine gj_Do.mono h (fun v_ SI2 SJ2 h_ => ?_)
  obtain ⟨r1, rfl, q1⟩ := h_
  show gj_Goes E om0 mt_181 16 [some (.ref 81), some (.int a1)] [(.int r1)] SI2 SJ2 (QI Q)
  refine gj_goq gj_clT ok_181 [16] ?_
  show (r1 = 0 ∨ r1 = 1) ∧ (QI Q (some (.int r1)) SI2 SJ2)
  have k2 := q1.1
  refine ⟨k2, ?_⟩
  exact ⟨_, rfl, q1.2⟩
set_option maxRecDepth 20000 in
/-- GraspJudgeModel.comesForce -/
theorem st_182 {E : gj_E} {Q : gj_I → gj_J → Prop} (a1 : Int32) (a2 : Int32) (a3 : Int64) (a4 : Int64) (a5 : Int32) (SI : gj_I) (SJ : gj_J) (h : DoL E 161 [(.long a3), (.long a4)] SI SJ (fun r1 SI2 SJ2 => ¬ r1 = 0 ∧ (vp_in (SI2 81 8) 16 ∧ (DoI E 168 [(.ref 81), (.int a1), (.int a2)] SI2 (gj_w2 (gj_w2 SJ2 85 (gj_n (SI2 81 8)) (a3 / r1)) 86 (gj_n (SI2 81 8)) (a4 / r1)) (fun r3 SI4 SJ4 => vp_in (SI4 81 8) 16 ∧ (DoI E 169 [(.ref 81), (.int a1), (.int a2)] SI4 SJ4 (fun r5 SI6 SJ6 => vp_in (SI6 81 8) 16 ∧ (Q (gj_u2 (gj_u2 SI6 88 (gj_n (SI6 81 8)) a5) 81 8 ((SI6 81 8) + (i3 1))) (gj_w2 SJ6 87 (gj_n (SI2 81 8)) (((r3 - (SI4 82 32)).toInt64 * (SJ4 86 (gj_n (SI4 81 8)))) - ((r5 - (SI6 82 33)).toInt64 * (SJ6 85 (gj_n (SI6 81 8)))))))))))))) : DoV E 182 [(.ref 81), (.int a1), (.int a2), (.long a3), (.long a4), (.int a5)] SI SJ Q := by
  refine gj_start (M := mt_182) ok_182 (Nat.le_of_ble_eq_true rfl) ?_
  refine gj_goq gj_clT ok_182 [6, 49, 74] ?_
  show gj_Do E om0 (gj_mt 161) [(.long a3), (.long a4)] SI SJ _
  refine gj_Do.mono h (fun v_ SI2 SJ2 h_ => ?_)
  obtain ⟨r1, rfl, q1⟩ := h_
  show gj_Goes E om0 mt_182 6 [some (.ref 81), some (.int a1), some (.int a2), some (.long a3), none, some (.long a4), none, some (.int a5), none, none] [(.long r1)] SI2 SJ2 (QV Q)
  refine gj_goq gj_clT ok_182 [6, 49, 74] ?_
  show ¬ r1 = 0 ∧ (vp_in (SI2 81 8) 16 ∧ (¬ r1 = 0 ∧ (vp_in (SI2 81 8) 16 ∧ (gj_Do E om0 (gj_mt 168) [(.ref 81), (.int a1), (.int a2)] SI2 (gj_w2 (gj_w2 SJ2 85 (gj_n (SI2 81 8)) (a3 / r1)) 86 (gj_n (SI2 81 8)) (a4 / r1)) _))))
  have k2 := q1.1
  refine ⟨k2, ?_⟩
  have k3 := q1.2.1
  refine ⟨k3, ?_⟩
  refine ⟨k2, ?_⟩
  refine ⟨k3, ?_⟩
  refine gj_Do.mono q1.2.2 (fun v_ SI4 SJ4 h_ => ?_)
  obtain ⟨r3, rfl, q4⟩ := h_
  show gj_Goes E om0 mt_182 49 [some (.ref 81), some (.int a1), some (.int a2), some (.long a3), none, some (.long a4), none, some (.int a5), some (.long r1), none] [(.int r3), (.int (SI2 81 8)), (.ref 87)] SI4 SJ4 (QV Q)
  refine gj_goq gj_clT ok_182 [6, 49, 74] ?_
  show vp_in (i3 32) 135 ∧ (vp_in (SI4 81 8) 16 ∧ (gj_Do E om0 (gj_mt 169) [(.ref 81), (.int a1), (.int a2)] SI4 SJ4 _))
  refine ⟨(gj_vin (by decide)), ?_⟩
  have k5 := q4.1
  refine ⟨k5, ?_⟩
  refine gj_Do.mono q4.2 (fun v_ SI6 SJ6 h_ => ?_)
  obtain ⟨r5, rfl, q6⟩ := h_
  show gj_Goes E om0 mt_182 74 [some (.ref 81), some (.int a1), some (.int a2), some (.long a3), none, some (.long a4), none, some (.int a5), some (.long r1), none] [(.int r5), (.long ((r3 - (SI4 82 32)).toInt64 * (SJ4 86 (gj_n (SI4 81 8))))), (.int (SI2 81 8)), (.ref 87)] SI6 SJ6 (QV Q)
  refine gj_goq gj_clT ok_182 [6, 49, 74] ?_
  show vp_in (i3 33) 135 ∧ (vp_in (SI6 81 8) 16 ∧ (vp_in (SI2 81 8) 16 ∧ (vp_in (SI6 81 8) 16 ∧ (QV Q none (gj_u2 (gj_u2 SI6 88 (gj_n (SI6 81 8)) a5) 81 8 ((SI6 81 8) + (i3 1))) (gj_w2 SJ6 87 (gj_n (SI2 81 8)) (((r3 - (SI4 82 32)).toInt64 * (SJ4 86 (gj_n (SI4 81 8)))) - ((r5 - (SI6 82 33)).toInt64 * (SJ6 85 (gj_n (SI6 81 8))))))))))
  refine ⟨(gj_vin (by decide)), ?_⟩
  have k7 := q6.1
  refine ⟨k7, ?_⟩
  refine ⟨k3, ?_⟩
  refine ⟨k7, ?_⟩
  exact ⟨rfl, q6.2⟩
set_option maxRecDepth 20000 in
/-- GraspJudgeModel.comesFinger -/
theorem st_183 {E : gj_E} {Q : gj_I → gj_J → Prop} (a1 : Int32) (a2 : Int32) (a3 : Int32) (SI : gj_I) (SJ : gj_J) (h : DoI E 166 [(.ref 81), (.int a1)] SI SJ (fun r1 SI2 SJ2 => DoI E 167 [(.ref 81), (.int a1)] SI2 SJ2 (fun r3 SI4 SJ4 => (¬ (SI 82 30).toInt64 = (i6 0) → DoV E 182 [(.ref 81), (.int a1), (.int a2), (.long (((-(SI 82 31).toInt64) * (r3).toInt64) + ((SI 82 30).toInt64 * (r1).toInt64))), (.long (((SI 82 31).toInt64 * (r1).toInt64) + ((SI 82 30).toInt64 * (r3).toInt64))), (.int a3)] SI4 SJ4 (fun SI6 SJ6 => DoV E 182 [(.ref 81), (.int a1), (.int a2), (.long (((-(SI 82 31).toInt64) * (r3).toInt64) - ((SI 82 30).toInt64 * (r1).toInt64))), (.long (((SI 82 31).toInt64 * (r1).toInt64) - ((SI 82 30).toInt64 * (r3).toInt64))), (.int a3)] SI6 SJ6 (fun SI8 SJ8 => Q SI8 SJ8))) ∧ ((SI 82 30).toInt64 = (i6 0) → DoV E 182 [(.ref 81), (.int a1), (.int a2), (.long (-(r3).toInt64)), (.long (r1).toInt64), (.int a3)] SI4 SJ4 (fun SI10 SJ10 => Q SI10 SJ10))))) : DoV E 183 [(.ref 81), (.int a1), (.int a2), (.int a3)] SI SJ Q := by
  refine gj_start (M := mt_183) ok_183 (Nat.le_of_ble_eq_true rfl) ?_
  refine gj_goq gj_clT ok_183 [25, 33, 55, 86, 116] ?_
  show vp_in (i3 30) 135 ∧ (vp_in (i3 31) 135 ∧ (gj_Do E om0 (gj_mt 166) [(.ref 81), (.int a1)] SI SJ _))
  refine ⟨(gj_vin (by decide)), ?_⟩
  refine ⟨(gj_vin (by decide)), ?_⟩
  refine gj_Do.mono h (fun v_ SI2 SJ2 h_ => ?_)
  obtain ⟨r1, rfl, q1⟩ := h_
  show gj_Goes E om0 mt_183 25 [some (.ref 81), some (.int a1), some (.int a2), some (.int a3), some (.long (SI 82 30).toInt64), none, some (.long (SI 82 31).toInt64), none, none, none, none, none] [(.int r1)] SI2 SJ2 (QV Q)
  refine gj_goq gj_clT ok_183 [25, 33, 55, 86, 116] ?_
  show gj_Do E om0 (gj_mt 167) [(.ref 81), (.int a1)] SI2 SJ2 _
  refine gj_Do.mono q1 (fun v_ SI4 SJ4 h_ => ?_)
  obtain ⟨r3, rfl, q2⟩ := h_
  show gj_Goes E om0 mt_183 33 [some (.ref 81), some (.int a1), some (.int a2), some (.int a3), some (.long (SI 82 30).toInt64), none, some (.long (SI 82 31).toInt64), none, some (.long (r1).toInt64), none, none, none] [(.int r3)] SI4 SJ4 (QV Q)
  refine gj_goq gj_clT ok_183 [25, 33, 55, 86, 116] ?_
  show (¬ (lg_cmp (SI 82 30).toInt64 (i6 0)) = 0 → gj_Goes E om0 mt_183 56 [some (.ref 81), some (.int a1), some (.int a2), some (.int a3), some (.long (SI 82 30).toInt64), none, some (.long (SI 82 31).toInt64), none, some (.long (r1).toInt64), none, some (.long (r3).toInt64), none] [] SI4 SJ4 (QV Q)) ∧ ((lg_cmp (SI 82 30).toInt64 (i6 0)) = 0 → gj_Do E om0 (gj_mt 182) [(.ref 81), (.int a1), (.int a2), (.long (-(r3).toInt64)), (.long (r1).toInt64), (.int a3)] SI4 SJ4 _)
  refine ⟨fun c3 => ?_, fun c3 => ?_⟩
  · refine gj_goq gj_clT ok_183 [25, 33, 55, 86, 116] ?_
    show gj_Do E om0 (gj_mt 182) [(.ref 81), (.int a1), (.int a2), (.long (((-(SI 82 31).toInt64) * (r3).toInt64) + ((SI 82 30).toInt64 * (r1).toInt64))), (.long (((SI 82 31).toInt64 * (r1).toInt64) + ((SI 82 30).toInt64 * (r3).toInt64))), (.int a3)] SI4 SJ4 _
    refine gj_Do.mono (q2.1 (fun z_ => c3 (lgc_eq.mpr z_))) (fun v_ SI6 SJ6 h_ => ?_)
    obtain ⟨rfl, q4⟩ := h_
    show gj_Goes E om0 mt_183 86 [some (.ref 81), some (.int a1), some (.int a2), some (.int a3), some (.long (SI 82 30).toInt64), none, some (.long (SI 82 31).toInt64), none, some (.long (r1).toInt64), none, some (.long (r3).toInt64), none] [] SI6 SJ6 (QV Q)
    refine gj_goq gj_clT ok_183 [25, 33, 55, 86, 116] ?_
    show gj_Do E om0 (gj_mt 182) [(.ref 81), (.int a1), (.int a2), (.long (((-(SI 82 31).toInt64) * (r3).toInt64) - ((SI 82 30).toInt64 * (r1).toInt64))), (.long (((SI 82 31).toInt64 * (r1).toInt64) - ((SI 82 30).toInt64 * (r3).toInt64))), (.int a3)] SI6 SJ6 _
    refine gj_Do.mono q4 (fun v_ SI8 SJ8 h_ => ?_)
    obtain ⟨rfl, q5⟩ := h_
    show gj_Goes E om0 mt_183 116 [some (.ref 81), some (.int a1), some (.int a2), some (.int a3), some (.long (SI 82 30).toInt64), none, some (.long (SI 82 31).toInt64), none, some (.long (r1).toInt64), none, some (.long (r3).toInt64), none] [] SI8 SJ8 (QV Q)
    refine gj_goq gj_clT ok_183 [25, 33, 55, 86, 116] ?_
    show QV Q none SI8 SJ8
    exact ⟨rfl, q5⟩
  · refine gj_Do.mono (q2.2 (lgc_eq.mp c3)) (fun v_ SI10 SJ10 h_ => ?_)
    obtain ⟨rfl, q6⟩ := h_
    show gj_Goes E om0 mt_183 55 [some (.ref 81), some (.int a1), some (.int a2), some (.int a3), some (.long (SI 82 30).toInt64), none, some (.long (SI 82 31).toInt64), none, some (.long (r1).toInt64), none, some (.long (r3).toInt64), none] [] SI10 SJ10 (QV Q)
    refine gj_goq gj_clT ok_183 [25, 33, 55, 86, 116] ?_
    show QV Q none SI10 SJ10
    exact ⟨rfl, q6⟩
set_option maxRecDepth 20000 in
/-- GraspJudgeModel.lays -/
theorem st_184 {E : gj_E} {Q : gj_I → gj_J → Prop} (SI : gj_I) (SJ : gj_J) (h : GoV E mt_184 7 [some (.ref 81), some (.int (i3 0))] (gj_u2 SI 81 8 (i3 0)) SJ Q) : DoV E 184 [(.ref 81)] SI SJ Q := by
  refine gj_start (M := mt_184) ok_184 (Nat.le_of_ble_eq_true rfl) ?_
  refine gj_goq gj_clT ok_184 [7, 41] ?_
  show gj_Goes E om0 mt_184 7 [some (.ref 81), some (.int (i3 0))] [] (gj_u2 SI 81 8 (i3 0)) SJ (QV Q)
  exact h
set_option maxRecDepth 20000 in
theorem lp_184_7 {E : gj_E} {Q : gj_I → gj_J → Prop} (x1 : Int32) (SI : gj_I) (SJ : gj_J) (h : ((SI 82 17) ≤ x1 → Q SI SJ) ∧ (¬ (SI 82 17) ≤ x1 → vp_in ((i3 18) + x1) 135 ∧ (vp_in ((i3 24) + x1) 135 ∧ (DoV E 183 [(.ref 81), (.int (SI 82 (gj_n ((i3 18) + x1)))), (.int (SI 82 (gj_n ((i3 24) + x1)))), (.int x1)] SI SJ (fun SI2 SJ2 => GoV E mt_184 7 [some (.ref 81), some (.int (x1 + (i3 1)))] SI2 SJ2 Q))))) : GoV E mt_184 7 [some (.ref 81), some (.int x1)] SI SJ Q := by
  refine gj_goq gj_clT ok_184 [7, 41] ?_
  show vp_in (i3 17) 135 ∧ (((SI 82 17) ≤ x1 → gj_Goes E om0 mt_184 47 [some (.ref 81), some (.int x1)] [] SI SJ (QV Q)) ∧ (¬ (SI 82 17) ≤ x1 → vp_in ((i3 18) + x1) 135 ∧ (vp_in ((i3 24) + x1) 135 ∧ (gj_Do E om0 (gj_mt 183) [(.ref 81), (.int (SI 82 (gj_n ((i3 18) + x1)))), (.int (SI 82 (gj_n ((i3 24) + x1)))), (.int x1)] SI SJ _))))
  refine ⟨(gj_vin (by decide)), ?_⟩
  refine ⟨fun c1 => ?_, fun c1 => ?_⟩
  · refine gj_goq gj_clT ok_184 [7, 41] ?_
    show QV Q none SI SJ
    exact ⟨rfl, (h.1 c1)⟩
  · have k2 := (h.2 c1).1
    refine ⟨k2, ?_⟩
    have k3 := (h.2 c1).2.1
    refine ⟨k3, ?_⟩
    refine gj_Do.mono (h.2 c1).2.2 (fun v_ SI2 SJ2 h_ => ?_)
    obtain ⟨rfl, q4⟩ := h_
    show gj_Goes E om0 mt_184 41 [some (.ref 81), some (.int x1)] [] SI2 SJ2 (QV Q)
    refine gj_goq gj_clT ok_184 [7, 41] ?_
    show gj_Goes E om0 mt_184 7 [some (.ref 81), some (.int (x1 + (i3 1)))] [] SI2 SJ2 (QV Q)
    exact q4
set_option maxRecDepth 20000 in
/-- GraspJudgeModel.all -/
theorem st_185 {E : gj_E} {Q : Int32 → gj_I → gj_J → Prop} (SI : gj_I) (SJ : gj_J) (h : Q (((i3 1) <<< ((SI 81 8) &&& 31)) - (i3 1)) SI SJ) : DoI E 185 [(.ref 81)] SI SJ Q := by
  refine gj_start (M := mt_185) ok_185 (Nat.le_of_ble_eq_true rfl) ?_
  refine gj_goq gj_clT ok_185 [] ?_
  show QI Q (some (.int (((i3 1) <<< ((SI 81 8) &&& 31)) - (i3 1)))) SI SJ
  exact ⟨_, rfl, h⟩
set_option maxRecDepth 20000 in
/-- GraspJudgeModel.wrenchesOf -/
theorem st_186 {E : gj_E} {Q : Int32 → gj_I → gj_J → Prop} (a1 : Int32) (SI : gj_I) (SJ : gj_J) (h : GoI E mt_186 4 [some (.ref 81), some (.int a1), some (.int (i3 0)), some (.int (i3 0))] SI SJ Q) : DoI E 186 [(.ref 81), (.int a1)] SI SJ Q := by
  refine gj_start (M := mt_186) ok_186 (Nat.le_of_ble_eq_true rfl) ?_
  refine gj_goq gj_clT ok_186 [4, 22] ?_
  show gj_Goes E om0 mt_186 4 [some (.ref 81), some (.int a1), some (.int (i3 0)), some (.int (i3 0))] [] SI SJ (QI Q)
  exact h
set_option maxRecDepth 20000 in
theorem lp_186_4 {E : gj_E} {Q : Int32 → gj_I → gj_J → Prop} (x1 : Int32) (x2 : Int32) (x3 : Int32) (SI : gj_I) (SJ : gj_J) (h : ((SI 81 8) ≤ x3 → Q x2 SI SJ) ∧ (¬ (SI 81 8) ≤ x3 → vp_in x3 16 ∧ (DoI E 159 [(.int x1), (.int (SI 88 (gj_n x3)))] SI SJ (fun r1 SI2 SJ2 => (r1 = 0 → GoI E mt_186 4 [some (.ref 81), some (.int x1), some (.int x2), some (.int (x3 + (i3 1)))] SI2 SJ2 Q) ∧ (¬ r1 = 0 → GoI E mt_186 4 [some (.ref 81), some (.int x1), some (.int (x2 ||| ((i3 1) <<< (x3 &&& 31)))), some (.int (x3 + (i3 1)))] SI2 SJ2 Q))))) : GoI E mt_186 4 [some (.ref 81), some (.int x1), some (.int x2), some (.int x3)] SI SJ Q := by
  refine gj_goq gj_clT ok_186 [4, 22] ?_
  show ((SI 81 8) ≤ x3 → gj_Goes E om0 mt_186 37 [some (.ref 81), some (.int x1), some (.int x2), some (.int x3)] [] SI SJ (QI Q)) ∧ (¬ (SI 81 8) ≤ x3 → vp_in x3 16 ∧ (gj_Do E om0 (gj_mt 159) [(.int x1), (.int (SI 88 (gj_n x3)))] SI SJ _))
  refine ⟨fun c1 => ?_, fun c1 => ?_⟩
  · refine gj_goq gj_clT ok_186 [4, 22] ?_
    show QI Q (some (.int x2)) SI SJ
    exact ⟨_, rfl, (h.1 c1)⟩
  · have k2 := (h.2 c1).1
    refine ⟨k2, ?_⟩
    refine gj_Do.mono (h.2 c1).2 (fun v_ SI2 SJ2 h_ => ?_)
    obtain ⟨r1, rfl, q3⟩ := h_
    show gj_Goes E om0 mt_186 22 [some (.ref 81), some (.int x1), some (.int x2), some (.int x3)] [(.int r1)] SI2 SJ2 (QI Q)
    refine gj_goq gj_clT ok_186 [4, 22] ?_
    show (r1 = 0 → gj_Goes E om0 mt_186 31 [some (.ref 81), some (.int x1), some (.int x2), some (.int x3)] [] SI2 SJ2 (QI Q)) ∧ (¬ r1 = 0 → gj_Goes E om0 mt_186 4 [some (.ref 81), some (.int x1), some (.int (x2 ||| ((i3 1) <<< (x3 &&& 31)))), some (.int (x3 + (i3 1)))] [] SI2 SJ2 (QI Q))
    refine ⟨fun c4 => ?_, fun c4 => ?_⟩
    · refine gj_goq gj_clT ok_186 [4, 22] ?_
      show gj_Goes E om0 mt_186 4 [some (.ref 81), some (.int x1), some (.int x2), some (.int (x3 + (i3 1)))] [] SI2 SJ2 (QI Q)
      exact (q3.1 c4)
    · exact (q3.2 c4)
set_option maxRecDepth 20000 in
/-- GraspJudgeModel.crosses -/
theorem st_187 {E : gj_E} {Q : gj_I → gj_J → Prop} (a1 : Int32) (a2 : Int32) (SI : gj_I) (SJ : gj_J) (h : vp_in a1 16 ∧ (vp_in a2 16 ∧ (Q SI (gj_w2 (gj_w2 (gj_w2 SJ 81 9 (((SJ 86 (gj_n a1)) * (SJ 87 (gj_n a2))) - ((SJ 87 (gj_n a1)) * (SJ 86 (gj_n a2))))) 81 10 (((SJ 87 (gj_n a1)) * (SJ 85 (gj_n a2))) - ((SJ 85 (gj_n a1)) * (SJ 87 (gj_n a2))))) 81 11 (((SJ 85 (gj_n a1)) * (SJ 86 (gj_n a2))) - ((SJ 86 (gj_n a1)) * (SJ 85 (gj_n a2)))))))) : DoV E 187 [(.ref 81), (.int a1), (.int a2)] SI SJ Q := by
  refine gj_start (M := mt_187) ok_187 (Nat.le_of_ble_eq_true rfl) ?_
  refine gj_goq gj_clT ok_187 [] ?_
  show vp_in a1 16 ∧ (vp_in a2 16 ∧ (vp_in a1 16 ∧ (vp_in a2 16 ∧ (vp_in a1 16 ∧ (vp_in a2 16 ∧ (vp_in a1 16 ∧ (vp_in a2 16 ∧ (vp_in a1 16 ∧ (vp_in a2 16 ∧ (vp_in a1 16 ∧ (vp_in a2 16 ∧ (QV Q none SI (gj_w2 (gj_w2 (gj_w2 SJ 81 9 (((SJ 86 (gj_n a1)) * (SJ 87 (gj_n a2))) - ((SJ 87 (gj_n a1)) * (SJ 86 (gj_n a2))))) 81 10 (((SJ 87 (gj_n a1)) * (SJ 85 (gj_n a2))) - ((SJ 85 (gj_n a1)) * (SJ 87 (gj_n a2))))) 81 11 (((SJ 85 (gj_n a1)) * (SJ 86 (gj_n a2))) - ((SJ 86 (gj_n a1)) * (SJ 85 (gj_n a2)))))))))))))))))
  have k1 := h.1
  refine ⟨k1, ?_⟩
  have k2 := h.2.1
  refine ⟨k2, ?_⟩
  refine ⟨k1, ?_⟩
  refine ⟨k2, ?_⟩
  refine ⟨k1, ?_⟩
  refine ⟨k2, ?_⟩
  refine ⟨k1, ?_⟩
  refine ⟨k2, ?_⟩
  refine ⟨k1, ?_⟩
  refine ⟨k2, ?_⟩
  refine ⟨k1, ?_⟩
  refine ⟨k2, ?_⟩
  exact ⟨rfl, h.2.2⟩
set_option maxRecDepth 20000 in
/-- GraspJudgeModel.isNothing -/
theorem st_188 {E : gj_E} {Q : Int32 → gj_I → gj_J → Prop} (SI : gj_I) (SJ : gj_J) (h : (¬ (SJ 81 9) = (i6 0) → Q (i3 0) SI SJ) ∧ ((SJ 81 9) = (i6 0) → (¬ (SJ 81 10) = (i6 0) → Q (i3 0) SI SJ) ∧ ((SJ 81 10) = (i6 0) → (¬ (SJ 81 11) = (i6 0) → Q (i3 0) SI SJ) ∧ ((SJ 81 11) = (i6 0) → Q (i3 1) SI SJ)))) : DoI E 188 [(.ref 81)] SI SJ Q := by
  refine gj_start (M := mt_188) ok_188 (Nat.le_of_ble_eq_true rfl) ?_
  refine gj_goq gj_clT ok_188 [] ?_
  show (¬ (lg_cmp (SJ 81 9) (i6 0)) = 0 → gj_Goes E om0 mt_188 31 [some (.ref 81)] [] SI SJ (QI Q)) ∧ ((lg_cmp (SJ 81 9) (i6 0)) = 0 → (¬ (lg_cmp (SJ 81 10) (i6 0)) = 0 → gj_Goes E om0 mt_188 31 [some (.ref 81)] [] SI SJ (QI Q)) ∧ ((lg_cmp (SJ 81 10) (i6 0)) = 0 → (¬ (lg_cmp (SJ 81 11) (i6 0)) = 0 → gj_Goes E om0 mt_188 31 [some (.ref 81)] [] SI SJ (QI Q)) ∧ ((lg_cmp (SJ 81 11) (i6 0)) = 0 → gj_Goes E om0 mt_188 32 [some (.ref 81)] [(.int (i3 1))] SI SJ (QI Q))))
  refine ⟨fun c1 => ?_, fun c1 => ?_⟩
  · refine gj_goq gj_clT ok_188 [] ?_
    show ((i3 0) = 0 ∨ (i3 0) = 1) ∧ (QI Q (some (.int (i3 0))) SI SJ)
    refine ⟨(Or.inl rfl), ?_⟩
    exact ⟨_, rfl, (h.1 (fun z_ => c1 (lgc_eq.mpr z_)))⟩
  · refine ⟨fun c2 => ?_, fun c2 => ?_⟩
    · refine gj_goq gj_clT ok_188 [] ?_
      show ((i3 0) = 0 ∨ (i3 0) = 1) ∧ (QI Q (some (.int (i3 0))) SI SJ)
      refine ⟨(Or.inl rfl), ?_⟩
      exact ⟨_, rfl, ((h.2 (lgc_eq.mp c1)).1 (fun z_ => c2 (lgc_eq.mpr z_)))⟩
    · refine ⟨fun c3 => ?_, fun c3 => ?_⟩
      · refine gj_goq gj_clT ok_188 [] ?_
        show ((i3 0) = 0 ∨ (i3 0) = 1) ∧ (QI Q (some (.int (i3 0))) SI SJ)
        refine ⟨(Or.inl rfl), ?_⟩
        exact ⟨_, rfl, (((h.2 (lgc_eq.mp c1)).2 (lgc_eq.mp c2)).1 (fun z_ => c3 (lgc_eq.mpr z_)))⟩
      · refine gj_goq gj_clT ok_188 [] ?_
        show ((i3 1) = 0 ∨ (i3 1) = 1) ∧ (QI Q (some (.int (i3 1))) SI SJ)
        refine ⟨(Or.inr rfl), ?_⟩
        exact ⟨_, rfl, (((h.2 (lgc_eq.mp c1)).2 (lgc_eq.mp c2)).2 (lgc_eq.mp c3))⟩
set_option maxRecDepth 20000 in
/-- GraspJudgeModel.lowers -/
theorem st_189 {E : gj_E} {Q : gj_I → gj_J → Prop} (SI : gj_I) (SJ : gj_J) (h : DoL E 161 [(.long (SJ 81 9)), (.long (SJ 81 10))] SI SJ (fun r1 SI2 SJ2 => DoL E 161 [(.long r1), (.long (SJ2 81 11))] SI2 SJ2 (fun r3 SI4 SJ4 => (¬ r3 = (i6 0) → ¬ r3 = 0 ∧ (Q SI4 (gj_w2 (gj_w2 (gj_w2 SJ4 81 9 ((SJ4 81 9) / r3)) 81 10 ((SJ4 81 10) / r3)) 81 11 ((SJ4 81 11) / r3)))) ∧ (r3 = (i6 0) → Q SI4 SJ4)))) : DoV E 189 [(.ref 81)] SI SJ Q := by
  refine gj_start (M := mt_189) ok_189 (Nat.le_of_ble_eq_true rfl) ?_
  refine gj_goq gj_clT ok_189 [11, 18] ?_
  show gj_Do E om0 (gj_mt 161) [(.long (SJ 81 9)), (.long (SJ 81 10))] SI SJ _
  refine gj_Do.mono h (fun v_ SI2 SJ2 h_ => ?_)
  obtain ⟨r1, rfl, q1⟩ := h_
  show gj_Goes E om0 mt_189 11 [some (.ref 81), none, none] [(.long r1)] SI2 SJ2 (QV Q)
  refine gj_goq gj_clT ok_189 [11, 18] ?_
  show gj_Do E om0 (gj_mt 161) [(.long r1), (.long (SJ2 81 11))] SI2 SJ2 _
  refine gj_Do.mono q1 (fun v_ SI4 SJ4 h_ => ?_)
  obtain ⟨r3, rfl, q2⟩ := h_
  show gj_Goes E om0 mt_189 18 [some (.ref 81), none, none] [(.long r3)] SI4 SJ4 (QV Q)
  refine gj_goq gj_clT ok_189 [11, 18] ?_
  show (¬ (lg_cmp r3 (i6 0)) = 0 → gj_Goes E om0 mt_189 26 [some (.ref 81), some (.long r3), none] [] SI4 SJ4 (QV Q)) ∧ ((lg_cmp r3 (i6 0)) = 0 → QV Q none SI4 SJ4)
  refine ⟨fun c3 => ?_, fun c3 => ?_⟩
  · refine gj_goq gj_clT ok_189 [11, 18] ?_
    show ¬ r3 = 0 ∧ (¬ r3 = 0 ∧ (¬ r3 = 0 ∧ (QV Q none SI4 (gj_w2 (gj_w2 (gj_w2 SJ4 81 9 ((SJ4 81 9) / r3)) 81 10 ((SJ4 81 10) / r3)) 81 11 ((SJ4 81 11) / r3)))))
    have k4 := (q2.1 (fun z_ => c3 (lgc_eq.mpr z_))).1
    refine ⟨k4, ?_⟩
    refine ⟨k4, ?_⟩
    refine ⟨k4, ?_⟩
    exact ⟨rfl, (q2.1 (fun z_ => c3 (lgc_eq.mpr z_))).2⟩
  · exact ⟨rfl, (q2.2 (lgc_eq.mp c3))⟩
set_option maxRecDepth 20000 in
/-- GraspJudgeModel.turnsRow -/
theorem st_190 {E : gj_E} {Q : gj_I → gj_J → Prop} (SI : gj_I) (SJ : gj_J) (h : Q SI (gj_w2 (gj_w2 (gj_w2 SJ 81 9 (-(SJ 81 9))) 81 10 (-(SJ 81 10))) 81 11 (-(SJ 81 11)))) : DoV E 190 [(.ref 81)] SI SJ Q := by
  refine gj_start (M := mt_190) ok_190 (Nat.le_of_ble_eq_true rfl) ?_
  refine gj_goq gj_clT ok_190 [] ?_
  show QV Q none SI (gj_w2 (gj_w2 (gj_w2 SJ 81 9 (-(SJ 81 9))) 81 10 (-(SJ 81 10))) 81 11 (-(SJ 81 11)))
  exact ⟨rfl, h⟩
set_option maxRecDepth 20000 in
/-- GraspJudgeModel.makes -/
theorem st_191 {E : gj_E} {Q : Int64 → gj_I → gj_J → Prop} (a1 : Int32) (SI : gj_I) (SJ : gj_J) (h : vp_in a1 16 ∧ (Q ((((SJ 81 9) * (SJ 85 (gj_n a1))) + ((SJ 81 10) * (SJ 86 (gj_n a1)))) + ((SJ 81 11) * (SJ 87 (gj_n a1)))) SI SJ)) : DoL E 191 [(.ref 81), (.int a1)] SI SJ Q := by
  refine gj_start (M := mt_191) ok_191 (Nat.le_of_ble_eq_true rfl) ?_
  refine gj_goq gj_clT ok_191 [] ?_
  show vp_in a1 16 ∧ (vp_in a1 16 ∧ (vp_in a1 16 ∧ (QL Q (some (.long ((((SJ 81 9) * (SJ 85 (gj_n a1))) + ((SJ 81 10) * (SJ 86 (gj_n a1)))) + ((SJ 81 11) * (SJ 87 (gj_n a1)))))) SI SJ)))
  have k1 := h.1
  refine ⟨k1, ?_⟩
  refine ⟨k1, ?_⟩
  refine ⟨k1, ?_⟩
  exact ⟨_, rfl, h.2⟩
set_option maxRecDepth 20000 in
/-- GraspJudgeModel.makesNoMore -/
theorem st_192 {E : gj_E} {Q : Int32 → gj_I → gj_J → Prop} (a1 : Int32) (SI : gj_I) (SJ : gj_J) (h : GoI E mt_192 2 [some (.ref 81), some (.int a1), some (.int (i3 0))] SI SJ Q) : DoI E 192 [(.ref 81), (.int a1)] SI SJ Q := by
  refine gj_start (M := mt_192) ok_192 (Nat.le_of_ble_eq_true rfl) ?_
  refine gj_goq gj_clT ok_192 [2, 15, 23] ?_
  show gj_Goes E om0 mt_192 2 [some (.ref 81), some (.int a1), some (.int (i3 0))] [] SI SJ (QI Q)
  exact h
set_option maxRecDepth 20000 in
theorem lp_192_2 {E : gj_E} {Q : Int32 → gj_I → gj_J → Prop} (x1 : Int32) (x2 : Int32) (SI : gj_I) (SJ : gj_J) (h : ((SI 81 8) ≤ x2 → Q (i3 1) SI SJ) ∧ (¬ (SI 81 8) ≤ x2 → DoI E 159 [(.int x1), (.int x2)] SI SJ (fun r1 SI2 SJ2 => (r1 = 0 → GoI E mt_192 2 [some (.ref 81), some (.int x1), some (.int (x2 + (i3 1)))] SI2 SJ2 Q) ∧ (¬ r1 = 0 → DoL E 191 [(.ref 81), (.int x2)] SI2 SJ2 (fun r3 SI4 SJ4 => (r3 ≤ (i6 0) → GoI E mt_192 2 [some (.ref 81), some (.int x1), some (.int (x2 + (i3 1)))] SI4 SJ4 Q) ∧ (¬ r3 ≤ (i6 0) → Q (i3 0) SI4 SJ4)))))) : GoI E mt_192 2 [some (.ref 81), some (.int x1), some (.int x2)] SI SJ Q := by
  refine gj_goq gj_clT ok_192 [2, 15, 23] ?_
  show ((SI 81 8) ≤ x2 → gj_Goes E om0 mt_192 36 [some (.ref 81), some (.int x1), some (.int x2)] [] SI SJ (QI Q)) ∧ (¬ (SI 81 8) ≤ x2 → gj_Do E om0 (gj_mt 159) [(.int x1), (.int x2)] SI SJ _)
  refine ⟨fun c1 => ?_, fun c1 => ?_⟩
  · refine gj_goq gj_clT ok_192 [2, 15, 23] ?_
    show ((i3 1) = 0 ∨ (i3 1) = 1) ∧ (QI Q (some (.int (i3 1))) SI SJ)
    refine ⟨(Or.inr rfl), ?_⟩
    exact ⟨_, rfl, (h.1 c1)⟩
  · refine gj_Do.mono (h.2 c1) (fun v_ SI2 SJ2 h_ => ?_)
    obtain ⟨r1, rfl, q2⟩ := h_
    show gj_Goes E om0 mt_192 15 [some (.ref 81), some (.int x1), some (.int x2)] [(.int r1)] SI2 SJ2 (QI Q)
    refine gj_goq gj_clT ok_192 [2, 15, 23] ?_
    show (r1 = 0 → gj_Goes E om0 mt_192 30 [some (.ref 81), some (.int x1), some (.int x2)] [] SI2 SJ2 (QI Q)) ∧ (¬ r1 = 0 → gj_Do E om0 (gj_mt 191) [(.ref 81), (.int x2)] SI2 SJ2 _)
    refine ⟨fun c3 => ?_, fun c3 => ?_⟩
    · refine gj_goq gj_clT ok_192 [2, 15, 23] ?_
      show gj_Goes E om0 mt_192 2 [some (.ref 81), some (.int x1), some (.int (x2 + (i3 1)))] [] SI2 SJ2 (QI Q)
      exact (q2.1 c3)
    · refine gj_Do.mono (q2.2 c3) (fun v_ SI4 SJ4 h_ => ?_)
      obtain ⟨r3, rfl, q4⟩ := h_
      show gj_Goes E om0 mt_192 23 [some (.ref 81), some (.int x1), some (.int x2)] [(.long r3)] SI4 SJ4 (QI Q)
      refine gj_goq gj_clT ok_192 [2, 15, 23] ?_
      show ((lg_cmp r3 (i6 0)) ≤ 0 → gj_Goes E om0 mt_192 30 [some (.ref 81), some (.int x1), some (.int x2)] [] SI4 SJ4 (QI Q)) ∧ (¬ (lg_cmp r3 (i6 0)) ≤ 0 → ((i3 0) = 0 ∨ (i3 0) = 1) ∧ (QI Q (some (.int (i3 0))) SI4 SJ4))
      refine ⟨fun c5 => ?_, fun c5 => ?_⟩
      · refine gj_goq gj_clT ok_192 [2, 15, 23] ?_
        show gj_Goes E om0 mt_192 2 [some (.ref 81), some (.int x1), some (.int (x2 + (i3 1)))] [] SI4 SJ4 (QI Q)
        exact (q4.1 (lgc_le.mp c5))
      · refine ⟨(Or.inl rfl), ?_⟩
        exact ⟨_, rfl, (q4.2 (fun z_ => c5 (lgc_le.mpr z_)))⟩
set_option maxRecDepth 20000 in
/-- GraspJudgeModel.rankOf -/
theorem st_193 {E : gj_E} {Q : Int32 → gj_I → gj_J → Prop} (a1 : Int32) (SI : gj_I) (SJ : gj_J) (h : GoI E mt_193 4 [some (.ref 81), some (.int a1), some (.int (i3 0)), some (.int (i3 0)), none, none] SI SJ Q) : DoI E 193 [(.ref 81), (.int a1)] SI SJ Q := by
  refine gj_start (M := mt_193) ok_193 (Nat.le_of_ble_eq_true rfl) ?_
  refine gj_goq gj_clT ok_193 [4, 17, 28, 34, 49, 62, 66, 77, 81, 96, 105] ?_
  show gj_Goes E om0 mt_193 4 [some (.ref 81), some (.int a1), some (.int (i3 0)), some (.int (i3 0)), none, none] [] SI SJ (QI Q)
  exact h
set_option maxRecDepth 20000 in
theorem lp_193_4 {E : gj_E} {Q : Int32 → gj_I → gj_J → Prop} (x1 : Int32) (x2 : Int32) (x3 : Int32) (SI : gj_I) (SJ : gj_J) (h : ((SI 81 8) ≤ x3 → Q x2 SI SJ) ∧ (¬ (SI 81 8) ≤ x3 → DoI E 159 [(.int x1), (.int x3)] SI SJ (fun r1 SI2 SJ2 => (¬ r1 = 0 → DoI E 157 [(.int x2), (.int (i3 1))] SI2 SJ2 (fun r3 SI4 SJ4 => GoI E mt_193 34 [some (.ref 81), some (.int x1), some (.int r3), some (.int x3), some (.int (x3 + (i3 1))), none] SI4 SJ4 Q)) ∧ (r1 = 0 → GoI E mt_193 4 [some (.ref 81), some (.int x1), some (.int x2), some (.int (x3 + (i3 1))), none, none] SI2 SJ2 Q)))) : GoI E mt_193 4 [some (.ref 81), some (.int x1), some (.int x2), some (.int x3), none, none] SI SJ Q := by
  refine gj_goq gj_clT ok_193 [4, 17, 28, 34, 49, 62, 66, 77, 81, 96, 105] ?_
  show ((SI 81 8) ≤ x3 → gj_Goes E om0 mt_193 130 [some (.ref 81), some (.int x1), some (.int x2), some (.int x3), none, none] [] SI SJ (QI Q)) ∧ (¬ (SI 81 8) ≤ x3 → gj_Do E om0 (gj_mt 159) [(.int x1), (.int x3)] SI SJ _)
  refine ⟨fun c1 => ?_, fun c1 => ?_⟩
  · refine gj_goq gj_clT ok_193 [4, 17, 28, 34, 49, 62, 66, 77, 81, 96, 105] ?_
    show QI Q (some (.int x2)) SI SJ
    exact ⟨_, rfl, (h.1 c1)⟩
  · refine gj_Do.mono (h.2 c1) (fun v_ SI2 SJ2 h_ => ?_)
    obtain ⟨r1, rfl, q2⟩ := h_
    show gj_Goes E om0 mt_193 17 [some (.ref 81), some (.int x1), some (.int x2), some (.int x3), none, none] [(.int r1)] SI2 SJ2 (QI Q)
    refine gj_goq gj_clT ok_193 [4, 17, 28, 34, 49, 62, 66, 77, 81, 96, 105] ?_
    show (¬ r1 = 0 → gj_Goes E om0 mt_193 23 [some (.ref 81), some (.int x1), some (.int x2), some (.int x3), none, none] [] SI2 SJ2 (QI Q)) ∧ (r1 = 0 → gj_Goes E om0 mt_193 124 [some (.ref 81), some (.int x1), some (.int x2), some (.int x3), none, none] [] SI2 SJ2 (QI Q))
    refine ⟨fun c3 => ?_, fun c3 => ?_⟩
    · refine gj_goq gj_clT ok_193 [4, 17, 28, 34, 49, 62, 66, 77, 81, 96, 105] ?_
      show gj_Do E om0 (gj_mt 157) [(.int x2), (.int (i3 1))] SI2 SJ2 _
      refine gj_Do.mono (q2.1 c3) (fun v_ SI4 SJ4 h_ => ?_)
      obtain ⟨r3, rfl, q4⟩ := h_
      show gj_Goes E om0 mt_193 28 [some (.ref 81), some (.int x1), some (.int x2), some (.int x3), none, none] [(.int r3)] SI4 SJ4 (QI Q)
      refine gj_goq gj_clT ok_193 [4, 17, 28, 34, 49, 62, 66, 77, 81, 96, 105] ?_
      show gj_Goes E om0 mt_193 34 [some (.ref 81), some (.int x1), some (.int r3), some (.int x3), some (.int (x3 + (i3 1))), none] [] SI4 SJ4 (QI Q)
      exact q4
    · refine gj_goq gj_clT ok_193 [4, 17, 28, 34, 49, 62, 66, 77, 81, 96, 105] ?_
      show gj_Goes E om0 mt_193 4 [some (.ref 81), some (.int x1), some (.int x2), some (.int (x3 + (i3 1))), none, none] [] SI2 SJ2 (QI Q)
      exact (q2.2 c3)
set_option maxRecDepth 20000 in
theorem lp_193_34 {E : gj_E} {Q : Int32 → gj_I → gj_J → Prop} (x1 : Int32) (x2 : Int32) (x3 : Int32) (x4 : Int32) (SI : gj_I) (SJ : gj_J) (h : ((SI 81 8) ≤ x4 → GoI E mt_193 4 [some (.ref 81), some (.int x1), some (.int x2), some (.int (x3 + (i3 1))), none, none] SI SJ Q) ∧ (¬ (SI 81 8) ≤ x4 → DoI E 159 [(.int x1), (.int x4)] SI SJ (fun r1 SI2 SJ2 => (¬ r1 = 0 → DoV E 187 [(.ref 81), (.int x3), (.int x4)] SI2 SJ2 (fun SI4 SJ4 => DoI E 188 [(.ref 81)] SI4 SJ4 (fun r5 SI6 SJ6 => (r5 = 0 → DoI E 157 [(.int x2), (.int (i3 2))] SI6 SJ6 (fun r7 SI8 SJ8 => GoI E mt_193 81 [some (.ref 81), some (.int x1), some (.int r7), some (.int x3), some (.int x4), some (.int (i3 0))] SI8 SJ8 Q)) ∧ (¬ r5 = 0 → GoI E mt_193 34 [some (.ref 81), some (.int x1), some (.int x2), some (.int x3), some (.int (x4 + (i3 1))), none] SI6 SJ6 Q)))) ∧ (r1 = 0 → GoI E mt_193 34 [some (.ref 81), some (.int x1), some (.int x2), some (.int x3), some (.int (x4 + (i3 1))), none] SI2 SJ2 Q)))) : GoI E mt_193 34 [some (.ref 81), some (.int x1), some (.int x2), some (.int x3), some (.int x4), none] SI SJ Q := by
  refine gj_goq gj_clT ok_193 [4, 17, 28, 34, 49, 62, 66, 77, 81, 96, 105] ?_
  show ((SI 81 8) ≤ x4 → gj_Goes E om0 mt_193 124 [some (.ref 81), some (.int x1), some (.int x2), some (.int x3), some (.int x4), none] [] SI SJ (QI Q)) ∧ (¬ (SI 81 8) ≤ x4 → gj_Do E om0 (gj_mt 159) [(.int x1), (.int x4)] SI SJ _)
  refine ⟨fun c1 => ?_, fun c1 => ?_⟩
  · refine gj_goq gj_clT ok_193 [4, 17, 28, 34, 49, 62, 66, 77, 81, 96, 105] ?_
    show gj_Goes E om0 mt_193 4 [some (.ref 81), some (.int x1), some (.int x2), some (.int (x3 + (i3 1))), some (.int x4), none] [] SI SJ (QI Q)
    exact gj_fh (h.1 c1) (And.intro (Or.inr rfl) (And.intro (Or.inr rfl) (And.intro (Or.inr rfl) (And.intro (Or.inr rfl) (And.intro (Or.inl rfl) (And.intro (Or.inl rfl) trivial))))))
  · refine gj_Do.mono (h.2 c1) (fun v_ SI2 SJ2 h_ => ?_)
    obtain ⟨r1, rfl, q2⟩ := h_
    show gj_Goes E om0 mt_193 49 [some (.ref 81), some (.int x1), some (.int x2), some (.int x3), some (.int x4), none] [(.int r1)] SI2 SJ2 (QI Q)
    refine gj_goq gj_clT ok_193 [4, 17, 28, 34, 49, 62, 66, 77, 81, 96, 105] ?_
    show (¬ r1 = 0 → gj_Goes E om0 mt_193 55 [some (.ref 81), some (.int x1), some (.int x2), some (.int x3), some (.int x4), none] [] SI2 SJ2 (QI Q)) ∧ (r1 = 0 → gj_Goes E om0 mt_193 118 [some (.ref 81), some (.int x1), some (.int x2), some (.int x3), some (.int x4), none] [] SI2 SJ2 (QI Q))
    refine ⟨fun c3 => ?_, fun c3 => ?_⟩
    · refine gj_goq gj_clT ok_193 [4, 17, 28, 34, 49, 62, 66, 77, 81, 96, 105] ?_
      show gj_Do E om0 (gj_mt 187) [(.ref 81), (.int x3), (.int x4)] SI2 SJ2 _
      refine gj_Do.mono (q2.1 c3) (fun v_ SI4 SJ4 h_ => ?_)
      obtain ⟨rfl, q4⟩ := h_
      show gj_Goes E om0 mt_193 62 [some (.ref 81), some (.int x1), some (.int x2), some (.int x3), some (.int x4), none] [] SI4 SJ4 (QI Q)
      refine gj_goq gj_clT ok_193 [4, 17, 28, 34, 49, 62, 66, 77, 81, 96, 105] ?_
      show gj_Do E om0 (gj_mt 188) [(.ref 81)] SI4 SJ4 _
      refine gj_Do.mono q4 (fun v_ SI6 SJ6 h_ => ?_)
      obtain ⟨r5, rfl, q5⟩ := h_
      show gj_Goes E om0 mt_193 66 [some (.ref 81), some (.int x1), some (.int x2), some (.int x3), some (.int x4), none] [(.int r5)] SI6 SJ6 (QI Q)
      refine gj_goq gj_clT ok_193 [4, 17, 28, 34, 49, 62, 66, 77, 81, 96, 105] ?_
      show (r5 = 0 → gj_Goes E om0 mt_193 72 [some (.ref 81), some (.int x1), some (.int x2), some (.int x3), some (.int x4), none] [] SI6 SJ6 (QI Q)) ∧ (¬ r5 = 0 → gj_Goes E om0 mt_193 118 [some (.ref 81), some (.int x1), some (.int x2), some (.int x3), some (.int x4), none] [] SI6 SJ6 (QI Q))
      refine ⟨fun c6 => ?_, fun c6 => ?_⟩
      · refine gj_goq gj_clT ok_193 [4, 17, 28, 34, 49, 62, 66, 77, 81, 96, 105] ?_
        show gj_Do E om0 (gj_mt 157) [(.int x2), (.int (i3 2))] SI6 SJ6 _
        refine gj_Do.mono (q5.1 c6) (fun v_ SI8 SJ8 h_ => ?_)
        obtain ⟨r7, rfl, q7⟩ := h_
        show gj_Goes E om0 mt_193 77 [some (.ref 81), some (.int x1), some (.int x2), some (.int x3), some (.int x4), none] [(.int r7)] SI8 SJ8 (QI Q)
        refine gj_goq gj_clT ok_193 [4, 17, 28, 34, 49, 62, 66, 77, 81, 96, 105] ?_
        show gj_Goes E om0 mt_193 81 [some (.ref 81), some (.int x1), some (.int r7), some (.int x3), some (.int x4), some (.int (i3 0))] [] SI8 SJ8 (QI Q)
        exact q7
      · refine gj_goq gj_clT ok_193 [4, 17, 28, 34, 49, 62, 66, 77, 81, 96, 105] ?_
        show gj_Goes E om0 mt_193 34 [some (.ref 81), some (.int x1), some (.int x2), some (.int x3), some (.int (x4 + (i3 1))), none] [] SI6 SJ6 (QI Q)
        exact (q5.2 c6)
    · refine gj_goq gj_clT ok_193 [4, 17, 28, 34, 49, 62, 66, 77, 81, 96, 105] ?_
      show gj_Goes E om0 mt_193 34 [some (.ref 81), some (.int x1), some (.int x2), some (.int x3), some (.int (x4 + (i3 1))), none] [] SI2 SJ2 (QI Q)
      exact (q2.2 c3)
set_option maxRecDepth 20000 in
theorem lp_193_81 {E : gj_E} {Q : Int32 → gj_I → gj_J → Prop} (x1 : Int32) (x2 : Int32) (x3 : Int32) (x4 : Int32) (x5 : Int32) (SI : gj_I) (SJ : gj_J) (h : ((SI 81 8) ≤ x5 → GoI E mt_193 34 [some (.ref 81), some (.int x1), some (.int x2), some (.int x3), some (.int (x4 + (i3 1))), none] SI SJ Q) ∧ (¬ (SI 81 8) ≤ x5 → DoI E 159 [(.int x1), (.int x5)] SI SJ (fun r1 SI2 SJ2 => (r1 = 0 → GoI E mt_193 81 [some (.ref 81), some (.int x1), some (.int x2), some (.int x3), some (.int x4), some (.int (x5 + (i3 1)))] SI2 SJ2 Q) ∧ (¬ r1 = 0 → DoL E 191 [(.ref 81), (.int x5)] SI2 SJ2 (fun r3 SI4 SJ4 => (r3 = (i6 0) → GoI E mt_193 81 [some (.ref 81), some (.int x1), some (.int x2), some (.int x3), some (.int x4), some (.int (x5 + (i3 1)))] SI4 SJ4 Q) ∧ (¬ r3 = (i6 0) → Q (i3 3) SI4 SJ4)))))) : GoI E mt_193 81 [some (.ref 81), some (.int x1), some (.int x2), some (.int x3), some (.int x4), some (.int x5)] SI SJ Q := by
  refine gj_goq gj_clT ok_193 [4, 17, 28, 34, 49, 62, 66, 77, 81, 96, 105] ?_
  show ((SI 81 8) ≤ x5 → gj_Goes E om0 mt_193 118 [some (.ref 81), some (.int x1), some (.int x2), some (.int x3), some (.int x4), some (.int x5)] [] SI SJ (QI Q)) ∧ (¬ (SI 81 8) ≤ x5 → gj_Do E om0 (gj_mt 159) [(.int x1), (.int x5)] SI SJ _)
  refine ⟨fun c1 => ?_, fun c1 => ?_⟩
  · refine gj_goq gj_clT ok_193 [4, 17, 28, 34, 49, 62, 66, 77, 81, 96, 105] ?_
    show gj_Goes E om0 mt_193 34 [some (.ref 81), some (.int x1), some (.int x2), some (.int x3), some (.int (x4 + (i3 1))), some (.int x5)] [] SI SJ (QI Q)
    exact gj_fh (h.1 c1) (And.intro (Or.inr rfl) (And.intro (Or.inr rfl) (And.intro (Or.inr rfl) (And.intro (Or.inr rfl) (And.intro (Or.inr rfl) (And.intro (Or.inl rfl) trivial))))))
  · refine gj_Do.mono (h.2 c1) (fun v_ SI2 SJ2 h_ => ?_)
    obtain ⟨r1, rfl, q2⟩ := h_
    show gj_Goes E om0 mt_193 96 [some (.ref 81), some (.int x1), some (.int x2), some (.int x3), some (.int x4), some (.int x5)] [(.int r1)] SI2 SJ2 (QI Q)
    refine gj_goq gj_clT ok_193 [4, 17, 28, 34, 49, 62, 66, 77, 81, 96, 105] ?_
    show (r1 = 0 → gj_Goes E om0 mt_193 112 [some (.ref 81), some (.int x1), some (.int x2), some (.int x3), some (.int x4), some (.int x5)] [] SI2 SJ2 (QI Q)) ∧ (¬ r1 = 0 → gj_Do E om0 (gj_mt 191) [(.ref 81), (.int x5)] SI2 SJ2 _)
    refine ⟨fun c3 => ?_, fun c3 => ?_⟩
    · refine gj_goq gj_clT ok_193 [4, 17, 28, 34, 49, 62, 66, 77, 81, 96, 105] ?_
      show gj_Goes E om0 mt_193 81 [some (.ref 81), some (.int x1), some (.int x2), some (.int x3), some (.int x4), some (.int (x5 + (i3 1)))] [] SI2 SJ2 (QI Q)
      exact (q2.1 c3)
    · refine gj_Do.mono (q2.2 c3) (fun v_ SI4 SJ4 h_ => ?_)
      obtain ⟨r3, rfl, q4⟩ := h_
      show gj_Goes E om0 mt_193 105 [some (.ref 81), some (.int x1), some (.int x2), some (.int x3), some (.int x4), some (.int x5)] [(.long r3)] SI4 SJ4 (QI Q)
      refine gj_goq gj_clT ok_193 [4, 17, 28, 34, 49, 62, 66, 77, 81, 96, 105] ?_
      show ((lg_cmp r3 (i6 0)) = 0 → gj_Goes E om0 mt_193 112 [some (.ref 81), some (.int x1), some (.int x2), some (.int x3), some (.int x4), some (.int x5)] [] SI4 SJ4 (QI Q)) ∧ (¬ (lg_cmp r3 (i6 0)) = 0 → QI Q (some (.int (i3 3))) SI4 SJ4)
      refine ⟨fun c5 => ?_, fun c5 => ?_⟩
      · refine gj_goq gj_clT ok_193 [4, 17, 28, 34, 49, 62, 66, 77, 81, 96, 105] ?_
        show gj_Goes E om0 mt_193 81 [some (.ref 81), some (.int x1), some (.int x2), some (.int x3), some (.int x4), some (.int (x5 + (i3 1)))] [] SI4 SJ4 (QI Q)
        exact (q4.1 (lgc_eq.mp c5))
      · exact ⟨_, rfl, (q4.2 (fun z_ => c5 (lgc_eq.mpr z_)))⟩
set_option maxRecDepth 20000 in
/-- GraspJudgeModel.isFirm -/
theorem st_194 {E : gj_E} {Q : Int32 → gj_I → gj_J → Prop} (a1 : Int32) (SI : gj_I) (SJ : gj_J) (h : DoI E 193 [(.ref 81), (.int a1)] SI SJ (fun r1 SI2 SJ2 => ((i3 3) ≤ r1 → GoI E mt_194 13 [some (.ref 81), some (.int a1), some (.int (i3 0)), none] SI2 SJ2 Q) ∧ (¬ (i3 3) ≤ r1 → Q (i3 0) SI2 SJ2))) : DoI E 194 [(.ref 81), (.int a1)] SI SJ Q := by
  refine gj_start (M := mt_194) ok_194 (Nat.le_of_ble_eq_true rfl) ?_
  refine gj_goq gj_clT ok_194 [5, 13, 25, 38, 46, 58, 62, 73, 82, 87] ?_
  show gj_Do E om0 (gj_mt 193) [(.ref 81), (.int a1)] SI SJ _
  refine gj_Do.mono h (fun v_ SI2 SJ2 h_ => ?_)
  obtain ⟨r1, rfl, q1⟩ := h_
  show gj_Goes E om0 mt_194 5 [some (.ref 81), some (.int a1), none, none] [(.int r1)] SI2 SJ2 (QI Q)
  refine gj_goq gj_clT ok_194 [5, 13, 25, 38, 46, 58, 62, 73, 82, 87] ?_
  show ((i3 3) ≤ r1 → gj_Goes E om0 mt_194 11 [some (.ref 81), some (.int a1), none, none] [] SI2 SJ2 (QI Q)) ∧ (¬ (i3 3) ≤ r1 → ((i3 0) = 0 ∨ (i3 0) = 1) ∧ (QI Q (some (.int (i3 0))) SI2 SJ2))
  refine ⟨fun c2 => ?_, fun c2 => ?_⟩
  · refine gj_goq gj_clT ok_194 [5, 13, 25, 38, 46, 58, 62, 73, 82, 87] ?_
    show gj_Goes E om0 mt_194 13 [some (.ref 81), some (.int a1), some (.int (i3 0)), none] [] SI2 SJ2 (QI Q)
    exact (q1.1 c2)
  · refine ⟨(Or.inl rfl), ?_⟩
    exact ⟨_, rfl, (q1.2 c2)⟩
set_option maxRecDepth 20000 in
theorem lp_194_13 {E : gj_E} {Q : Int32 → gj_I → gj_J → Prop} (x1 : Int32) (x2 : Int32) (SI : gj_I) (SJ : gj_J) (h : ((SI 81 8) ≤ x2 → Q (i3 1) SI SJ) ∧ (¬ (SI 81 8) ≤ x2 → GoI E mt_194 25 [some (.ref 81), some (.int x1), some (.int x2), some (.int (x2 + (i3 1)))] SI SJ Q)) : GoI E mt_194 13 [some (.ref 81), some (.int x1), some (.int x2), none] SI SJ Q := by
  refine gj_goq gj_clT ok_194 [5, 13, 25, 38, 46, 58, 62, 73, 82, 87] ?_
  show ((SI 81 8) ≤ x2 → gj_Goes E om0 mt_194 104 [some (.ref 81), some (.int x1), some (.int x2), none] [] SI SJ (QI Q)) ∧ (¬ (SI 81 8) ≤ x2 → gj_Goes E om0 mt_194 25 [some (.ref 81), some (.int x1), some (.int x2), some (.int (x2 + (i3 1)))] [] SI SJ (QI Q))
  refine ⟨fun c1 => ?_, fun c1 => ?_⟩
  · refine gj_goq gj_clT ok_194 [5, 13, 25, 38, 46, 58, 62, 73, 82, 87] ?_
    show ((i3 1) = 0 ∨ (i3 1) = 1) ∧ (QI Q (some (.int (i3 1))) SI SJ)
    refine ⟨(Or.inr rfl), ?_⟩
    exact ⟨_, rfl, (h.1 c1)⟩
  · exact (h.2 c1)
set_option maxRecDepth 20000 in
theorem lp_194_25 {E : gj_E} {Q : Int32 → gj_I → gj_J → Prop} (x1 : Int32) (x2 : Int32) (x3 : Int32) (SI : gj_I) (SJ : gj_J) (h : ((SI 81 8) ≤ x3 → GoI E mt_194 13 [some (.ref 81), some (.int x1), some (.int (x2 + (i3 1))), none] SI SJ Q) ∧ (¬ (SI 81 8) ≤ x3 → DoI E 159 [(.int x1), (.int x2)] SI SJ (fun r1 SI2 SJ2 => (r1 = 0 → GoI E mt_194 25 [some (.ref 81), some (.int x1), some (.int x2), some (.int (x3 + (i3 1)))] SI2 SJ2 Q) ∧ (¬ r1 = 0 → DoI E 159 [(.int x1), (.int x3)] SI2 SJ2 (fun r3 SI4 SJ4 => (¬ r3 = 0 → DoV E 187 [(.ref 81), (.int x2), (.int x3)] SI4 SJ4 (fun SI6 SJ6 => DoI E 188 [(.ref 81)] SI6 SJ6 (fun r7 SI8 SJ8 => (r7 = 0 → DoI E 192 [(.ref 81), (.int x1)] SI8 SJ8 (fun r9 SI10 SJ10 => (r9 = 0 → DoV E 190 [(.ref 81)] SI10 SJ10 (fun SI12 SJ12 => DoI E 192 [(.ref 81), (.int x1)] SI12 SJ12 (fun r13 SI14 SJ14 => (r13 = 0 → GoI E mt_194 25 [some (.ref 81), some (.int x1), some (.int x2), some (.int (x3 + (i3 1)))] SI14 SJ14 Q) ∧ (¬ r13 = 0 → Q (i3 0) SI14 SJ14)))) ∧ (¬ r9 = 0 → Q (i3 0) SI10 SJ10))) ∧ (¬ r7 = 0 → GoI E mt_194 25 [some (.ref 81), some (.int x1), some (.int x2), some (.int (x3 + (i3 1)))] SI8 SJ8 Q)))) ∧ (r3 = 0 → GoI E mt_194 25 [some (.ref 81), some (.int x1), some (.int x2), some (.int (x3 + (i3 1)))] SI4 SJ4 Q)))))) : GoI E mt_194 25 [some (.ref 81), some (.int x1), some (.int x2), some (.int x3)] SI SJ Q := by
  refine gj_goq gj_clT ok_194 [5, 13, 25, 38, 46, 58, 62, 73, 82, 87] ?_
  show ((SI 81 8) ≤ x3 → gj_Goes E om0 mt_194 98 [some (.ref 81), some (.int x1), some (.int x2), some (.int x3)] [] SI SJ (QI Q)) ∧ (¬ (SI 81 8) ≤ x3 → gj_Do E om0 (gj_mt 159) [(.int x1), (.int x2)] SI SJ _)
  refine ⟨fun c1 => ?_, fun c1 => ?_⟩
  · refine gj_goq gj_clT ok_194 [5, 13, 25, 38, 46, 58, 62, 73, 82, 87] ?_
    show gj_Goes E om0 mt_194 13 [some (.ref 81), some (.int x1), some (.int (x2 + (i3 1))), some (.int x3)] [] SI SJ (QI Q)
    exact gj_fh (h.1 c1) (And.intro (Or.inr rfl) (And.intro (Or.inr rfl) (And.intro (Or.inr rfl) (And.intro (Or.inl rfl) trivial))))
  · refine gj_Do.mono (h.2 c1) (fun v_ SI2 SJ2 h_ => ?_)
    obtain ⟨r1, rfl, q2⟩ := h_
    show gj_Goes E om0 mt_194 38 [some (.ref 81), some (.int x1), some (.int x2), some (.int x3)] [(.int r1)] SI2 SJ2 (QI Q)
    refine gj_goq gj_clT ok_194 [5, 13, 25, 38, 46, 58, 62, 73, 82, 87] ?_
    show (r1 = 0 → gj_Goes E om0 mt_194 92 [some (.ref 81), some (.int x1), some (.int x2), some (.int x3)] [] SI2 SJ2 (QI Q)) ∧ (¬ r1 = 0 → gj_Do E om0 (gj_mt 159) [(.int x1), (.int x3)] SI2 SJ2 _)
    refine ⟨fun c3 => ?_, fun c3 => ?_⟩
    · refine gj_goq gj_clT ok_194 [5, 13, 25, 38, 46, 58, 62, 73, 82, 87] ?_
      show gj_Goes E om0 mt_194 25 [some (.ref 81), some (.int x1), some (.int x2), some (.int (x3 + (i3 1)))] [] SI2 SJ2 (QI Q)
      exact (q2.1 c3)
    · refine gj_Do.mono (q2.2 c3) (fun v_ SI4 SJ4 h_ => ?_)
      obtain ⟨r3, rfl, q4⟩ := h_
      show gj_Goes E om0 mt_194 46 [some (.ref 81), some (.int x1), some (.int x2), some (.int x3)] [(.int r3)] SI4 SJ4 (QI Q)
      refine gj_goq gj_clT ok_194 [5, 13, 25, 38, 46, 58, 62, 73, 82, 87] ?_
      show (¬ r3 = 0 → gj_Goes E om0 mt_194 52 [some (.ref 81), some (.int x1), some (.int x2), some (.int x3)] [] SI4 SJ4 (QI Q)) ∧ (r3 = 0 → gj_Goes E om0 mt_194 92 [some (.ref 81), some (.int x1), some (.int x2), some (.int x3)] [] SI4 SJ4 (QI Q))
      refine ⟨fun c5 => ?_, fun c5 => ?_⟩
      · refine gj_goq gj_clT ok_194 [5, 13, 25, 38, 46, 58, 62, 73, 82, 87] ?_
        show gj_Do E om0 (gj_mt 187) [(.ref 81), (.int x2), (.int x3)] SI4 SJ4 _
        refine gj_Do.mono (q4.1 c5) (fun v_ SI6 SJ6 h_ => ?_)
        obtain ⟨rfl, q6⟩ := h_
        show gj_Goes E om0 mt_194 58 [some (.ref 81), some (.int x1), some (.int x2), some (.int x3)] [] SI6 SJ6 (QI Q)
        refine gj_goq gj_clT ok_194 [5, 13, 25, 38, 46, 58, 62, 73, 82, 87] ?_
        show gj_Do E om0 (gj_mt 188) [(.ref 81)] SI6 SJ6 _
        refine gj_Do.mono q6 (fun v_ SI8 SJ8 h_ => ?_)
        obtain ⟨r7, rfl, q7⟩ := h_
        show gj_Goes E om0 mt_194 62 [some (.ref 81), some (.int x1), some (.int x2), some (.int x3)] [(.int r7)] SI8 SJ8 (QI Q)
        refine gj_goq gj_clT ok_194 [5, 13, 25, 38, 46, 58, 62, 73, 82, 87] ?_
        show (r7 = 0 → gj_Goes E om0 mt_194 68 [some (.ref 81), some (.int x1), some (.int x2), some (.int x3)] [] SI8 SJ8 (QI Q)) ∧ (¬ r7 = 0 → gj_Goes E om0 mt_194 92 [some (.ref 81), some (.int x1), some (.int x2), some (.int x3)] [] SI8 SJ8 (QI Q))
        refine ⟨fun c8 => ?_, fun c8 => ?_⟩
        · refine gj_goq gj_clT ok_194 [5, 13, 25, 38, 46, 58, 62, 73, 82, 87] ?_
          show gj_Do E om0 (gj_mt 192) [(.ref 81), (.int x1)] SI8 SJ8 _
          refine gj_Do.mono (q7.1 c8) (fun v_ SI10 SJ10 h_ => ?_)
          obtain ⟨r9, rfl, q9⟩ := h_
          show gj_Goes E om0 mt_194 73 [some (.ref 81), some (.int x1), some (.int x2), some (.int x3)] [(.int r9)] SI10 SJ10 (QI Q)
          refine gj_goq gj_clT ok_194 [5, 13, 25, 38, 46, 58, 62, 73, 82, 87] ?_
          show (r9 = 0 → gj_Goes E om0 mt_194 78 [some (.ref 81), some (.int x1), some (.int x2), some (.int x3)] [] SI10 SJ10 (QI Q)) ∧ (¬ r9 = 0 → ((i3 0) = 0 ∨ (i3 0) = 1) ∧ (QI Q (some (.int (i3 0))) SI10 SJ10))
          refine ⟨fun c10 => ?_, fun c10 => ?_⟩
          · refine gj_goq gj_clT ok_194 [5, 13, 25, 38, 46, 58, 62, 73, 82, 87] ?_
            show gj_Do E om0 (gj_mt 190) [(.ref 81)] SI10 SJ10 _
            refine gj_Do.mono (q9.1 c10) (fun v_ SI12 SJ12 h_ => ?_)
            obtain ⟨rfl, q11⟩ := h_
            show gj_Goes E om0 mt_194 82 [some (.ref 81), some (.int x1), some (.int x2), some (.int x3)] [] SI12 SJ12 (QI Q)
            refine gj_goq gj_clT ok_194 [5, 13, 25, 38, 46, 58, 62, 73, 82, 87] ?_
            show gj_Do E om0 (gj_mt 192) [(.ref 81), (.int x1)] SI12 SJ12 _
            refine gj_Do.mono q11 (fun v_ SI14 SJ14 h_ => ?_)
            obtain ⟨r13, rfl, q12⟩ := h_
            show gj_Goes E om0 mt_194 87 [some (.ref 81), some (.int x1), some (.int x2), some (.int x3)] [(.int r13)] SI14 SJ14 (QI Q)
            refine gj_goq gj_clT ok_194 [5, 13, 25, 38, 46, 58, 62, 73, 82, 87] ?_
            show (r13 = 0 → gj_Goes E om0 mt_194 92 [some (.ref 81), some (.int x1), some (.int x2), some (.int x3)] [] SI14 SJ14 (QI Q)) ∧ (¬ r13 = 0 → ((i3 0) = 0 ∨ (i3 0) = 1) ∧ (QI Q (some (.int (i3 0))) SI14 SJ14))
            refine ⟨fun c13 => ?_, fun c13 => ?_⟩
            · refine gj_goq gj_clT ok_194 [5, 13, 25, 38, 46, 58, 62, 73, 82, 87] ?_
              show gj_Goes E om0 mt_194 25 [some (.ref 81), some (.int x1), some (.int x2), some (.int (x3 + (i3 1)))] [] SI14 SJ14 (QI Q)
              exact (q12.1 c13)
            · refine ⟨(Or.inl rfl), ?_⟩
              exact ⟨_, rfl, (q12.2 c13)⟩
          · refine ⟨(Or.inl rfl), ?_⟩
            exact ⟨_, rfl, (q9.2 c10)⟩
        · refine gj_goq gj_clT ok_194 [5, 13, 25, 38, 46, 58, 62, 73, 82, 87] ?_
          show gj_Goes E om0 mt_194 25 [some (.ref 81), some (.int x1), some (.int x2), some (.int (x3 + (i3 1)))] [] SI8 SJ8 (QI Q)
          exact (q7.2 c8)
      · refine gj_goq gj_clT ok_194 [5, 13, 25, 38, 46, 58, 62, 73, 82, 87] ?_
        show gj_Goes E om0 mt_194 25 [some (.ref 81), some (.int x1), some (.int x2), some (.int (x3 + (i3 1)))] [] SI4 SJ4 (QI Q)
        exact (q4.2 c5)
set_option maxRecDepth 20000 in
/-- GraspJudgeModel.isFirmNow -/
theorem st_195 {E : gj_E} {Q : Int32 → gj_I → gj_J → Prop} (SI : gj_I) (SJ : gj_J) (h : DoV E 184 [(.ref 81)] SI SJ (fun SI2 SJ2 => DoI E 185 [(.ref 81)] SI2 SJ2 (fun r3 SI4 SJ4 => DoI E 194 [(.ref 81), (.int r3)] SI4 SJ4 (fun r5 SI6 SJ6 => (r5 = 0 ∨ r5 = 1) ∧ (Q r5 SI6 SJ6))))) : DoI E 195 [(.ref 81)] SI SJ Q := by
  refine gj_start (M := mt_195) ok_195 (Nat.le_of_ble_eq_true rfl) ?_
  refine gj_goq gj_clT ok_195 [4, 9, 12] ?_
  show gj_Do E om0 (gj_mt 184) [(.ref 81)] SI SJ _
  refine gj_Do.mono h (fun v_ SI2 SJ2 h_ => ?_)
  obtain ⟨rfl, q1⟩ := h_
  show gj_Goes E om0 mt_195 4 [some (.ref 81)] [] SI2 SJ2 (QI Q)
  refine gj_goq gj_clT ok_195 [4, 9, 12] ?_
  show gj_Do E om0 (gj_mt 185) [(.ref 81)] SI2 SJ2 _
  refine gj_Do.mono q1 (fun v_ SI4 SJ4 h_ => ?_)
  obtain ⟨r3, rfl, q2⟩ := h_
  show gj_Goes E om0 mt_195 9 [some (.ref 81)] [(.int r3), (.ref 81)] SI4 SJ4 (QI Q)
  refine gj_goq gj_clT ok_195 [4, 9, 12] ?_
  show gj_Do E om0 (gj_mt 194) [(.ref 81), (.int r3)] SI4 SJ4 _
  refine gj_Do.mono q2 (fun v_ SI6 SJ6 h_ => ?_)
  obtain ⟨r5, rfl, q3⟩ := h_
  show gj_Goes E om0 mt_195 12 [some (.ref 81)] [(.int r5)] SI6 SJ6 (QI Q)
  refine gj_goq gj_clT ok_195 [4, 9, 12] ?_
  show (r5 = 0 ∨ r5 = 1) ∧ (QI Q (some (.int r5)) SI6 SJ6)
  have k4 := q3.1
  refine ⟨k4, ?_⟩
  exact ⟨_, rfl, q3.2⟩
set_option maxRecDepth 20000 in
/-- GraspJudgeModel.noted -/
theorem st_196 {E : gj_E} {Q : Int32 → gj_I → gj_J → Prop} (a1 : Int32) (a2 : Int32) (SI : gj_I) (SJ : gj_J) (h : (¬ (SI 82 35) = (i3 20) → vp_in ((i3 36) + ((i3 4) * (SI 82 35))) 135 ∧ (vp_in (((i3 36) + ((i3 4) * (SI 82 35))) + (i3 1)) 135 ∧ (DoI E 195 [(.ref 81)] (gj_u2 (gj_u2 SI 82 (gj_n ((i3 36) + ((i3 4) * (SI 82 35)))) a1) 82 (gj_n (((i3 36) + ((i3 4) * (SI 82 35))) + (i3 1))) ((gj_u2 SI 82 (gj_n ((i3 36) + ((i3 4) * (SI 82 35)))) a1) 82 17)) SJ (fun r1 SI2 SJ2 => (r1 = 0 → vp_in (((i3 36) + ((i3 4) * (SI 82 35))) + (i3 2)) 135 ∧ (DoI E 185 [(.ref 81)] (gj_u2 SI2 82 (gj_n (((i3 36) + ((i3 4) * (SI 82 35))) + (i3 2))) (i3 0)) SJ2 (fun r3 SI4 SJ4 => DoI E 193 [(.ref 81), (.int r3)] SI4 SJ4 (fun r5 SI6 SJ6 => vp_in (((i3 36) + ((i3 4) * (SI 82 35))) + (i3 3)) 135 ∧ (Q a2 (gj_u2 (gj_u2 SI6 82 (gj_n (((i3 36) + ((i3 4) * (SI 82 35))) + (i3 3))) r5) 82 35 (((gj_u2 SI6 82 (gj_n (((i3 36) + ((i3 4) * (SI 82 35))) + (i3 3))) r5) 82 35) + (i3 1))) SJ6))))) ∧ (¬ r1 = 0 → vp_in (((i3 36) + ((i3 4) * (SI 82 35))) + (i3 2)) 135 ∧ (DoI E 185 [(.ref 81)] (gj_u2 SI2 82 (gj_n (((i3 36) + ((i3 4) * (SI 82 35))) + (i3 2))) (i3 1)) SJ2 (fun r7 SI8 SJ8 => DoI E 193 [(.ref 81), (.int r7)] SI8 SJ8 (fun r9 SI10 SJ10 => vp_in (((i3 36) + ((i3 4) * (SI 82 35))) + (i3 3)) 135 ∧ (Q a2 (gj_u2 (gj_u2 SI10 82 (gj_n (((i3 36) + ((i3 4) * (SI 82 35))) + (i3 3))) r9) 82 35 (((gj_u2 SI10 82 (gj_n (((i3 36) + ((i3 4) * (SI 82 35))) + (i3 3))) r9) 82 35) + (i3 1))) SJ10))))))))) ∧ ((SI 82 35) = (i3 20) → GoI E mt_196 14 [some (.ref 81), some (.int a1), some (.int a2), some (.int (i3 0))] SI SJ Q)) : DoI E 196 [(.ref 81), (.int a1), (.int a2)] SI SJ Q := by
  refine gj_start (M := mt_196) ok_196 (Nat.le_of_ble_eq_true rfl) ?_
  refine gj_goq gj_clT ok_196 [14, 99, 120, 123] ?_
  show vp_in (i3 35) 135 ∧ ((¬ (SI 82 35) = (i3 20) → gj_Goes E om0 mt_196 53 [some (.ref 81), some (.int a1), some (.int a2), none] [] SI SJ (QI Q)) ∧ ((SI 82 35) = (i3 20) → gj_Goes E om0 mt_196 14 [some (.ref 81), some (.int a1), some (.int a2), some (.int (i3 0))] [] SI SJ (QI Q)))
  refine ⟨(gj_vin (by decide)), ?_⟩
  refine ⟨fun c1 => ?_, fun c1 => ?_⟩
  · refine gj_goq gj_clT ok_196 [14, 99, 120, 123] ?_
    show vp_in (i3 35) 135 ∧ (vp_in ((i3 36) + ((i3 4) * (SI 82 35))) 135 ∧ (vp_in (i3 17) 135 ∧ (vp_in (((i3 36) + ((i3 4) * (SI 82 35))) + (i3 1)) 135 ∧ (gj_Do E om0 (gj_mt 195) [(.ref 81)] (gj_u2 (gj_u2 SI 82 (gj_n ((i3 36) + ((i3 4) * (SI 82 35)))) a1) 82 (gj_n (((i3 36) + ((i3 4) * (SI 82 35))) + (i3 1))) ((gj_u2 SI 82 (gj_n ((i3 36) + ((i3 4) * (SI 82 35)))) a1) 82 17)) SJ _))))
    refine ⟨(gj_vin (by decide)), ?_⟩
    have k2 := (h.1 c1).1
    refine ⟨k2, ?_⟩
    refine ⟨(gj_vin (by decide)), ?_⟩
    have k3 := (h.1 c1).2.1
    refine ⟨k3, ?_⟩
    refine gj_Do.mono (h.1 c1).2.2 (fun v_ SI2 SJ2 h_ => ?_)
    obtain ⟨r1, rfl, q4⟩ := h_
    show gj_Goes E om0 mt_196 99 [some (.ref 81), some (.int a1), some (.int a2), some (.int ((i3 36) + ((i3 4) * (SI 82 35))))] [(.int r1), (.int (((i3 36) + ((i3 4) * (SI 82 35))) + (i3 2))), (.ref 82)] SI2 SJ2 (QI Q)
    refine gj_goq gj_clT ok_196 [14, 99, 120, 123] ?_
    show (r1 = 0 → gj_Goes E om0 mt_196 106 [some (.ref 81), some (.int a1), some (.int a2), some (.int ((i3 36) + ((i3 4) * (SI 82 35))))] [(.int (((i3 36) + ((i3 4) * (SI 82 35))) + (i3 2))), (.ref 82)] SI2 SJ2 (QI Q)) ∧ (¬ r1 = 0 → gj_Goes E om0 mt_196 107 [some (.ref 81), some (.int a1), some (.int a2), some (.int ((i3 36) + ((i3 4) * (SI 82 35))))] [(.int (i3 1)), (.int (((i3 36) + ((i3 4) * (SI 82 35))) + (i3 2))), (.ref 82)] SI2 SJ2 (QI Q))
    refine ⟨fun c5 => ?_, fun c5 => ?_⟩
    · refine gj_goq gj_clT ok_196 [14, 99, 120, 123] ?_
      show vp_in (((i3 36) + ((i3 4) * (SI 82 35))) + (i3 2)) 135 ∧ (gj_Do E om0 (gj_mt 185) [(.ref 81)] (gj_u2 SI2 82 (gj_n (((i3 36) + ((i3 4) * (SI 82 35))) + (i3 2))) (i3 0)) SJ2 _)
      have k6 := (q4.1 c5).1
      refine ⟨k6, ?_⟩
      refine gj_Do.mono (q4.1 c5).2 (fun v_ SI4 SJ4 h_ => ?_)
      obtain ⟨r3, rfl, q7⟩ := h_
      show gj_Goes E om0 mt_196 120 [some (.ref 81), some (.int a1), some (.int a2), some (.int ((i3 36) + ((i3 4) * (SI 82 35))))] [(.int r3), (.ref 81), (.int (((i3 36) + ((i3 4) * (SI 82 35))) + (i3 3))), (.ref 82)] SI4 SJ4 (QI Q)
      refine gj_goq gj_clT ok_196 [14, 99, 120, 123] ?_
      show gj_Do E om0 (gj_mt 193) [(.ref 81), (.int r3)] SI4 SJ4 _
      refine gj_Do.mono q7 (fun v_ SI6 SJ6 h_ => ?_)
      obtain ⟨r5, rfl, q8⟩ := h_
      show gj_Goes E om0 mt_196 123 [some (.ref 81), some (.int a1), some (.int a2), some (.int ((i3 36) + ((i3 4) * (SI 82 35))))] [(.int r5), (.int (((i3 36) + ((i3 4) * (SI 82 35))) + (i3 3))), (.ref 82)] SI6 SJ6 (QI Q)
      refine gj_goq gj_clT ok_196 [14, 99, 120, 123] ?_
      show vp_in (((i3 36) + ((i3 4) * (SI 82 35))) + (i3 3)) 135 ∧ (vp_in (i3 35) 135 ∧ (vp_in (i3 35) 135 ∧ (QI Q (some (.int a2)) (gj_u2 (gj_u2 SI6 82 (gj_n (((i3 36) + ((i3 4) * (SI 82 35))) + (i3 3))) r5) 82 35 (((gj_u2 SI6 82 (gj_n (((i3 36) + ((i3 4) * (SI 82 35))) + (i3 3))) r5) 82 35) + (i3 1))) SJ6)))
      have k9 := q8.1
      refine ⟨k9, ?_⟩
      refine ⟨(gj_vin (by decide)), ?_⟩
      refine ⟨(gj_vin (by decide)), ?_⟩
      exact ⟨_, rfl, q8.2⟩
    · refine gj_goq gj_clT ok_196 [14, 99, 120, 123] ?_
      show vp_in (((i3 36) + ((i3 4) * (SI 82 35))) + (i3 2)) 135 ∧ (gj_Do E om0 (gj_mt 185) [(.ref 81)] (gj_u2 SI2 82 (gj_n (((i3 36) + ((i3 4) * (SI 82 35))) + (i3 2))) (i3 1)) SJ2 _)
      have k10 := (q4.2 c5).1
      refine ⟨k10, ?_⟩
      refine gj_Do.mono (q4.2 c5).2 (fun v_ SI8 SJ8 h_ => ?_)
      obtain ⟨r7, rfl, q11⟩ := h_
      show gj_Goes E om0 mt_196 120 [some (.ref 81), some (.int a1), some (.int a2), some (.int ((i3 36) + ((i3 4) * (SI 82 35))))] [(.int r7), (.ref 81), (.int (((i3 36) + ((i3 4) * (SI 82 35))) + (i3 3))), (.ref 82)] SI8 SJ8 (QI Q)
      refine gj_goq gj_clT ok_196 [14, 99, 120, 123] ?_
      show gj_Do E om0 (gj_mt 193) [(.ref 81), (.int r7)] SI8 SJ8 _
      refine gj_Do.mono q11 (fun v_ SI10 SJ10 h_ => ?_)
      obtain ⟨r9, rfl, q12⟩ := h_
      show gj_Goes E om0 mt_196 123 [some (.ref 81), some (.int a1), some (.int a2), some (.int ((i3 36) + ((i3 4) * (SI 82 35))))] [(.int r9), (.int (((i3 36) + ((i3 4) * (SI 82 35))) + (i3 3))), (.ref 82)] SI10 SJ10 (QI Q)
      refine gj_goq gj_clT ok_196 [14, 99, 120, 123] ?_
      show vp_in (((i3 36) + ((i3 4) * (SI 82 35))) + (i3 3)) 135 ∧ (vp_in (i3 35) 135 ∧ (vp_in (i3 35) 135 ∧ (QI Q (some (.int a2)) (gj_u2 (gj_u2 SI10 82 (gj_n (((i3 36) + ((i3 4) * (SI 82 35))) + (i3 3))) r9) 82 35 (((gj_u2 SI10 82 (gj_n (((i3 36) + ((i3 4) * (SI 82 35))) + (i3 3))) r9) 82 35) + (i3 1))) SJ10)))
      have k13 := q12.1
      refine ⟨k13, ?_⟩
      refine ⟨(gj_vin (by decide)), ?_⟩
      refine ⟨(gj_vin (by decide)), ?_⟩
      exact ⟨_, rfl, q12.2⟩
  · exact (h.2 c1)
set_option maxRecDepth 20000 in
theorem lp_196_14 {E : gj_E} {Q : Int32 → gj_I → gj_J → Prop} (x1 : Int32) (x2 : Int32) (x3 : Int32) (SI : gj_I) (SJ : gj_J) (h : ((i3 76) ≤ x3 → vp_in ((i3 36) + ((i3 4) * (i3 19))) 135 ∧ (vp_in (((i3 36) + ((i3 4) * (i3 19))) + (i3 1)) 135 ∧ (DoI E 195 [(.ref 81)] (gj_u2 (gj_u2 (gj_u2 SI 82 35 (i3 19)) 82 (gj_n ((i3 36) + ((i3 4) * (i3 19)))) x1) 82 (gj_n (((i3 36) + ((i3 4) * (i3 19))) + (i3 1))) ((gj_u2 (gj_u2 SI 82 35 (i3 19)) 82 (gj_n ((i3 36) + ((i3 4) * (i3 19)))) x1) 82 17)) SJ (fun r1 SI2 SJ2 => (r1 = 0 → vp_in (((i3 36) + ((i3 4) * (i3 19))) + (i3 2)) 135 ∧ (DoI E 185 [(.ref 81)] (gj_u2 SI2 82 (gj_n (((i3 36) + ((i3 4) * (i3 19))) + (i3 2))) (i3 0)) SJ2 (fun r3 SI4 SJ4 => DoI E 193 [(.ref 81), (.int r3)] SI4 SJ4 (fun r5 SI6 SJ6 => vp_in (((i3 36) + ((i3 4) * (i3 19))) + (i3 3)) 135 ∧ (Q x2 (gj_u2 (gj_u2 SI6 82 (gj_n (((i3 36) + ((i3 4) * (i3 19))) + (i3 3))) r5) 82 35 (((gj_u2 SI6 82 (gj_n (((i3 36) + ((i3 4) * (i3 19))) + (i3 3))) r5) 82 35) + (i3 1))) SJ6))))) ∧ (¬ r1 = 0 → vp_in (((i3 36) + ((i3 4) * (i3 19))) + (i3 2)) 135 ∧ (DoI E 185 [(.ref 81)] (gj_u2 SI2 82 (gj_n (((i3 36) + ((i3 4) * (i3 19))) + (i3 2))) (i3 1)) SJ2 (fun r7 SI8 SJ8 => DoI E 193 [(.ref 81), (.int r7)] SI8 SJ8 (fun r9 SI10 SJ10 => vp_in (((i3 36) + ((i3 4) * (i3 19))) + (i3 3)) 135 ∧ (Q x2 (gj_u2 (gj_u2 SI10 82 (gj_n (((i3 36) + ((i3 4) * (i3 19))) + (i3 3))) r9) 82 35 (((gj_u2 SI10 82 (gj_n (((i3 36) + ((i3 4) * (i3 19))) + (i3 3))) r9) 82 35) + (i3 1))) SJ10))))))))) ∧ (¬ (i3 76) ≤ x3 → vp_in ((i3 40) + x3) 135 ∧ (vp_in ((i3 36) + x3) 135 ∧ (GoI E mt_196 14 [some (.ref 81), some (.int x1), some (.int x2), some (.int (x3 + (i3 1)))] (gj_u2 SI 82 (gj_n ((i3 36) + x3)) (SI 82 (gj_n ((i3 40) + x3)))) SJ Q)))) : GoI E mt_196 14 [some (.ref 81), some (.int x1), some (.int x2), some (.int x3)] SI SJ Q := by
  refine gj_goq gj_clT ok_196 [14, 99, 120, 123] ?_
  show ((i3 76) ≤ x3 → gj_Goes E om0 mt_196 44 [some (.ref 81), some (.int x1), some (.int x2), some (.int x3)] [] SI SJ (QI Q)) ∧ (¬ (i3 76) ≤ x3 → vp_in ((i3 40) + x3) 135 ∧ (vp_in ((i3 36) + x3) 135 ∧ (gj_Goes E om0 mt_196 14 [some (.ref 81), some (.int x1), some (.int x2), some (.int (x3 + (i3 1)))] [] (gj_u2 SI 82 (gj_n ((i3 36) + x3)) (SI 82 (gj_n ((i3 40) + x3)))) SJ (QI Q))))
  refine ⟨fun c1 => ?_, fun c1 => ?_⟩
  · refine gj_goq gj_clT ok_196 [14, 99, 120, 123] ?_
    show vp_in (i3 35) 135 ∧ (vp_in (i3 35) 135 ∧ (vp_in ((i3 36) + ((i3 4) * (i3 19))) 135 ∧ (vp_in (i3 17) 135 ∧ (vp_in (((i3 36) + ((i3 4) * (i3 19))) + (i3 1)) 135 ∧ (gj_Do E om0 (gj_mt 195) [(.ref 81)] (gj_u2 (gj_u2 (gj_u2 SI 82 35 (i3 19)) 82 (gj_n ((i3 36) + ((i3 4) * (i3 19)))) x1) 82 (gj_n (((i3 36) + ((i3 4) * (i3 19))) + (i3 1))) ((gj_u2 (gj_u2 SI 82 35 (i3 19)) 82 (gj_n ((i3 36) + ((i3 4) * (i3 19)))) x1) 82 17)) SJ _)))))
    refine ⟨(gj_vin (by decide)), ?_⟩
    refine ⟨(gj_vin (by decide)), ?_⟩
    have k2 := (h.1 c1).1
    refine ⟨k2, ?_⟩
    refine ⟨(gj_vin (by decide)), ?_⟩
    have k3 := (h.1 c1).2.1
    refine ⟨k3, ?_⟩
    refine gj_Do.mono (h.1 c1).2.2 (fun v_ SI2 SJ2 h_ => ?_)
    obtain ⟨r1, rfl, q4⟩ := h_
    show gj_Goes E om0 mt_196 99 [some (.ref 81), some (.int x1), some (.int x2), some (.int ((i3 36) + ((i3 4) * (i3 19))))] [(.int r1), (.int (((i3 36) + ((i3 4) * (i3 19))) + (i3 2))), (.ref 82)] SI2 SJ2 (QI Q)
    refine gj_goq gj_clT ok_196 [14, 99, 120, 123] ?_
    show (r1 = 0 → gj_Goes E om0 mt_196 106 [some (.ref 81), some (.int x1), some (.int x2), some (.int ((i3 36) + ((i3 4) * (i3 19))))] [(.int (((i3 36) + ((i3 4) * (i3 19))) + (i3 2))), (.ref 82)] SI2 SJ2 (QI Q)) ∧ (¬ r1 = 0 → gj_Goes E om0 mt_196 107 [some (.ref 81), some (.int x1), some (.int x2), some (.int ((i3 36) + ((i3 4) * (i3 19))))] [(.int (i3 1)), (.int (((i3 36) + ((i3 4) * (i3 19))) + (i3 2))), (.ref 82)] SI2 SJ2 (QI Q))
    refine ⟨fun c5 => ?_, fun c5 => ?_⟩
    · refine gj_goq gj_clT ok_196 [14, 99, 120, 123] ?_
      show vp_in (((i3 36) + ((i3 4) * (i3 19))) + (i3 2)) 135 ∧ (gj_Do E om0 (gj_mt 185) [(.ref 81)] (gj_u2 SI2 82 (gj_n (((i3 36) + ((i3 4) * (i3 19))) + (i3 2))) (i3 0)) SJ2 _)
      have k6 := (q4.1 c5).1
      refine ⟨k6, ?_⟩
      refine gj_Do.mono (q4.1 c5).2 (fun v_ SI4 SJ4 h_ => ?_)
      obtain ⟨r3, rfl, q7⟩ := h_
      show gj_Goes E om0 mt_196 120 [some (.ref 81), some (.int x1), some (.int x2), some (.int ((i3 36) + ((i3 4) * (i3 19))))] [(.int r3), (.ref 81), (.int (((i3 36) + ((i3 4) * (i3 19))) + (i3 3))), (.ref 82)] SI4 SJ4 (QI Q)
      refine gj_goq gj_clT ok_196 [14, 99, 120, 123] ?_
      show gj_Do E om0 (gj_mt 193) [(.ref 81), (.int r3)] SI4 SJ4 _
      refine gj_Do.mono q7 (fun v_ SI6 SJ6 h_ => ?_)
      obtain ⟨r5, rfl, q8⟩ := h_
      show gj_Goes E om0 mt_196 123 [some (.ref 81), some (.int x1), some (.int x2), some (.int ((i3 36) + ((i3 4) * (i3 19))))] [(.int r5), (.int (((i3 36) + ((i3 4) * (i3 19))) + (i3 3))), (.ref 82)] SI6 SJ6 (QI Q)
      refine gj_goq gj_clT ok_196 [14, 99, 120, 123] ?_
      show vp_in (((i3 36) + ((i3 4) * (i3 19))) + (i3 3)) 135 ∧ (vp_in (i3 35) 135 ∧ (vp_in (i3 35) 135 ∧ (QI Q (some (.int x2)) (gj_u2 (gj_u2 SI6 82 (gj_n (((i3 36) + ((i3 4) * (i3 19))) + (i3 3))) r5) 82 35 (((gj_u2 SI6 82 (gj_n (((i3 36) + ((i3 4) * (i3 19))) + (i3 3))) r5) 82 35) + (i3 1))) SJ6)))
      have k9 := q8.1
      refine ⟨k9, ?_⟩
      refine ⟨(gj_vin (by decide)), ?_⟩
      refine ⟨(gj_vin (by decide)), ?_⟩
      exact ⟨_, rfl, q8.2⟩
    · refine gj_goq gj_clT ok_196 [14, 99, 120, 123] ?_
      show vp_in (((i3 36) + ((i3 4) * (i3 19))) + (i3 2)) 135 ∧ (gj_Do E om0 (gj_mt 185) [(.ref 81)] (gj_u2 SI2 82 (gj_n (((i3 36) + ((i3 4) * (i3 19))) + (i3 2))) (i3 1)) SJ2 _)
      have k10 := (q4.2 c5).1
      refine ⟨k10, ?_⟩
      refine gj_Do.mono (q4.2 c5).2 (fun v_ SI8 SJ8 h_ => ?_)
      obtain ⟨r7, rfl, q11⟩ := h_
      show gj_Goes E om0 mt_196 120 [some (.ref 81), some (.int x1), some (.int x2), some (.int ((i3 36) + ((i3 4) * (i3 19))))] [(.int r7), (.ref 81), (.int (((i3 36) + ((i3 4) * (i3 19))) + (i3 3))), (.ref 82)] SI8 SJ8 (QI Q)
      refine gj_goq gj_clT ok_196 [14, 99, 120, 123] ?_
      show gj_Do E om0 (gj_mt 193) [(.ref 81), (.int r7)] SI8 SJ8 _
      refine gj_Do.mono q11 (fun v_ SI10 SJ10 h_ => ?_)
      obtain ⟨r9, rfl, q12⟩ := h_
      show gj_Goes E om0 mt_196 123 [some (.ref 81), some (.int x1), some (.int x2), some (.int ((i3 36) + ((i3 4) * (i3 19))))] [(.int r9), (.int (((i3 36) + ((i3 4) * (i3 19))) + (i3 3))), (.ref 82)] SI10 SJ10 (QI Q)
      refine gj_goq gj_clT ok_196 [14, 99, 120, 123] ?_
      show vp_in (((i3 36) + ((i3 4) * (i3 19))) + (i3 3)) 135 ∧ (vp_in (i3 35) 135 ∧ (vp_in (i3 35) 135 ∧ (QI Q (some (.int x2)) (gj_u2 (gj_u2 SI10 82 (gj_n (((i3 36) + ((i3 4) * (i3 19))) + (i3 3))) r9) 82 35 (((gj_u2 SI10 82 (gj_n (((i3 36) + ((i3 4) * (i3 19))) + (i3 3))) r9) 82 35) + (i3 1))) SJ10)))
      have k13 := q12.1
      refine ⟨k13, ?_⟩
      refine ⟨(gj_vin (by decide)), ?_⟩
      refine ⟨(gj_vin (by decide)), ?_⟩
      exact ⟨_, rfl, q12.2⟩
  · have k14 := (h.2 c1).1
    refine ⟨k14, ?_⟩
    have k15 := (h.2 c1).2.1
    refine ⟨k15, ?_⟩
    exact (h.2 c1).2.2
set_option maxRecDepth 20000 in
/-- GraspJudgeModel.past -/
theorem st_197 {E : gj_E} {Q : Int32 → gj_I → gj_J → Prop} (a1 : Int32) (a2 : Int32) (SI : gj_I) (SJ : gj_J) (h : DoI E 155 [(.long (a1).toInt64), (.long (i6 0)), (.long ((SI 82 35) - (i3 1)).toInt64)] SI SJ (fun r1 SI2 SJ2 => (r1 = 0 → Q (i3 (-1)) SI2 SJ2) ∧ (¬ r1 = 0 → DoI E 155 [(.long (a2).toInt64), (.long (i6 0)), (.long (i6 3))] SI2 SJ2 (fun r3 SI4 SJ4 => (r3 = 0 → Q (i3 (-1)) SI4 SJ4) ∧ (¬ r3 = 0 → vp_in (((i3 36) + ((i3 4) * (((SI4 82 35) - (i3 1)) - a1))) + a2) 135 ∧ (Q (SI4 82 (gj_n (((i3 36) + ((i3 4) * (((SI4 82 35) - (i3 1)) - a1))) + a2))) SI4 SJ4)))))) : DoI E 197 [(.ref 81), (.int a1), (.int a2)] SI SJ Q := by
  refine gj_start (M := mt_197) ok_197 (Nat.le_of_ble_eq_true rfl) ?_
  refine gj_goq gj_clT ok_197 [16, 28] ?_
  show vp_in (i3 35) 135 ∧ (gj_Do E om0 (gj_mt 155) [(.long (a1).toInt64), (.long (i6 0)), (.long ((SI 82 35) - (i3 1)).toInt64)] SI SJ _)
  refine ⟨(gj_vin (by decide)), ?_⟩
  refine gj_Do.mono h (fun v_ SI2 SJ2 h_ => ?_)
  obtain ⟨r1, rfl, q1⟩ := h_
  show gj_Goes E om0 mt_197 16 [some (.ref 81), some (.int a1), some (.int a2)] [(.int r1)] SI2 SJ2 (QI Q)
  refine gj_goq gj_clT ok_197 [16, 28] ?_
  show (r1 = 0 → gj_Goes E om0 mt_197 57 [some (.ref 81), some (.int a1), some (.int a2)] [] SI2 SJ2 (QI Q)) ∧ (¬ r1 = 0 → gj_Do E om0 (gj_mt 155) [(.long (a2).toInt64), (.long (i6 0)), (.long (i6 3))] SI2 SJ2 _)
  refine ⟨fun c2 => ?_, fun c2 => ?_⟩
  · refine gj_goq gj_clT ok_197 [16, 28] ?_
    show QI Q (some (.int (i3 (-1)))) SI2 SJ2
    exact ⟨_, rfl, (q1.1 c2)⟩
  · refine gj_Do.mono (q1.2 c2) (fun v_ SI4 SJ4 h_ => ?_)
    obtain ⟨r3, rfl, q3⟩ := h_
    show gj_Goes E om0 mt_197 28 [some (.ref 81), some (.int a1), some (.int a2)] [(.int r3)] SI4 SJ4 (QI Q)
    refine gj_goq gj_clT ok_197 [16, 28] ?_
    show (r3 = 0 → gj_Goes E om0 mt_197 57 [some (.ref 81), some (.int a1), some (.int a2)] [] SI4 SJ4 (QI Q)) ∧ (¬ r3 = 0 → vp_in (i3 35) 135 ∧ (vp_in (((i3 36) + ((i3 4) * (((SI4 82 35) - (i3 1)) - a1))) + a2) 135 ∧ (gj_Goes E om0 mt_197 58 [some (.ref 81), some (.int a1), some (.int a2)] [(.int (SI4 82 (gj_n (((i3 36) + ((i3 4) * (((SI4 82 35) - (i3 1)) - a1))) + a2))))] SI4 SJ4 (QI Q))))
    refine ⟨fun c4 => ?_, fun c4 => ?_⟩
    · refine gj_goq gj_clT ok_197 [16, 28] ?_
      show QI Q (some (.int (i3 (-1)))) SI4 SJ4
      exact ⟨_, rfl, (q3.1 c4)⟩
    · refine ⟨(gj_vin (by decide)), ?_⟩
      have k5 := (q3.2 c4).1
      refine ⟨k5, ?_⟩
      refine gj_goq gj_clT ok_197 [16, 28] ?_
      show QI Q (some (.int (SI4 82 (gj_n (((i3 36) + ((i3 4) * (((SI4 82 35) - (i3 1)) - a1))) + a2))))) SI4 SJ4
      exact ⟨_, rfl, (q3.2 c4).2⟩
set_option maxRecDepth 20000 in
/-- GraspJudgeModel.put -/
theorem st_198 {E : gj_E} {Q : Int32 → gj_I → gj_J → Prop} (a1 : Int32) (a2 : Int32) (SI : gj_I) (SJ : gj_J) (h : DoI E 162 [(.ref 81)] SI SJ (fun r1 SI2 SJ2 => DoI E 155 [(.long (a1).toInt64), (.long (i6 0)), (.long (r1 - (i3 1)).toInt64)] SI2 SJ2 (fun r3 SI4 SJ4 => (r3 = 0 → Q (i3 (-1)) SI4 SJ4) ∧ (¬ r3 = 0 → DoI E 165 [(.ref 81), (.int a1)] SI4 SJ4 (fun r5 SI6 SJ6 => DoI E 155 [(.long (a2).toInt64), (.long (i6 1)), (.long (r5 - (i3 1)).toInt64)] SI6 SJ6 (fun r7 SI8 SJ8 => (¬ r7 = 0 → DoI E 180 [(.ref 81), (.int a1), (.int a2)] SI8 SJ8 (fun r9 SI10 SJ10 => (r9 = (i3 (-1)) → (¬ (SI10 82 17) = (i3 6) → vp_in ((i3 18) + (SI10 82 17)) 135 ∧ (vp_in ((i3 24) + (SI10 82 17)) 135 ∧ (DoI E 196 [(.ref 81), (.int (i3 0)), (.int (SI10 82 17))] (gj_u2 (gj_u2 (gj_u2 SI10 82 (gj_n ((i3 18) + (SI10 82 17))) a1) 82 (gj_n ((i3 24) + (SI10 82 17))) a2) 82 17 ((SI10 82 17) + (i3 1))) SJ10 (fun r11 SI12 SJ12 => Q r11 SI12 SJ12)))) ∧ ((SI10 82 17) = (i3 6) → Q (i3 (-3)) SI10 SJ10)) ∧ (¬ r9 = (i3 (-1)) → Q (i3 (-2)) SI10 SJ10))) ∧ (r7 = 0 → Q (i3 (-1)) SI8 SJ8))))))) : DoI E 198 [(.ref 81), (.int a1), (.int a2)] SI SJ Q := by
  refine gj_start (M := mt_198) ok_198 (Nat.le_of_ble_eq_true rfl) ?_
  refine gj_goq gj_clT ok_198 [7, 13, 24, 30, 41, 101] ?_
  show gj_Do E om0 (gj_mt 162) [(.ref 81)] SI SJ _
  refine gj_Do.mono h (fun v_ SI2 SJ2 h_ => ?_)
  obtain ⟨r1, rfl, q1⟩ := h_
  show gj_Goes E om0 mt_198 7 [some (.ref 81), some (.int a1), some (.int a2), none] [(.int r1), (.long (i6 0)), (.long (a1).toInt64)] SI2 SJ2 (QI Q)
  refine gj_goq gj_clT ok_198 [7, 13, 24, 30, 41, 101] ?_
  show gj_Do E om0 (gj_mt 155) [(.long (a1).toInt64), (.long (i6 0)), (.long (r1 - (i3 1)).toInt64)] SI2 SJ2 _
  refine gj_Do.mono q1 (fun v_ SI4 SJ4 h_ => ?_)
  obtain ⟨r3, rfl, q2⟩ := h_
  show gj_Goes E om0 mt_198 13 [some (.ref 81), some (.int a1), some (.int a2), none] [(.int r3)] SI4 SJ4 (QI Q)
  refine gj_goq gj_clT ok_198 [7, 13, 24, 30, 41, 101] ?_
  show (r3 = 0 → gj_Goes E om0 mt_198 33 [some (.ref 81), some (.int a1), some (.int a2), none] [] SI4 SJ4 (QI Q)) ∧ (¬ r3 = 0 → gj_Do E om0 (gj_mt 165) [(.ref 81), (.int a1)] SI4 SJ4 _)
  refine ⟨fun c3 => ?_, fun c3 => ?_⟩
  · refine gj_goq gj_clT ok_198 [7, 13, 24, 30, 41, 101] ?_
    show QI Q (some (.int (i3 (-1)))) SI4 SJ4
    exact ⟨_, rfl, (q2.1 c3)⟩
  · refine gj_Do.mono (q2.2 c3) (fun v_ SI6 SJ6 h_ => ?_)
    obtain ⟨r5, rfl, q4⟩ := h_
    show gj_Goes E om0 mt_198 24 [some (.ref 81), some (.int a1), some (.int a2), none] [(.int r5), (.long (i6 1)), (.long (a2).toInt64)] SI6 SJ6 (QI Q)
    refine gj_goq gj_clT ok_198 [7, 13, 24, 30, 41, 101] ?_
    show gj_Do E om0 (gj_mt 155) [(.long (a2).toInt64), (.long (i6 1)), (.long (r5 - (i3 1)).toInt64)] SI6 SJ6 _
    refine gj_Do.mono q4 (fun v_ SI8 SJ8 h_ => ?_)
    obtain ⟨r7, rfl, q5⟩ := h_
    show gj_Goes E om0 mt_198 30 [some (.ref 81), some (.int a1), some (.int a2), none] [(.int r7)] SI8 SJ8 (QI Q)
    refine gj_goq gj_clT ok_198 [7, 13, 24, 30, 41, 101] ?_
    show (¬ r7 = 0 → gj_Goes E om0 mt_198 35 [some (.ref 81), some (.int a1), some (.int a2), none] [] SI8 SJ8 (QI Q)) ∧ (r7 = 0 → QI Q (some (.int (i3 (-1)))) SI8 SJ8)
    refine ⟨fun c6 => ?_, fun c6 => ?_⟩
    · refine gj_goq gj_clT ok_198 [7, 13, 24, 30, 41, 101] ?_
      show gj_Do E om0 (gj_mt 180) [(.ref 81), (.int a1), (.int a2)] SI8 SJ8 _
      refine gj_Do.mono (q5.1 c6) (fun v_ SI10 SJ10 h_ => ?_)
      obtain ⟨r9, rfl, q7⟩ := h_
      show gj_Goes E om0 mt_198 41 [some (.ref 81), some (.int a1), some (.int a2), none] [(.int r9)] SI10 SJ10 (QI Q)
      refine gj_goq gj_clT ok_198 [7, 13, 24, 30, 41, 101] ?_
      show (r9 = (i3 (-1)) → gj_Goes E om0 mt_198 48 [some (.ref 81), some (.int a1), some (.int a2), none] [] SI10 SJ10 (QI Q)) ∧ (¬ r9 = (i3 (-1)) → QI Q (some (.int (i3 (-2)))) SI10 SJ10)
      refine ⟨fun c8 => ?_, fun c8 => ?_⟩
      · refine gj_goq gj_clT ok_198 [7, 13, 24, 30, 41, 101] ?_
        show vp_in (i3 17) 135 ∧ ((¬ (SI10 82 17) = (i3 6) → gj_Goes E om0 mt_198 65 [some (.ref 81), some (.int a1), some (.int a2), some (.int (SI10 82 17))] [] SI10 SJ10 (QI Q)) ∧ ((SI10 82 17) = (i3 6) → QI Q (some (.int (i3 (-3)))) SI10 SJ10))
        refine ⟨(gj_vin (by decide)), ?_⟩
        refine ⟨fun c9 => ?_, fun c9 => ?_⟩
        · refine gj_goq gj_clT ok_198 [7, 13, 24, 30, 41, 101] ?_
          show vp_in ((i3 18) + (SI10 82 17)) 135 ∧ (vp_in ((i3 24) + (SI10 82 17)) 135 ∧ (vp_in (i3 17) 135 ∧ (gj_Do E om0 (gj_mt 196) [(.ref 81), (.int (i3 0)), (.int (SI10 82 17))] (gj_u2 (gj_u2 (gj_u2 SI10 82 (gj_n ((i3 18) + (SI10 82 17))) a1) 82 (gj_n ((i3 24) + (SI10 82 17))) a2) 82 17 ((SI10 82 17) + (i3 1))) SJ10 _)))
          have k10 := ((q7.1 c8).1 c9).1
          refine ⟨k10, ?_⟩
          have k11 := ((q7.1 c8).1 c9).2.1
          refine ⟨k11, ?_⟩
          refine ⟨(gj_vin (by decide)), ?_⟩
          refine gj_Do.mono ((q7.1 c8).1 c9).2.2 (fun v_ SI12 SJ12 h_ => ?_)
          obtain ⟨r11, rfl, q12⟩ := h_
          show gj_Goes E om0 mt_198 101 [some (.ref 81), some (.int a1), some (.int a2), some (.int (SI10 82 17))] [(.int r11)] SI12 SJ12 (QI Q)
          refine gj_goq gj_clT ok_198 [7, 13, 24, 30, 41, 101] ?_
          show QI Q (some (.int r11)) SI12 SJ12
          exact ⟨_, rfl, q12⟩
        · exact ⟨_, rfl, ((q7.1 c8).2 c9)⟩
      · exact ⟨_, rfl, (q7.2 c8)⟩
    · exact ⟨_, rfl, (q5.2 c6)⟩
set_option maxRecDepth 20000 in
/-- GraspJudgeModel.drops -/
theorem st_199 {E : gj_E} {Q : gj_I → gj_J → Prop} (a1 : Int32) (SI : gj_I) (SJ : gj_J) (h : GoV E mt_199 18 [some (.ref 81), none, some (.int a1)] (gj_u2 SI 82 17 ((SI 82 17) - (i3 1))) SJ Q) : DoV E 199 [(.ref 81), (.int a1)] SI SJ Q := by
  refine gj_start (M := mt_199) ok_199 (Nat.le_of_ble_eq_true rfl) ?_
  refine gj_goq gj_clT ok_199 [18] ?_
  show vp_in (i3 17) 135 ∧ (vp_in (i3 17) 135 ∧ (gj_Goes E om0 mt_199 18 [some (.ref 81), some (.int a1), some (.int a1)] [] (gj_u2 SI 82 17 ((SI 82 17) - (i3 1))) SJ (QV Q)))
  refine ⟨(gj_vin (by decide)), ?_⟩
  refine ⟨(gj_vin (by decide)), ?_⟩
  exact gj_fh h (And.intro (Or.inr rfl) (And.intro (Or.inl rfl) (And.intro (Or.inr rfl) trivial)))
set_option maxRecDepth 20000 in
theorem lp_199_18 {E : gj_E} {Q : gj_I → gj_J → Prop} (x2 : Int32) (SI : gj_I) (SJ : gj_J) (h : ((SI 82 17) ≤ x2 → Q SI SJ) ∧ (¬ (SI 82 17) ≤ x2 → vp_in (((i3 18) + x2) + (i3 1)) 135 ∧ (vp_in ((i3 18) + x2) 135 ∧ (vp_in (((i3 24) + x2) + (i3 1)) 135 ∧ (vp_in ((i3 24) + x2) 135 ∧ (GoV E mt_199 18 [some (.ref 81), none, some (.int (x2 + (i3 1)))] (gj_u2 (gj_u2 SI 82 (gj_n ((i3 18) + x2)) (SI 82 (gj_n (((i3 18) + x2) + (i3 1))))) 82 (gj_n ((i3 24) + x2)) ((gj_u2 SI 82 (gj_n ((i3 18) + x2)) (SI 82 (gj_n (((i3 18) + x2) + (i3 1))))) 82 (gj_n (((i3 24) + x2) + (i3 1))))) SJ Q)))))) : GoV E mt_199 18 [some (.ref 81), none, some (.int x2)] SI SJ Q := by
  refine gj_goq gj_clT ok_199 [18] ?_
  show vp_in (i3 17) 135 ∧ (((SI 82 17) ≤ x2 → gj_Goes E om0 mt_199 75 [some (.ref 81), none, some (.int x2)] [] SI SJ (QV Q)) ∧ (¬ (SI 82 17) ≤ x2 → vp_in (((i3 18) + x2) + (i3 1)) 135 ∧ (vp_in ((i3 18) + x2) 135 ∧ (vp_in (((i3 24) + x2) + (i3 1)) 135 ∧ (vp_in ((i3 24) + x2) 135 ∧ (gj_Goes E om0 mt_199 18 [some (.ref 81), none, some (.int (x2 + (i3 1)))] [] (gj_u2 (gj_u2 SI 82 (gj_n ((i3 18) + x2)) (SI 82 (gj_n (((i3 18) + x2) + (i3 1))))) 82 (gj_n ((i3 24) + x2)) ((gj_u2 SI 82 (gj_n ((i3 18) + x2)) (SI 82 (gj_n (((i3 18) + x2) + (i3 1))))) 82 (gj_n (((i3 24) + x2) + (i3 1))))) SJ (QV Q)))))))
  refine ⟨(gj_vin (by decide)), ?_⟩
  refine ⟨fun c1 => ?_, fun c1 => ?_⟩
  · refine gj_goq gj_clT ok_199 [18] ?_
    show QV Q none SI SJ
    exact ⟨rfl, (h.1 c1)⟩
  · have k2 := (h.2 c1).1
    refine ⟨k2, ?_⟩
    have k3 := (h.2 c1).2.1
    refine ⟨k3, ?_⟩
    have k4 := (h.2 c1).2.2.1
    refine ⟨k4, ?_⟩
    have k5 := (h.2 c1).2.2.2.1
    refine ⟨k5, ?_⟩
    exact (h.2 c1).2.2.2.2
set_option maxRecDepth 20000 in
/-- GraspJudgeModel.take -/
theorem st_200 {E : gj_E} {Q : Int32 → gj_I → gj_J → Prop} (a1 : Int32) (SI : gj_I) (SJ : gj_J) (h : DoI E 181 [(.ref 81), (.int a1)] SI SJ (fun r1 SI2 SJ2 => (¬ r1 = 0 → DoV E 199 [(.ref 81), (.int a1)] SI2 SJ2 (fun SI4 SJ4 => DoI E 196 [(.ref 81), (.int (i3 1)), (.int (SI4 82 17))] SI4 SJ4 (fun r5 SI6 SJ6 => Q r5 SI6 SJ6))) ∧ (r1 = 0 → Q (i3 (-1)) SI2 SJ2))) : DoI E 200 [(.ref 81), (.int a1)] SI SJ Q := by
  refine gj_start (M := mt_200) ok_200 (Nat.le_of_ble_eq_true rfl) ?_
  refine gj_goq gj_clT ok_200 [5, 15, 27] ?_
  show gj_Do E om0 (gj_mt 181) [(.ref 81), (.int a1)] SI SJ _
  refine gj_Do.mono h (fun v_ SI2 SJ2 h_ => ?_)
  obtain ⟨r1, rfl, q1⟩ := h_
  show gj_Goes E om0 mt_200 5 [some (.ref 81), some (.int a1)] [(.int r1)] SI2 SJ2 (QI Q)
  refine gj_goq gj_clT ok_200 [5, 15, 27] ?_
  show (¬ r1 = 0 → gj_Goes E om0 mt_200 10 [some (.ref 81), some (.int a1)] [] SI2 SJ2 (QI Q)) ∧ (r1 = 0 → QI Q (some (.int (i3 (-1)))) SI2 SJ2)
  refine ⟨fun c2 => ?_, fun c2 => ?_⟩
  · refine gj_goq gj_clT ok_200 [5, 15, 27] ?_
    show gj_Do E om0 (gj_mt 199) [(.ref 81), (.int a1)] SI2 SJ2 _
    refine gj_Do.mono (q1.1 c2) (fun v_ SI4 SJ4 h_ => ?_)
    obtain ⟨rfl, q3⟩ := h_
    show gj_Goes E om0 mt_200 15 [some (.ref 81), some (.int a1)] [] SI4 SJ4 (QI Q)
    refine gj_goq gj_clT ok_200 [5, 15, 27] ?_
    show vp_in (i3 17) 135 ∧ (gj_Do E om0 (gj_mt 196) [(.ref 81), (.int (i3 1)), (.int (SI4 82 17))] SI4 SJ4 _)
    refine ⟨(gj_vin (by decide)), ?_⟩
    refine gj_Do.mono q3 (fun v_ SI6 SJ6 h_ => ?_)
    obtain ⟨r5, rfl, q4⟩ := h_
    show gj_Goes E om0 mt_200 27 [some (.ref 81), some (.int a1)] [(.int r5)] SI6 SJ6 (QI Q)
    refine gj_goq gj_clT ok_200 [5, 15, 27] ?_
    show QI Q (some (.int r5)) SI6 SJ6
    exact ⟨_, rfl, q4⟩
  · exact ⟨_, rfl, (q1.2 c2)⟩
set_option maxRecDepth 20000 in
/-- GraspJudgeModel.tread -/
theorem st_201 {E : gj_E} {Q : Int32 → gj_I → gj_J → Prop} (a1 : Int32) (a2 : Int32) (SI : gj_I) (SJ : gj_J) (h : DoI E 155 [(.long (a1).toInt64), (.long (i6 0)), (.long (i6 3))] SI SJ (fun r1 SI2 SJ2 => (r1 = 0 → Q (i3 (-1)) SI2 SJ2) ∧ (¬ r1 = 0 → DoI E 155 [(.long (a2).toInt64), (.long (i6 1)), (.long (i6 3))] SI2 SJ2 (fun r3 SI4 SJ4 => (¬ r3 = 0 → DoI E 196 [(.ref 81), (.int (i3 2)), (.int (i3 0))] (gj_u2 (gj_u2 SI4 82 30 a1) 82 31 a2) SJ4 (fun r5 SI6 SJ6 => Q r5 SI6 SJ6)) ∧ (r3 = 0 → Q (i3 (-1)) SI4 SJ4))))) : DoI E 201 [(.ref 81), (.int a1), (.int a2)] SI SJ Q := by
  refine gj_start (M := mt_201) ok_201 (Nat.le_of_ble_eq_true rfl) ?_
  refine gj_goq gj_clT ok_201 [9, 21, 48] ?_
  show gj_Do E om0 (gj_mt 155) [(.long (a1).toInt64), (.long (i6 0)), (.long (i6 3))] SI SJ _
  refine gj_Do.mono h (fun v_ SI2 SJ2 h_ => ?_)
  obtain ⟨r1, rfl, q1⟩ := h_
  show gj_Goes E om0 mt_201 9 [some (.ref 81), some (.int a1), some (.int a2)] [(.int r1)] SI2 SJ2 (QI Q)
  refine gj_goq gj_clT ok_201 [9, 21, 48] ?_
  show (r1 = 0 → gj_Goes E om0 mt_201 24 [some (.ref 81), some (.int a1), some (.int a2)] [] SI2 SJ2 (QI Q)) ∧ (¬ r1 = 0 → gj_Do E om0 (gj_mt 155) [(.long (a2).toInt64), (.long (i6 1)), (.long (i6 3))] SI2 SJ2 _)
  refine ⟨fun c2 => ?_, fun c2 => ?_⟩
  · refine gj_goq gj_clT ok_201 [9, 21, 48] ?_
    show QI Q (some (.int (i3 (-1)))) SI2 SJ2
    exact ⟨_, rfl, (q1.1 c2)⟩
  · refine gj_Do.mono (q1.2 c2) (fun v_ SI4 SJ4 h_ => ?_)
    obtain ⟨r3, rfl, q3⟩ := h_
    show gj_Goes E om0 mt_201 21 [some (.ref 81), some (.int a1), some (.int a2)] [(.int r3)] SI4 SJ4 (QI Q)
    refine gj_goq gj_clT ok_201 [9, 21, 48] ?_
    show (¬ r3 = 0 → gj_Goes E om0 mt_201 26 [some (.ref 81), some (.int a1), some (.int a2)] [] SI4 SJ4 (QI Q)) ∧ (r3 = 0 → QI Q (some (.int (i3 (-1)))) SI4 SJ4)
    refine ⟨fun c4 => ?_, fun c4 => ?_⟩
    · refine gj_goq gj_clT ok_201 [9, 21, 48] ?_
      show vp_in (i3 30) 135 ∧ (vp_in (i3 31) 135 ∧ (gj_Do E om0 (gj_mt 196) [(.ref 81), (.int (i3 2)), (.int (i3 0))] (gj_u2 (gj_u2 SI4 82 30 a1) 82 31 a2) SJ4 _))
      refine ⟨(gj_vin (by decide)), ?_⟩
      refine ⟨(gj_vin (by decide)), ?_⟩
      refine gj_Do.mono (q3.1 c4) (fun v_ SI6 SJ6 h_ => ?_)
      obtain ⟨r5, rfl, q5⟩ := h_
      show gj_Goes E om0 mt_201 48 [some (.ref 81), some (.int a1), some (.int a2)] [(.int r5)] SI6 SJ6 (QI Q)
      refine gj_goq gj_clT ok_201 [9, 21, 48] ?_
      show QI Q (some (.int r5)) SI6 SJ6
      exact ⟨_, rfl, q5⟩
    · exact ⟨_, rfl, (q3.2 c4)⟩
set_option maxRecDepth 20000 in
/-- GraspJudgeModel.centre -/
theorem st_202 {E : gj_E} {Q : Int32 → gj_I → gj_J → Prop} (a1 : Int32) (a2 : Int32) (SI : gj_I) (SJ : gj_J) (h : DoI E 155 [(.long (a1).toInt64), (.long (i6 0)), (.long (i6 9))] SI SJ (fun r1 SI2 SJ2 => (r1 = 0 → Q (i3 (-1)) SI2 SJ2) ∧ (¬ r1 = 0 → DoI E 155 [(.long (a2).toInt64), (.long (i6 0)), (.long (i6 9))] SI2 SJ2 (fun r3 SI4 SJ4 => (¬ r3 = 0 → DoI E 196 [(.ref 81), (.int (i3 3)), (.int (i3 0))] (gj_u2 (gj_u2 SI4 82 32 a1) 82 33 a2) SJ4 (fun r5 SI6 SJ6 => Q r5 SI6 SJ6)) ∧ (r3 = 0 → Q (i3 (-1)) SI4 SJ4))))) : DoI E 202 [(.ref 81), (.int a1), (.int a2)] SI SJ Q := by
  refine gj_start (M := mt_202) ok_202 (Nat.le_of_ble_eq_true rfl) ?_
  refine gj_goq gj_clT ok_202 [9, 21, 48] ?_
  show gj_Do E om0 (gj_mt 155) [(.long (a1).toInt64), (.long (i6 0)), (.long (i6 9))] SI SJ _
  refine gj_Do.mono h (fun v_ SI2 SJ2 h_ => ?_)
  obtain ⟨r1, rfl, q1⟩ := h_
  show gj_Goes E om0 mt_202 9 [some (.ref 81), some (.int a1), some (.int a2)] [(.int r1)] SI2 SJ2 (QI Q)
  refine gj_goq gj_clT ok_202 [9, 21, 48] ?_
  show (r1 = 0 → gj_Goes E om0 mt_202 24 [some (.ref 81), some (.int a1), some (.int a2)] [] SI2 SJ2 (QI Q)) ∧ (¬ r1 = 0 → gj_Do E om0 (gj_mt 155) [(.long (a2).toInt64), (.long (i6 0)), (.long (i6 9))] SI2 SJ2 _)
  refine ⟨fun c2 => ?_, fun c2 => ?_⟩
  · refine gj_goq gj_clT ok_202 [9, 21, 48] ?_
    show QI Q (some (.int (i3 (-1)))) SI2 SJ2
    exact ⟨_, rfl, (q1.1 c2)⟩
  · refine gj_Do.mono (q1.2 c2) (fun v_ SI4 SJ4 h_ => ?_)
    obtain ⟨r3, rfl, q3⟩ := h_
    show gj_Goes E om0 mt_202 21 [some (.ref 81), some (.int a1), some (.int a2)] [(.int r3)] SI4 SJ4 (QI Q)
    refine gj_goq gj_clT ok_202 [9, 21, 48] ?_
    show (¬ r3 = 0 → gj_Goes E om0 mt_202 26 [some (.ref 81), some (.int a1), some (.int a2)] [] SI4 SJ4 (QI Q)) ∧ (r3 = 0 → QI Q (some (.int (i3 (-1)))) SI4 SJ4)
    refine ⟨fun c4 => ?_, fun c4 => ?_⟩
    · refine gj_goq gj_clT ok_202 [9, 21, 48] ?_
      show vp_in (i3 32) 135 ∧ (vp_in (i3 33) 135 ∧ (gj_Do E om0 (gj_mt 196) [(.ref 81), (.int (i3 3)), (.int (i3 0))] (gj_u2 (gj_u2 SI4 82 32 a1) 82 33 a2) SJ4 _))
      refine ⟨(gj_vin (by decide)), ?_⟩
      refine ⟨(gj_vin (by decide)), ?_⟩
      refine gj_Do.mono (q3.1 c4) (fun v_ SI6 SJ6 h_ => ?_)
      obtain ⟨r5, rfl, q5⟩ := h_
      show gj_Goes E om0 mt_202 48 [some (.ref 81), some (.int a1), some (.int a2)] [(.int r5)] SI6 SJ6 (QI Q)
      refine gj_goq gj_clT ok_202 [9, 21, 48] ?_
      show QI Q (some (.int r5)) SI6 SJ6
      exact ⟨_, rfl, q5⟩
    · exact ⟨_, rfl, (q3.2 c4)⟩
set_option maxRecDepth 20000 in
/-- GraspJudgeModel.turnsPair -/
theorem st_203 {E : gj_E} {Q : gj_I → gj_J → Prop} (a1 : Int32) (a2 : Int32) (SI : gj_I) (SJ : gj_J) (h : vp_in a1 135 ∧ (vp_in a2 135 ∧ (Q (gj_u2 (gj_u2 SI 82 (gj_n a1) ((i3 9) - (SI 82 (gj_n a2)))) 82 (gj_n a2) (SI 82 (gj_n a1))) SJ))) : DoV E 203 [(.ref 81), (.int a1), (.int a2)] SI SJ Q := by
  refine gj_start (M := mt_203) ok_203 (Nat.le_of_ble_eq_true rfl) ?_
  refine gj_goq gj_clT ok_203 [] ?_
  show vp_in a1 135 ∧ (vp_in a2 135 ∧ (vp_in a1 135 ∧ (vp_in a2 135 ∧ (QV Q none (gj_u2 (gj_u2 SI 82 (gj_n a1) ((i3 9) - (SI 82 (gj_n a2)))) 82 (gj_n a2) (SI 82 (gj_n a1))) SJ))))
  have k1 := h.1
  refine ⟨k1, ?_⟩
  have k2 := h.2.1
  refine ⟨k2, ?_⟩
  refine ⟨k1, ?_⟩
  refine ⟨k2, ?_⟩
  exact ⟨rfl, h.2.2⟩
set_option maxRecDepth 20000 in
/-- GraspJudgeModel.turn -/
theorem st_204 {E : gj_E} {Q : Int32 → gj_I → gj_J → Prop} (SI : gj_I) (SJ : gj_J) (h : GoI E mt_204 2 [some (.ref 81), some (.int (i3 0))] SI SJ Q) : DoI E 204 [(.ref 81)] SI SJ Q := by
  refine gj_start (M := mt_204) ok_204 (Nat.le_of_ble_eq_true rfl) ?_
  refine gj_goq gj_clT ok_204 [2, 7, 21, 35, 41, 48] ?_
  show gj_Goes E om0 mt_204 2 [some (.ref 81), some (.int (i3 0))] [] SI SJ (QI Q)
  exact h
set_option maxRecDepth 20000 in
theorem lp_204_2 {E : gj_E} {Q : Int32 → gj_I → gj_J → Prop} (x1 : Int32) (SI : gj_I) (SJ : gj_J) (h : DoI E 162 [(.ref 81)] SI SJ (fun r1 SI2 SJ2 => (r1 ≤ x1 → DoV E 203 [(.ref 81), (.int (i3 32)), (.int (i3 33))] SI2 SJ2 (fun SI4 SJ4 => DoI E 196 [(.ref 81), (.int (i3 4)), (.int (i3 0))] SI4 SJ4 (fun r5 SI6 SJ6 => DoI E 197 [(.ref 81), (.int (i3 0)), (.int (i3 2))] SI6 SJ6 (fun r7 SI8 SJ8 => Q r7 SI8 SJ8)))) ∧ (¬ r1 ≤ x1 → DoV E 203 [(.ref 81), (.int ((i3 1) + x1)), (.int ((i3 9) + x1))] SI2 SJ2 (fun SI10 SJ10 => GoI E mt_204 2 [some (.ref 81), some (.int (x1 + (i3 1)))] SI10 SJ10 Q)))) : GoI E mt_204 2 [some (.ref 81), some (.int x1)] SI SJ Q := by
  refine gj_goq gj_clT ok_204 [2, 7, 21, 35, 41, 48] ?_
  show gj_Do E om0 (gj_mt 162) [(.ref 81)] SI SJ _
  refine gj_Do.mono h (fun v_ SI2 SJ2 h_ => ?_)
  obtain ⟨r1, rfl, q1⟩ := h_
  show gj_Goes E om0 mt_204 7 [some (.ref 81), some (.int x1)] [(.int r1), (.int x1)] SI2 SJ2 (QI Q)
  refine gj_goq gj_clT ok_204 [2, 7, 21, 35, 41, 48] ?_
  show (r1 ≤ x1 → gj_Goes E om0 mt_204 27 [some (.ref 81), some (.int x1)] [] SI2 SJ2 (QI Q)) ∧ (¬ r1 ≤ x1 → gj_Do E om0 (gj_mt 203) [(.ref 81), (.int ((i3 1) + x1)), (.int ((i3 9) + x1))] SI2 SJ2 _)
  refine ⟨fun c2 => ?_, fun c2 => ?_⟩
  · refine gj_goq gj_clT ok_204 [2, 7, 21, 35, 41, 48] ?_
    show gj_Do E om0 (gj_mt 203) [(.ref 81), (.int (i3 32)), (.int (i3 33))] SI2 SJ2 _
    refine gj_Do.mono (q1.1 c2) (fun v_ SI4 SJ4 h_ => ?_)
    obtain ⟨rfl, q3⟩ := h_
    show gj_Goes E om0 mt_204 35 [some (.ref 81), some (.int x1)] [] SI4 SJ4 (QI Q)
    refine gj_goq gj_clT ok_204 [2, 7, 21, 35, 41, 48] ?_
    show gj_Do E om0 (gj_mt 196) [(.ref 81), (.int (i3 4)), (.int (i3 0))] SI4 SJ4 _
    refine gj_Do.mono q3 (fun v_ SI6 SJ6 h_ => ?_)
    obtain ⟨r5, rfl, q4⟩ := h_
    show gj_Goes E om0 mt_204 41 [some (.ref 81), some (.int x1)] [(.int r5)] SI6 SJ6 (QI Q)
    refine gj_goq gj_clT ok_204 [2, 7, 21, 35, 41, 48] ?_
    show gj_Do E om0 (gj_mt 197) [(.ref 81), (.int (i3 0)), (.int (i3 2))] SI6 SJ6 _
    refine gj_Do.mono q4 (fun v_ SI8 SJ8 h_ => ?_)
    obtain ⟨r7, rfl, q5⟩ := h_
    show gj_Goes E om0 mt_204 48 [some (.ref 81), some (.int x1)] [(.int r7)] SI8 SJ8 (QI Q)
    refine gj_goq gj_clT ok_204 [2, 7, 21, 35, 41, 48] ?_
    show QI Q (some (.int r7)) SI8 SJ8
    exact ⟨_, rfl, q5⟩
  · refine gj_Do.mono (q1.2 c2) (fun v_ SI10 SJ10 h_ => ?_)
    obtain ⟨rfl, q6⟩ := h_
    show gj_Goes E om0 mt_204 21 [some (.ref 81), some (.int x1)] [] SI10 SJ10 (QI Q)
    refine gj_goq gj_clT ok_204 [2, 7, 21, 35, 41, 48] ?_
    show gj_Goes E om0 mt_204 2 [some (.ref 81), some (.int (x1 + (i3 1)))] [] SI10 SJ10 (QI Q)
    exact q6
set_option maxRecDepth 20000 in
/-- GraspJudgeModel.types -/
theorem st_205 {E : gj_E} {Q : gj_I → gj_J → Prop} (a1 : Int32) (SI : gj_I) (SJ : gj_J) (h : GoV E mt_205 2 [some (.ref 81), some (.int a1), some (.int (i3 3))] SI SJ Q) : DoV E 205 [(.ref 81), (.int a1)] SI SJ Q := by
  refine gj_start (M := mt_205) ok_205 (Nat.le_of_ble_eq_true rfl) ?_
  refine gj_goq gj_clT ok_205 [2] ?_
  show gj_Goes E om0 mt_205 2 [some (.ref 81), some (.int a1), some (.int (i3 3))] [] SI SJ (QV Q)
  exact h
set_option maxRecDepth 20000 in
theorem lp_205_2 {E : gj_E} {Q : gj_I → gj_J → Prop} (x1 : Int32) (x2 : Int32) (SI : gj_I) (SJ : gj_J) (h : (x2 < 0 → Q SI SJ) ∧ (¬ x2 < 0 → vp_in (SI 81 13) 240 ∧ (GoV E mt_205 2 [some (.ref 81), some (.int x1), some (.int (x2 + (i3 (-1))))] (gj_u2 (gj_u2 SI 89 (gj_n (SI 81 13)) (((x1 >>> (((i3 8) * x2) &&& 31))).toInt8.toInt32).toInt8.toInt32) 81 13 ((SI 81 13) + (i3 1))) SJ Q))) : GoV E mt_205 2 [some (.ref 81), some (.int x1), some (.int x2)] SI SJ Q := by
  refine gj_goq gj_clT ok_205 [2] ?_
  show (x2 < 0 → gj_Goes E om0 mt_205 38 [some (.ref 81), some (.int x1), some (.int x2)] [] SI SJ (QV Q)) ∧ (¬ x2 < 0 → vp_in (SI 81 13) 240 ∧ (gj_Goes E om0 mt_205 2 [some (.ref 81), some (.int x1), some (.int (x2 + (i3 (-1))))] [] (gj_u2 (gj_u2 SI 89 (gj_n (SI 81 13)) (((x1 >>> (((i3 8) * x2) &&& 31))).toInt8.toInt32).toInt8.toInt32) 81 13 ((SI 81 13) + (i3 1))) SJ (QV Q)))
  refine ⟨fun c1 => ?_, fun c1 => ?_⟩
  · refine gj_goq gj_clT ok_205 [2] ?_
    show QV Q none SI SJ
    exact ⟨rfl, (h.1 c1)⟩
  · have k2 := (h.2 c1).1
    refine ⟨k2, ?_⟩
    exact (h.2 c1).2
set_option maxRecDepth 20000 in
/-- GraspJudgeModel.feed -/
theorem st_206 {E : gj_E} {Q : Int32 → gj_I → gj_J → Prop} (a1 : Int32) (a2 : Int32) (a3 : Int32) (a4 : Int32) (a5 : Int32) (SI : gj_I) (SJ : gj_J) (h : (((SI 81 13) + (i3 20)) ≤ (i3 240) → DoV E 205 [(.ref 81), (.int a1)] SI SJ (fun SI2 SJ2 => DoV E 205 [(.ref 81), (.int a2)] SI2 SJ2 (fun SI4 SJ4 => DoV E 205 [(.ref 81), (.int a3)] SI4 SJ4 (fun SI6 SJ6 => DoV E 205 [(.ref 81), (.int a4)] SI6 SJ6 (fun SI8 SJ8 => DoV E 205 [(.ref 81), (.int a5)] SI8 SJ8 (fun SI10 SJ10 => Q (SI10 81 13) SI10 SJ10)))))) ∧ (¬ ((SI 81 13) + (i3 20)) ≤ (i3 240) → Q (i3 (-1)) SI SJ)) : DoI E 206 [(.ref 81), (.int a1), (.int a2), (.int a3), (.int a4), (.int a5)] SI SJ Q := by
  refine gj_start (M := mt_206) ok_206 (Nat.le_of_ble_eq_true rfl) ?_
  refine gj_goq gj_clT ok_206 [20, 25, 30, 36, 42] ?_
  show (((SI 81 13) + (i3 20)) ≤ (i3 240) → gj_Goes E om0 mt_206 15 [some (.ref 81), some (.int a1), some (.int a2), some (.int a3), some (.int a4), some (.int a5)] [] SI SJ (QI Q)) ∧ (¬ ((SI 81 13) + (i3 20)) ≤ (i3 240) → QI Q (some (.int (i3 (-1)))) SI SJ)
  refine ⟨fun c1 => ?_, fun c1 => ?_⟩
  · refine gj_goq gj_clT ok_206 [20, 25, 30, 36, 42] ?_
    show gj_Do E om0 (gj_mt 205) [(.ref 81), (.int a1)] SI SJ _
    refine gj_Do.mono (h.1 c1) (fun v_ SI2 SJ2 h_ => ?_)
    obtain ⟨rfl, q2⟩ := h_
    show gj_Goes E om0 mt_206 20 [some (.ref 81), some (.int a1), some (.int a2), some (.int a3), some (.int a4), some (.int a5)] [] SI2 SJ2 (QI Q)
    refine gj_goq gj_clT ok_206 [20, 25, 30, 36, 42] ?_
    show gj_Do E om0 (gj_mt 205) [(.ref 81), (.int a2)] SI2 SJ2 _
    refine gj_Do.mono q2 (fun v_ SI4 SJ4 h_ => ?_)
    obtain ⟨rfl, q3⟩ := h_
    show gj_Goes E om0 mt_206 25 [some (.ref 81), some (.int a1), some (.int a2), some (.int a3), some (.int a4), some (.int a5)] [] SI4 SJ4 (QI Q)
    refine gj_goq gj_clT ok_206 [20, 25, 30, 36, 42] ?_
    show gj_Do E om0 (gj_mt 205) [(.ref 81), (.int a3)] SI4 SJ4 _
    refine gj_Do.mono q3 (fun v_ SI6 SJ6 h_ => ?_)
    obtain ⟨rfl, q4⟩ := h_
    show gj_Goes E om0 mt_206 30 [some (.ref 81), some (.int a1), some (.int a2), some (.int a3), some (.int a4), some (.int a5)] [] SI6 SJ6 (QI Q)
    refine gj_goq gj_clT ok_206 [20, 25, 30, 36, 42] ?_
    show gj_Do E om0 (gj_mt 205) [(.ref 81), (.int a4)] SI6 SJ6 _
    refine gj_Do.mono q4 (fun v_ SI8 SJ8 h_ => ?_)
    obtain ⟨rfl, q5⟩ := h_
    show gj_Goes E om0 mt_206 36 [some (.ref 81), some (.int a1), some (.int a2), some (.int a3), some (.int a4), some (.int a5)] [] SI8 SJ8 (QI Q)
    refine gj_goq gj_clT ok_206 [20, 25, 30, 36, 42] ?_
    show gj_Do E om0 (gj_mt 205) [(.ref 81), (.int a5)] SI8 SJ8 _
    refine gj_Do.mono q5 (fun v_ SI10 SJ10 h_ => ?_)
    obtain ⟨rfl, q6⟩ := h_
    show gj_Goes E om0 mt_206 42 [some (.ref 81), some (.int a1), some (.int a2), some (.int a3), some (.int a4), some (.int a5)] [] SI10 SJ10 (QI Q)
    refine gj_goq gj_clT ok_206 [20, 25, 30, 36, 42] ?_
    show QI Q (some (.int (SI10 81 13))) SI10 SJ10
    exact ⟨_, rfl, q6⟩
  · exact ⟨_, rfl, (h.2 c1)⟩
set_option maxRecDepth 20000 in
/-- GraspJudgeModel.here -/
theorem st_207 {E : gj_E} {Q : Int32 → gj_I → gj_J → Prop} (SI : gj_I) (SJ : gj_J) (h : ((SI 81 15) ≤ (SI 81 14) → Q (i3 (-1)) SI SJ) ∧ (¬ (SI 81 15) ≤ (SI 81 14) → vp_in (SI 81 14) 240 ∧ (Q ((SI 89 (gj_n (SI 81 14))) &&& (i3 255)) SI SJ))) : DoI E 207 [(.ref 81)] SI SJ Q := by
  refine gj_start (M := mt_207) ok_207 (Nat.le_of_ble_eq_true rfl) ?_
  refine gj_goq gj_clT ok_207 [] ?_
  show ((SI 81 15) ≤ (SI 81 14) → gj_Goes E om0 mt_207 27 [some (.ref 81)] [] SI SJ (QI Q)) ∧ (¬ (SI 81 15) ≤ (SI 81 14) → vp_in (SI 81 14) 240 ∧ (gj_Goes E om0 mt_207 28 [some (.ref 81)] [(.int ((SI 89 (gj_n (SI 81 14))) &&& (i3 255)))] SI SJ (QI Q)))
  refine ⟨fun c1 => ?_, fun c1 => ?_⟩
  · refine gj_goq gj_clT ok_207 [] ?_
    show QI Q (some (.int (i3 (-1)))) SI SJ
    exact ⟨_, rfl, (h.1 c1)⟩
  · have k2 := (h.2 c1).1
    refine ⟨k2, ?_⟩
    refine gj_goq gj_clT ok_207 [] ?_
    show QI Q (some (.int ((SI 89 (gj_n (SI 81 14))) &&& (i3 255)))) SI SJ
    exact ⟨_, rfl, (h.2 c1).2⟩
set_option maxRecDepth 20000 in
/-- GraspJudgeModel.isDigit -/
theorem st_208 {E : gj_E} {Q : Int32 → gj_I → gj_J → Prop} (SI : gj_I) (SJ : gj_J) (h : DoI E 207 [(.ref 81)] SI SJ (fun r1 SI2 SJ2 => DoI E 155 [(.long (r1).toInt64), (.long (i6 48)), (.long (i6 57))] SI2 SJ2 (fun r3 SI4 SJ4 => (r3 = 0 ∨ r3 = 1) ∧ (Q r3 SI4 SJ4)))) : DoI E 208 [(.ref 81)] SI SJ Q := by
  refine gj_start (M := mt_208) ok_208 (Nat.le_of_ble_eq_true rfl) ?_
  refine gj_goq gj_clT ok_208 [4, 14] ?_
  show gj_Do E om0 (gj_mt 207) [(.ref 81)] SI SJ _
  refine gj_Do.mono h (fun v_ SI2 SJ2 h_ => ?_)
  obtain ⟨r1, rfl, q1⟩ := h_
  show gj_Goes E om0 mt_208 4 [some (.ref 81)] [(.int r1)] SI2 SJ2 (QI Q)
  refine gj_goq gj_clT ok_208 [4, 14] ?_
  show gj_Do E om0 (gj_mt 155) [(.long (r1).toInt64), (.long (i6 48)), (.long (i6 57))] SI2 SJ2 _
  refine gj_Do.mono q1 (fun v_ SI4 SJ4 h_ => ?_)
  obtain ⟨r3, rfl, q2⟩ := h_
  show gj_Goes E om0 mt_208 14 [some (.ref 81)] [(.int r3)] SI4 SJ4 (QI Q)
  refine gj_goq gj_clT ok_208 [4, 14] ?_
  show (r3 = 0 ∨ r3 = 1) ∧ (QI Q (some (.int r3)) SI4 SJ4)
  have k3 := q2.1
  refine ⟨k3, ?_⟩
  exact ⟨_, rfl, q2.2⟩
set_option maxRecDepth 20000 in
/-- GraspJudgeModel.wrongAt -/
theorem st_209 {E : gj_E} {Q : Int32 → gj_I → gj_J → Prop} (a1 : Int32) (a2 : Int32) (SI : gj_I) (SJ : gj_J) (h : Q (i3 0) (gj_u2 SI 81 16 (((i3 (-1000)) * a1) - a2)) SJ) : DoI E 209 [(.ref 81), (.int a1), (.int a2)] SI SJ Q := by
  refine gj_start (M := mt_209) ok_209 (Nat.le_of_ble_eq_true rfl) ?_
  refine gj_goq gj_clT ok_209 [] ?_
  show ((i3 0) = 0 ∨ (i3 0) = 1) ∧ (QI Q (some (.int (i3 0))) (gj_u2 SI 81 16 (((i3 (-1000)) * a1) - a2)) SJ)
  refine ⟨(Or.inl rfl), ?_⟩
  exact ⟨_, rfl, h⟩
set_option maxRecDepth 20000 in
/-- GraspJudgeModel.takesSign -/
theorem st_210 {E : gj_E} {Q : Int32 → gj_I → gj_J → Prop} (a1 : Int32) (SI : gj_I) (SJ : gj_J) (h : DoI E 207 [(.ref 81)] SI SJ (fun r1 SI2 SJ2 => (r1 = a1 → Q (i3 1) (gj_u2 SI2 81 14 ((SI2 81 14) + (i3 1))) SJ2) ∧ (¬ r1 = a1 → DoI E 209 [(.ref 81), (.int (i3 1)), (.int (SI2 81 14))] SI2 SJ2 (fun r3 SI4 SJ4 => (r3 = 0 ∨ r3 = 1) ∧ (Q r3 SI4 SJ4))))) : DoI E 210 [(.ref 81), (.int a1)] SI SJ Q := by
  refine gj_start (M := mt_210) ok_210 (Nat.le_of_ble_eq_true rfl) ?_
  refine gj_goq gj_clT ok_210 [4, 17] ?_
  show gj_Do E om0 (gj_mt 207) [(.ref 81)] SI SJ _
  refine gj_Do.mono h (fun v_ SI2 SJ2 h_ => ?_)
  obtain ⟨r1, rfl, q1⟩ := h_
  show gj_Goes E om0 mt_210 4 [some (.ref 81), some (.int a1)] [(.int r1)] SI2 SJ2 (QI Q)
  refine gj_goq gj_clT ok_210 [4, 17] ?_
  show (r1 = a1 → gj_Goes E om0 mt_210 18 [some (.ref 81), some (.int a1)] [] SI2 SJ2 (QI Q)) ∧ (¬ r1 = a1 → gj_Do E om0 (gj_mt 209) [(.ref 81), (.int (i3 1)), (.int (SI2 81 14))] SI2 SJ2 _)
  refine ⟨fun c2 => ?_, fun c2 => ?_⟩
  · refine gj_goq gj_clT ok_210 [4, 17] ?_
    show ((i3 1) = 0 ∨ (i3 1) = 1) ∧ (QI Q (some (.int (i3 1))) (gj_u2 SI2 81 14 ((SI2 81 14) + (i3 1))) SJ2)
    refine ⟨(Or.inr rfl), ?_⟩
    exact ⟨_, rfl, (q1.1 c2)⟩
  · refine gj_Do.mono (q1.2 c2) (fun v_ SI4 SJ4 h_ => ?_)
    obtain ⟨r3, rfl, q3⟩ := h_
    show gj_Goes E om0 mt_210 17 [some (.ref 81), some (.int a1)] [(.int r3)] SI4 SJ4 (QI Q)
    refine gj_goq gj_clT ok_210 [4, 17] ?_
    show (r3 = 0 ∨ r3 = 1) ∧ (QI Q (some (.int r3)) SI4 SJ4)
    have k4 := q3.1
    refine ⟨k4, ?_⟩
    exact ⟨_, rfl, q3.2⟩
set_option maxRecDepth 20000 in
/-- GraspJudgeModel.readsNumber -/
theorem st_211 {E : gj_E} {Q : Int32 → gj_I → gj_J → Prop} (a1 : Int32) (a2 : Int32) (SI : gj_I) (SJ : gj_J) (h : (a2 = 0 → ((i3 0) = 0 → DoI E 208 [(.ref 81)] SI SJ (fun r1 SI2 SJ2 => (¬ r1 = 0 → GoI E mt_211 61 [some (.ref 81), some (.int a1), none, some (.int (i3 0)), some (.int (SI 81 14))] (gj_u2 SI2 81 17 (i3 0)) SJ2 Q) ∧ (r1 = 0 → DoI E 209 [(.ref 81), (.int (i3 1)), (.int (SI2 81 14))] SI2 SJ2 (fun r3 SI4 SJ4 => (r3 = 0 ∨ r3 = 1) ∧ (Q r3 SI4 SJ4))))) ∧ (¬ (i3 0) = 0 → DoI E 208 [(.ref 81)] (gj_u2 SI 81 14 ((SI 81 14) + (i3 1))) SJ (fun r5 SI6 SJ6 => (¬ r5 = 0 → GoI E mt_211 61 [some (.ref 81), some (.int a1), none, some (.int (i3 0)), some (.int ((SI 81 14) + (i3 1)))] (gj_u2 SI6 81 17 (i3 0)) SJ6 Q) ∧ (r5 = 0 → DoI E 209 [(.ref 81), (.int (i3 1)), (.int (SI6 81 14))] SI6 SJ6 (fun r7 SI8 SJ8 => (r7 = 0 ∨ r7 = 1) ∧ (Q r7 SI8 SJ8)))))) ∧ (¬ a2 = 0 → DoI E 207 [(.ref 81)] SI SJ (fun r9 SI10 SJ10 => (¬ r9 = (i3 45) → ((i3 0) = 0 → DoI E 208 [(.ref 81)] SI10 SJ10 (fun r11 SI12 SJ12 => (¬ r11 = 0 → GoI E mt_211 61 [some (.ref 81), some (.int a1), none, some (.int (i3 0)), some (.int (SI10 81 14))] (gj_u2 SI12 81 17 (i3 0)) SJ12 Q) ∧ (r11 = 0 → DoI E 209 [(.ref 81), (.int (i3 1)), (.int (SI12 81 14))] SI12 SJ12 (fun r13 SI14 SJ14 => (r13 = 0 ∨ r13 = 1) ∧ (Q r13 SI14 SJ14))))) ∧ (¬ (i3 0) = 0 → DoI E 208 [(.ref 81)] (gj_u2 SI10 81 14 ((SI10 81 14) + (i3 1))) SJ10 (fun r15 SI16 SJ16 => (¬ r15 = 0 → GoI E mt_211 61 [some (.ref 81), some (.int a1), none, some (.int (i3 0)), some (.int ((SI10 81 14) + (i3 1)))] (gj_u2 SI16 81 17 (i3 0)) SJ16 Q) ∧ (r15 = 0 → DoI E 209 [(.ref 81), (.int (i3 1)), (.int (SI16 81 14))] SI16 SJ16 (fun r17 SI18 SJ18 => (r17 = 0 ∨ r17 = 1) ∧ (Q r17 SI18 SJ18)))))) ∧ (r9 = (i3 45) → ((i3 1) = 0 → DoI E 208 [(.ref 81)] SI10 SJ10 (fun r19 SI20 SJ20 => (¬ r19 = 0 → GoI E mt_211 61 [some (.ref 81), some (.int a1), none, some (.int (i3 1)), some (.int (SI10 81 14))] (gj_u2 SI20 81 17 (i3 0)) SJ20 Q) ∧ (r19 = 0 → DoI E 209 [(.ref 81), (.int (i3 1)), (.int (SI20 81 14))] SI20 SJ20 (fun r21 SI22 SJ22 => (r21 = 0 ∨ r21 = 1) ∧ (Q r21 SI22 SJ22))))) ∧ (¬ (i3 1) = 0 → DoI E 208 [(.ref 81)] (gj_u2 SI10 81 14 ((SI10 81 14) + (i3 1))) SJ10 (fun r23 SI24 SJ24 => (¬ r23 = 0 → GoI E mt_211 61 [some (.ref 81), some (.int a1), none, some (.int (i3 1)), some (.int ((SI10 81 14) + (i3 1)))] (gj_u2 SI24 81 17 (i3 0)) SJ24 Q) ∧ (r23 = 0 → DoI E 209 [(.ref 81), (.int (i3 1)), (.int (SI24 81 14))] SI24 SJ24 (fun r25 SI26 SJ26 => (r25 = 0 ∨ r25 = 1) ∧ (Q r25 SI26 SJ26))))))))) : DoI E 211 [(.ref 81), (.int a1), (.int a2)] SI SJ Q := by
  refine gj_start (M := mt_211) ok_211 (Nat.le_of_ble_eq_true rfl) ?_
  refine gj_goq gj_clT ok_211 [8, 43, 55, 61, 65, 97, 110] ?_
  show (a2 = 0 → gj_Goes E om0 mt_211 17 [some (.ref 81), some (.int a1), some (.int a2), none, none] [] SI SJ (QI Q)) ∧ (¬ a2 = 0 → gj_Do E om0 (gj_mt 207) [(.ref 81)] SI SJ _)
  refine ⟨fun c1 => ?_, fun c1 => ?_⟩
  · refine gj_goq gj_clT ok_211 [8, 43, 55, 61, 65, 97, 110] ?_
    show ((i3 0) = 0 → gj_Goes E om0 mt_211 33 [some (.ref 81), some (.int a1), some (.int a2), some (.int (i3 0)), none] [] SI SJ (QI Q)) ∧ (¬ (i3 0) = 0 → gj_Do E om0 (gj_mt 208) [(.ref 81)] (gj_u2 SI 81 14 ((SI 81 14) + (i3 1))) SJ _)
    refine ⟨fun c2 => ?_, fun c2 => ?_⟩
    · refine gj_goq gj_clT ok_211 [8, 43, 55, 61, 65, 97, 110] ?_
      show gj_Do E om0 (gj_mt 208) [(.ref 81)] SI SJ _
      refine gj_Do.mono ((h.1 c1).1 c2) (fun v_ SI2 SJ2 h_ => ?_)
      obtain ⟨r1, rfl, q3⟩ := h_
      show gj_Goes E om0 mt_211 43 [some (.ref 81), some (.int a1), some (.int a2), some (.int (i3 0)), some (.int (SI 81 14))] [(.int r1)] SI2 SJ2 (QI Q)
      refine gj_goq gj_clT ok_211 [8, 43, 55, 61, 65, 97, 110] ?_
      show (¬ r1 = 0 → gj_Goes E om0 mt_211 56 [some (.ref 81), some (.int a1), some (.int a2), some (.int (i3 0)), some (.int (SI 81 14))] [] SI2 SJ2 (QI Q)) ∧ (r1 = 0 → gj_Do E om0 (gj_mt 209) [(.ref 81), (.int (i3 1)), (.int (SI2 81 14))] SI2 SJ2 _)
      refine ⟨fun c4 => ?_, fun c4 => ?_⟩
      · refine gj_goq gj_clT ok_211 [8, 43, 55, 61, 65, 97, 110] ?_
        show gj_Goes E om0 mt_211 61 [some (.ref 81), some (.int a1), some (.int a2), some (.int (i3 0)), some (.int (SI 81 14))] [] (gj_u2 SI2 81 17 (i3 0)) SJ2 (QI Q)
        exact gj_fh (q3.1 c4) (And.intro (Or.inr rfl) (And.intro (Or.inr rfl) (And.intro (Or.inl rfl) (And.intro (Or.inr rfl) (And.intro (Or.inr rfl) trivial)))))
      · refine gj_Do.mono (q3.2 c4) (fun v_ SI4 SJ4 h_ => ?_)
        obtain ⟨r3, rfl, q5⟩ := h_
        show gj_Goes E om0 mt_211 55 [some (.ref 81), some (.int a1), some (.int a2), some (.int (i3 0)), some (.int (SI 81 14))] [(.int r3)] SI4 SJ4 (QI Q)
        refine gj_goq gj_clT ok_211 [8, 43, 55, 61, 65, 97, 110] ?_
        show (r3 = 0 ∨ r3 = 1) ∧ (QI Q (some (.int r3)) SI4 SJ4)
        have k6 := q5.1
        refine ⟨k6, ?_⟩
        exact ⟨_, rfl, q5.2⟩
    · refine gj_Do.mono ((h.1 c1).2 c2) (fun v_ SI6 SJ6 h_ => ?_)
      obtain ⟨r5, rfl, q7⟩ := h_
      show gj_Goes E om0 mt_211 43 [some (.ref 81), some (.int a1), some (.int a2), some (.int (i3 0)), some (.int ((SI 81 14) + (i3 1)))] [(.int r5)] SI6 SJ6 (QI Q)
      refine gj_goq gj_clT ok_211 [8, 43, 55, 61, 65, 97, 110] ?_
      show (¬ r5 = 0 → gj_Goes E om0 mt_211 56 [some (.ref 81), some (.int a1), some (.int a2), some (.int (i3 0)), some (.int ((SI 81 14) + (i3 1)))] [] SI6 SJ6 (QI Q)) ∧ (r5 = 0 → gj_Do E om0 (gj_mt 209) [(.ref 81), (.int (i3 1)), (.int (SI6 81 14))] SI6 SJ6 _)
      refine ⟨fun c8 => ?_, fun c8 => ?_⟩
      · refine gj_goq gj_clT ok_211 [8, 43, 55, 61, 65, 97, 110] ?_
        show gj_Goes E om0 mt_211 61 [some (.ref 81), some (.int a1), some (.int a2), some (.int (i3 0)), some (.int ((SI 81 14) + (i3 1)))] [] (gj_u2 SI6 81 17 (i3 0)) SJ6 (QI Q)
        exact gj_fh (q7.1 c8) (And.intro (Or.inr rfl) (And.intro (Or.inr rfl) (And.intro (Or.inl rfl) (And.intro (Or.inr rfl) (And.intro (Or.inr rfl) trivial)))))
      · refine gj_Do.mono (q7.2 c8) (fun v_ SI8 SJ8 h_ => ?_)
        obtain ⟨r7, rfl, q9⟩ := h_
        show gj_Goes E om0 mt_211 55 [some (.ref 81), some (.int a1), some (.int a2), some (.int (i3 0)), some (.int ((SI 81 14) + (i3 1)))] [(.int r7)] SI8 SJ8 (QI Q)
        refine gj_goq gj_clT ok_211 [8, 43, 55, 61, 65, 97, 110] ?_
        show (r7 = 0 ∨ r7 = 1) ∧ (QI Q (some (.int r7)) SI8 SJ8)
        have k10 := q9.1
        refine ⟨k10, ?_⟩
        exact ⟨_, rfl, q9.2⟩
  · refine gj_Do.mono (h.2 c1) (fun v_ SI10 SJ10 h_ => ?_)
    obtain ⟨r9, rfl, q11⟩ := h_
    show gj_Goes E om0 mt_211 8 [some (.ref 81), some (.int a1), some (.int a2), none, none] [(.int r9)] SI10 SJ10 (QI Q)
    refine gj_goq gj_clT ok_211 [8, 43, 55, 61, 65, 97, 110] ?_
    show (¬ r9 = (i3 45) → gj_Goes E om0 mt_211 17 [some (.ref 81), some (.int a1), some (.int a2), none, none] [] SI10 SJ10 (QI Q)) ∧ (r9 = (i3 45) → gj_Goes E om0 mt_211 18 [some (.ref 81), some (.int a1), some (.int a2), none, none] [(.int (i3 1))] SI10 SJ10 (QI Q))
    refine ⟨fun c12 => ?_, fun c12 => ?_⟩
    · refine gj_goq gj_clT ok_211 [8, 43, 55, 61, 65, 97, 110] ?_
      show ((i3 0) = 0 → gj_Goes E om0 mt_211 33 [some (.ref 81), some (.int a1), some (.int a2), some (.int (i3 0)), none] [] SI10 SJ10 (QI Q)) ∧ (¬ (i3 0) = 0 → gj_Do E om0 (gj_mt 208) [(.ref 81)] (gj_u2 SI10 81 14 ((SI10 81 14) + (i3 1))) SJ10 _)
      refine ⟨fun c13 => ?_, fun c13 => ?_⟩
      · refine gj_goq gj_clT ok_211 [8, 43, 55, 61, 65, 97, 110] ?_
        show gj_Do E om0 (gj_mt 208) [(.ref 81)] SI10 SJ10 _
        refine gj_Do.mono ((q11.1 c12).1 c13) (fun v_ SI12 SJ12 h_ => ?_)
        obtain ⟨r11, rfl, q14⟩ := h_
        show gj_Goes E om0 mt_211 43 [some (.ref 81), some (.int a1), some (.int a2), some (.int (i3 0)), some (.int (SI10 81 14))] [(.int r11)] SI12 SJ12 (QI Q)
        refine gj_goq gj_clT ok_211 [8, 43, 55, 61, 65, 97, 110] ?_
        show (¬ r11 = 0 → gj_Goes E om0 mt_211 56 [some (.ref 81), some (.int a1), some (.int a2), some (.int (i3 0)), some (.int (SI10 81 14))] [] SI12 SJ12 (QI Q)) ∧ (r11 = 0 → gj_Do E om0 (gj_mt 209) [(.ref 81), (.int (i3 1)), (.int (SI12 81 14))] SI12 SJ12 _)
        refine ⟨fun c15 => ?_, fun c15 => ?_⟩
        · refine gj_goq gj_clT ok_211 [8, 43, 55, 61, 65, 97, 110] ?_
          show gj_Goes E om0 mt_211 61 [some (.ref 81), some (.int a1), some (.int a2), some (.int (i3 0)), some (.int (SI10 81 14))] [] (gj_u2 SI12 81 17 (i3 0)) SJ12 (QI Q)
          exact gj_fh (q14.1 c15) (And.intro (Or.inr rfl) (And.intro (Or.inr rfl) (And.intro (Or.inl rfl) (And.intro (Or.inr rfl) (And.intro (Or.inr rfl) trivial)))))
        · refine gj_Do.mono (q14.2 c15) (fun v_ SI14 SJ14 h_ => ?_)
          obtain ⟨r13, rfl, q16⟩ := h_
          show gj_Goes E om0 mt_211 55 [some (.ref 81), some (.int a1), some (.int a2), some (.int (i3 0)), some (.int (SI10 81 14))] [(.int r13)] SI14 SJ14 (QI Q)
          refine gj_goq gj_clT ok_211 [8, 43, 55, 61, 65, 97, 110] ?_
          show (r13 = 0 ∨ r13 = 1) ∧ (QI Q (some (.int r13)) SI14 SJ14)
          have k17 := q16.1
          refine ⟨k17, ?_⟩
          exact ⟨_, rfl, q16.2⟩
      · refine gj_Do.mono ((q11.1 c12).2 c13) (fun v_ SI16 SJ16 h_ => ?_)
        obtain ⟨r15, rfl, q18⟩ := h_
        show gj_Goes E om0 mt_211 43 [some (.ref 81), some (.int a1), some (.int a2), some (.int (i3 0)), some (.int ((SI10 81 14) + (i3 1)))] [(.int r15)] SI16 SJ16 (QI Q)
        refine gj_goq gj_clT ok_211 [8, 43, 55, 61, 65, 97, 110] ?_
        show (¬ r15 = 0 → gj_Goes E om0 mt_211 56 [some (.ref 81), some (.int a1), some (.int a2), some (.int (i3 0)), some (.int ((SI10 81 14) + (i3 1)))] [] SI16 SJ16 (QI Q)) ∧ (r15 = 0 → gj_Do E om0 (gj_mt 209) [(.ref 81), (.int (i3 1)), (.int (SI16 81 14))] SI16 SJ16 _)
        refine ⟨fun c19 => ?_, fun c19 => ?_⟩
        · refine gj_goq gj_clT ok_211 [8, 43, 55, 61, 65, 97, 110] ?_
          show gj_Goes E om0 mt_211 61 [some (.ref 81), some (.int a1), some (.int a2), some (.int (i3 0)), some (.int ((SI10 81 14) + (i3 1)))] [] (gj_u2 SI16 81 17 (i3 0)) SJ16 (QI Q)
          exact gj_fh (q18.1 c19) (And.intro (Or.inr rfl) (And.intro (Or.inr rfl) (And.intro (Or.inl rfl) (And.intro (Or.inr rfl) (And.intro (Or.inr rfl) trivial)))))
        · refine gj_Do.mono (q18.2 c19) (fun v_ SI18 SJ18 h_ => ?_)
          obtain ⟨r17, rfl, q20⟩ := h_
          show gj_Goes E om0 mt_211 55 [some (.ref 81), some (.int a1), some (.int a2), some (.int (i3 0)), some (.int ((SI10 81 14) + (i3 1)))] [(.int r17)] SI18 SJ18 (QI Q)
          refine gj_goq gj_clT ok_211 [8, 43, 55, 61, 65, 97, 110] ?_
          show (r17 = 0 ∨ r17 = 1) ∧ (QI Q (some (.int r17)) SI18 SJ18)
          have k21 := q20.1
          refine ⟨k21, ?_⟩
          exact ⟨_, rfl, q20.2⟩
    · refine gj_goq gj_clT ok_211 [8, 43, 55, 61, 65, 97, 110] ?_
      show ((i3 1) = 0 → gj_Goes E om0 mt_211 33 [some (.ref 81), some (.int a1), some (.int a2), some (.int (i3 1)), none] [] SI10 SJ10 (QI Q)) ∧ (¬ (i3 1) = 0 → gj_Do E om0 (gj_mt 208) [(.ref 81)] (gj_u2 SI10 81 14 ((SI10 81 14) + (i3 1))) SJ10 _)
      refine ⟨fun c22 => ?_, fun c22 => ?_⟩
      · refine gj_goq gj_clT ok_211 [8, 43, 55, 61, 65, 97, 110] ?_
        show gj_Do E om0 (gj_mt 208) [(.ref 81)] SI10 SJ10 _
        refine gj_Do.mono ((q11.2 c12).1 c22) (fun v_ SI20 SJ20 h_ => ?_)
        obtain ⟨r19, rfl, q23⟩ := h_
        show gj_Goes E om0 mt_211 43 [some (.ref 81), some (.int a1), some (.int a2), some (.int (i3 1)), some (.int (SI10 81 14))] [(.int r19)] SI20 SJ20 (QI Q)
        refine gj_goq gj_clT ok_211 [8, 43, 55, 61, 65, 97, 110] ?_
        show (¬ r19 = 0 → gj_Goes E om0 mt_211 56 [some (.ref 81), some (.int a1), some (.int a2), some (.int (i3 1)), some (.int (SI10 81 14))] [] SI20 SJ20 (QI Q)) ∧ (r19 = 0 → gj_Do E om0 (gj_mt 209) [(.ref 81), (.int (i3 1)), (.int (SI20 81 14))] SI20 SJ20 _)
        refine ⟨fun c24 => ?_, fun c24 => ?_⟩
        · refine gj_goq gj_clT ok_211 [8, 43, 55, 61, 65, 97, 110] ?_
          show gj_Goes E om0 mt_211 61 [some (.ref 81), some (.int a1), some (.int a2), some (.int (i3 1)), some (.int (SI10 81 14))] [] (gj_u2 SI20 81 17 (i3 0)) SJ20 (QI Q)
          exact gj_fh (q23.1 c24) (And.intro (Or.inr rfl) (And.intro (Or.inr rfl) (And.intro (Or.inl rfl) (And.intro (Or.inr rfl) (And.intro (Or.inr rfl) trivial)))))
        · refine gj_Do.mono (q23.2 c24) (fun v_ SI22 SJ22 h_ => ?_)
          obtain ⟨r21, rfl, q25⟩ := h_
          show gj_Goes E om0 mt_211 55 [some (.ref 81), some (.int a1), some (.int a2), some (.int (i3 1)), some (.int (SI10 81 14))] [(.int r21)] SI22 SJ22 (QI Q)
          refine gj_goq gj_clT ok_211 [8, 43, 55, 61, 65, 97, 110] ?_
          show (r21 = 0 ∨ r21 = 1) ∧ (QI Q (some (.int r21)) SI22 SJ22)
          have k26 := q25.1
          refine ⟨k26, ?_⟩
          exact ⟨_, rfl, q25.2⟩
      · refine gj_Do.mono ((q11.2 c12).2 c22) (fun v_ SI24 SJ24 h_ => ?_)
        obtain ⟨r23, rfl, q27⟩ := h_
        show gj_Goes E om0 mt_211 43 [some (.ref 81), some (.int a1), some (.int a2), some (.int (i3 1)), some (.int ((SI10 81 14) + (i3 1)))] [(.int r23)] SI24 SJ24 (QI Q)
        refine gj_goq gj_clT ok_211 [8, 43, 55, 61, 65, 97, 110] ?_
        show (¬ r23 = 0 → gj_Goes E om0 mt_211 56 [some (.ref 81), some (.int a1), some (.int a2), some (.int (i3 1)), some (.int ((SI10 81 14) + (i3 1)))] [] SI24 SJ24 (QI Q)) ∧ (r23 = 0 → gj_Do E om0 (gj_mt 209) [(.ref 81), (.int (i3 1)), (.int (SI24 81 14))] SI24 SJ24 _)
        refine ⟨fun c28 => ?_, fun c28 => ?_⟩
        · refine gj_goq gj_clT ok_211 [8, 43, 55, 61, 65, 97, 110] ?_
          show gj_Goes E om0 mt_211 61 [some (.ref 81), some (.int a1), some (.int a2), some (.int (i3 1)), some (.int ((SI10 81 14) + (i3 1)))] [] (gj_u2 SI24 81 17 (i3 0)) SJ24 (QI Q)
          exact gj_fh (q27.1 c28) (And.intro (Or.inr rfl) (And.intro (Or.inr rfl) (And.intro (Or.inl rfl) (And.intro (Or.inr rfl) (And.intro (Or.inr rfl) trivial)))))
        · refine gj_Do.mono (q27.2 c28) (fun v_ SI26 SJ26 h_ => ?_)
          obtain ⟨r25, rfl, q29⟩ := h_
          show gj_Goes E om0 mt_211 55 [some (.ref 81), some (.int a1), some (.int a2), some (.int (i3 1)), some (.int ((SI10 81 14) + (i3 1)))] [(.int r25)] SI26 SJ26 (QI Q)
          refine gj_goq gj_clT ok_211 [8, 43, 55, 61, 65, 97, 110] ?_
          show (r25 = 0 ∨ r25 = 1) ∧ (QI Q (some (.int r25)) SI26 SJ26)
          have k30 := q29.1
          refine ⟨k30, ?_⟩
          exact ⟨_, rfl, q29.2⟩
set_option maxRecDepth 20000 in
theorem lp_211_61 {E : gj_E} {Q : Int32 → gj_I → gj_J → Prop} (x1 : Int32) (x3 : Int32) (x4 : Int32) (SI : gj_I) (SJ : gj_J) (h : DoI E 208 [(.ref 81)] SI SJ (fun r1 SI2 SJ2 => (r1 = 0 → (x3 = 0 → Q (i3 1) SI2 SJ2) ∧ (¬ x3 = 0 → Q (i3 1) (gj_u2 SI2 81 17 (-(SI2 81 17))) SJ2)) ∧ (¬ r1 = 0 → (¬ (SI2 81 14) = (x4 + x1) → DoI E 207 [(.ref 81)] SI2 SJ2 (fun r3 SI4 SJ4 => GoI E mt_211 61 [some (.ref 81), some (.int x1), none, some (.int x3), some (.int x4)] (gj_u2 (gj_u2 SI4 81 17 ((((i3 10) * (SI2 81 17)) + r3) - (i3 48))) 81 14 ((SI4 81 14) + (i3 1))) SJ4 Q)) ∧ ((SI2 81 14) = (x4 + x1) → (¬ x1 = (i3 1) → DoI E 209 [(.ref 81), (.int (i3 2)), (.int (SI2 81 14))] SI2 SJ2 (fun r5 SI6 SJ6 => (r5 = 0 ∨ r5 = 1) ∧ (Q r5 SI6 SJ6))) ∧ (x1 = (i3 1) → Q (i3 1) SI2 SJ2))))) : GoI E mt_211 61 [some (.ref 81), some (.int x1), none, some (.int x3), some (.int x4)] SI SJ Q := by
  refine gj_goq gj_clT ok_211 [8, 43, 55, 61, 65, 97, 110] ?_
  show gj_Do E om0 (gj_mt 208) [(.ref 81)] SI SJ _
  refine gj_Do.mono h (fun v_ SI2 SJ2 h_ => ?_)
  obtain ⟨r1, rfl, q1⟩ := h_
  show gj_Goes E om0 mt_211 65 [some (.ref 81), some (.int x1), none, some (.int x3), some (.int x4)] [(.int r1)] SI2 SJ2 (QI Q)
  refine gj_goq gj_clT ok_211 [8, 43, 55, 61, 65, 97, 110] ?_
  show (r1 = 0 → gj_Goes E om0 mt_211 130 [some (.ref 81), some (.int x1), none, some (.int x3), some (.int x4)] [] SI2 SJ2 (QI Q)) ∧ (¬ r1 = 0 → (¬ (SI2 81 14) = (x4 + x1) → gj_Goes E om0 mt_211 98 [some (.ref 81), some (.int x1), none, some (.int x3), some (.int x4)] [] SI2 SJ2 (QI Q)) ∧ ((SI2 81 14) = (x4 + x1) → (¬ x1 = (i3 1) → gj_Goes E om0 mt_211 88 [some (.ref 81), some (.int x1), none, some (.int x3), some (.int x4)] [] SI2 SJ2 (QI Q)) ∧ (x1 = (i3 1) → gj_Goes E om0 mt_211 97 [some (.ref 81), some (.int x1), none, some (.int x3), some (.int x4)] [(.int (i3 1))] SI2 SJ2 (QI Q))))
  refine ⟨fun c2 => ?_, fun c2 => ?_⟩
  · refine gj_goq gj_clT ok_211 [8, 43, 55, 61, 65, 97, 110] ?_
    show (x3 = 0 → gj_Goes E om0 mt_211 143 [some (.ref 81), some (.int x1), none, some (.int x3), some (.int x4)] [] SI2 SJ2 (QI Q)) ∧ (¬ x3 = 0 → ((i3 1) = 0 ∨ (i3 1) = 1) ∧ (QI Q (some (.int (i3 1))) (gj_u2 SI2 81 17 (-(SI2 81 17))) SJ2))
    refine ⟨fun c3 => ?_, fun c3 => ?_⟩
    · refine gj_goq gj_clT ok_211 [8, 43, 55, 61, 65, 97, 110] ?_
      show ((i3 1) = 0 ∨ (i3 1) = 1) ∧ (QI Q (some (.int (i3 1))) SI2 SJ2)
      refine ⟨(Or.inr rfl), ?_⟩
      exact ⟨_, rfl, ((q1.1 c2).1 c3)⟩
    · refine ⟨(Or.inr rfl), ?_⟩
      exact ⟨_, rfl, ((q1.1 c2).2 c3)⟩
  · refine ⟨fun c4 => ?_, fun c4 => ?_⟩
    · refine gj_goq gj_clT ok_211 [8, 43, 55, 61, 65, 97, 110] ?_
      show gj_Do E om0 (gj_mt 207) [(.ref 81)] SI2 SJ2 _
      refine gj_Do.mono ((q1.2 c2).1 c4) (fun v_ SI4 SJ4 h_ => ?_)
      obtain ⟨r3, rfl, q5⟩ := h_
      show gj_Goes E om0 mt_211 110 [some (.ref 81), some (.int x1), none, some (.int x3), some (.int x4)] [(.int r3), (.int ((i3 10) * (SI2 81 17))), (.ref 81)] SI4 SJ4 (QI Q)
      refine gj_goq gj_clT ok_211 [8, 43, 55, 61, 65, 97, 110] ?_
      show gj_Goes E om0 mt_211 61 [some (.ref 81), some (.int x1), none, some (.int x3), some (.int x4)] [] (gj_u2 (gj_u2 SI4 81 17 ((((i3 10) * (SI2 81 17)) + r3) - (i3 48))) 81 14 ((SI4 81 14) + (i3 1))) SJ4 (QI Q)
      exact q5
    · refine ⟨fun c6 => ?_, fun c6 => ?_⟩
      · refine gj_goq gj_clT ok_211 [8, 43, 55, 61, 65, 97, 110] ?_
        show gj_Do E om0 (gj_mt 209) [(.ref 81), (.int (i3 2)), (.int (SI2 81 14))] SI2 SJ2 _
        refine gj_Do.mono (((q1.2 c2).2 c4).1 c6) (fun v_ SI6 SJ6 h_ => ?_)
        obtain ⟨r5, rfl, q7⟩ := h_
        show gj_Goes E om0 mt_211 97 [some (.ref 81), some (.int x1), none, some (.int x3), some (.int x4)] [(.int r5)] SI6 SJ6 (QI Q)
        refine gj_goq gj_clT ok_211 [8, 43, 55, 61, 65, 97, 110] ?_
        show (r5 = 0 ∨ r5 = 1) ∧ (QI Q (some (.int r5)) SI6 SJ6)
        have k8 := q7.1
        refine ⟨k8, ?_⟩
        exact ⟨_, rfl, q7.2⟩
      · refine gj_goq gj_clT ok_211 [8, 43, 55, 61, 65, 97, 110] ?_
        show ((i3 1) = 0 ∨ (i3 1) = 1) ∧ (QI Q (some (.int (i3 1))) SI2 SJ2)
        refine ⟨(Or.inr rfl), ?_⟩
        exact ⟨_, rfl, (((q1.2 c2).2 c4).2 c6)⟩
set_option maxRecDepth 20000 in
/-- GraspJudgeModel.begins -/
theorem st_212 {E : gj_E} {Q : Int32 → gj_I → gj_J → Prop} (a1 : Int32) (a2 : Int32) (SI : gj_I) (SJ : gj_J) (h : DoI E 155 [(.long (a1).toInt64), (.long (i6 1)), (.long (a2).toInt64)] SI SJ (fun r1 SI2 SJ2 => (r1 = 0 → Q (i3 0) SI2 SJ2) ∧ (¬ r1 = 0 → (a1 ≤ (SI2 81 13) → Q (i3 1) (gj_u2 (gj_u2 (gj_u2 SI2 81 14 (i3 0)) 81 15 a1) 81 13 (i3 0)) SJ2) ∧ (¬ a1 ≤ (SI2 81 13) → Q (i3 0) SI2 SJ2)))) : DoI E 212 [(.ref 81), (.int a1), (.int a2)] SI SJ Q := by
  refine gj_start (M := mt_212) ok_212 (Nat.le_of_ble_eq_true rfl) ?_
  refine gj_goq gj_clT ok_212 [8] ?_
  show gj_Do E om0 (gj_mt 155) [(.long (a1).toInt64), (.long (i6 1)), (.long (a2).toInt64)] SI SJ _
  refine gj_Do.mono h (fun v_ SI2 SJ2 h_ => ?_)
  obtain ⟨r1, rfl, q1⟩ := h_
  show gj_Goes E om0 mt_212 8 [some (.ref 81), some (.int a1), some (.int a2)] [(.int r1)] SI2 SJ2 (QI Q)
  refine gj_goq gj_clT ok_212 [8] ?_
  show (r1 = 0 → gj_Goes E om0 mt_212 19 [some (.ref 81), some (.int a1), some (.int a2)] [] SI2 SJ2 (QI Q)) ∧ (¬ r1 = 0 → (a1 ≤ (SI2 81 13) → gj_Goes E om0 mt_212 21 [some (.ref 81), some (.int a1), some (.int a2)] [] SI2 SJ2 (QI Q)) ∧ (¬ a1 ≤ (SI2 81 13) → ((i3 0) = 0 ∨ (i3 0) = 1) ∧ (QI Q (some (.int (i3 0))) SI2 SJ2)))
  refine ⟨fun c2 => ?_, fun c2 => ?_⟩
  · refine gj_goq gj_clT ok_212 [8] ?_
    show ((i3 0) = 0 ∨ (i3 0) = 1) ∧ (QI Q (some (.int (i3 0))) SI2 SJ2)
    refine ⟨(Or.inl rfl), ?_⟩
    exact ⟨_, rfl, (q1.1 c2)⟩
  · refine ⟨fun c3 => ?_, fun c3 => ?_⟩
    · refine gj_goq gj_clT ok_212 [8] ?_
      show ((i3 1) = 0 ∨ (i3 1) = 1) ∧ (QI Q (some (.int (i3 1))) (gj_u2 (gj_u2 (gj_u2 SI2 81 14 (i3 0)) 81 15 a1) 81 13 (i3 0)) SJ2)
      refine ⟨(Or.inr rfl), ?_⟩
      exact ⟨_, rfl, ((q1.2 c2).1 c3)⟩
    · refine ⟨(Or.inl rfl), ?_⟩
      exact ⟨_, rfl, ((q1.2 c2).2 c3)⟩
set_option maxRecDepth 20000 in
/-- GraspJudgeModel.readsCorner -/
theorem st_213 {E : gj_E} {Q : Int32 → gj_I → gj_J → Prop} (SI : gj_I) (SJ : gj_J) (h : (¬ (SI 81 19) = (i3 8) → DoI E 211 [(.ref 81), (.int (i3 1)), (.int (i3 0))] SI SJ (fun r1 SI2 SJ2 => (¬ r1 = 0 → DoI E 210 [(.ref 81), (.int (i3 44))] SI2 SJ2 (fun r3 SI4 SJ4 => (r3 = 0 → Q (i3 0) SI4 SJ4) ∧ (¬ r3 = 0 → DoI E 211 [(.ref 81), (.int (i3 1)), (.int (i3 0))] SI4 SJ4 (fun r5 SI6 SJ6 => (¬ r5 = 0 → vp_in ((i3 2) * (SI6 81 19)) 40 ∧ (vp_in (((i3 2) * (SI6 81 19)) + (i3 1)) 40 ∧ (Q (i3 1) (gj_u2 (gj_u2 (gj_u2 SI6 90 (gj_n ((i3 2) * (SI6 81 19))) (SI2 81 17)) 90 (gj_n (((i3 2) * (SI6 81 19)) + (i3 1))) (SI6 81 17)) 81 19 ((SI6 81 19) + (i3 1))) SJ6))) ∧ (r5 = 0 → Q (i3 0) SI6 SJ6))))) ∧ (r1 = 0 → Q (i3 0) SI2 SJ2))) ∧ ((SI 81 19) = (i3 8) → DoI E 208 [(.ref 81)] SI SJ (fun r7 SI8 SJ8 => (r7 = 0 → DoI E 211 [(.ref 81), (.int (i3 1)), (.int (i3 0))] SI8 SJ8 (fun r9 SI10 SJ10 => (¬ r9 = 0 → DoI E 210 [(.ref 81), (.int (i3 44))] SI10 SJ10 (fun r11 SI12 SJ12 => (r11 = 0 → Q (i3 0) SI12 SJ12) ∧ (¬ r11 = 0 → DoI E 211 [(.ref 81), (.int (i3 1)), (.int (i3 0))] SI12 SJ12 (fun r13 SI14 SJ14 => (¬ r13 = 0 → vp_in ((i3 2) * (SI14 81 19)) 40 ∧ (vp_in (((i3 2) * (SI14 81 19)) + (i3 1)) 40 ∧ (Q (i3 1) (gj_u2 (gj_u2 (gj_u2 SI14 90 (gj_n ((i3 2) * (SI14 81 19))) (SI10 81 17)) 90 (gj_n (((i3 2) * (SI14 81 19)) + (i3 1))) (SI14 81 17)) 81 19 ((SI14 81 19) + (i3 1))) SJ14))) ∧ (r13 = 0 → Q (i3 0) SI14 SJ14))))) ∧ (r9 = 0 → Q (i3 0) SI10 SJ10))) ∧ (¬ r7 = 0 → DoI E 209 [(.ref 81), (.int (i3 4)), (.int (SI8 81 14))] SI8 SJ8 (fun r15 SI16 SJ16 => (r15 = 0 ∨ r15 = 1) ∧ (Q r15 SI16 SJ16)))))) : DoI E 213 [(.ref 81)] SI SJ Q := by
  refine gj_start (M := mt_213) ok_213 (Nat.le_of_ble_eq_true rfl) ?_
  refine gj_goq gj_clT ok_213 [13, 25, 32, 48, 57] ?_
  show (¬ (SI 81 19) = (i3 8) → gj_Goes E om0 mt_213 26 [some (.ref 81), none] [] SI SJ (QI Q)) ∧ ((SI 81 19) = (i3 8) → gj_Do E om0 (gj_mt 208) [(.ref 81)] SI SJ _)
  refine ⟨fun c1 => ?_, fun c1 => ?_⟩
  · refine gj_goq gj_clT ok_213 [13, 25, 32, 48, 57] ?_
    show gj_Do E om0 (gj_mt 211) [(.ref 81), (.int (i3 1)), (.int (i3 0))] SI SJ _
    refine gj_Do.mono (h.1 c1) (fun v_ SI2 SJ2 h_ => ?_)
    obtain ⟨r1, rfl, q2⟩ := h_
    show gj_Goes E om0 mt_213 32 [some (.ref 81), none] [(.int r1)] SI2 SJ2 (QI Q)
    refine gj_goq gj_clT ok_213 [13, 25, 32, 48, 57] ?_
    show (¬ r1 = 0 → gj_Goes E om0 mt_213 37 [some (.ref 81), none] [] SI2 SJ2 (QI Q)) ∧ (r1 = 0 → ((i3 0) = 0 ∨ (i3 0) = 1) ∧ (QI Q (some (.int (i3 0))) SI2 SJ2))
    refine ⟨fun c3 => ?_, fun c3 => ?_⟩
    · refine gj_goq gj_clT ok_213 [13, 25, 32, 48, 57] ?_
      show gj_Do E om0 (gj_mt 210) [(.ref 81), (.int (i3 44))] SI2 SJ2 _
      refine gj_Do.mono (q2.1 c3) (fun v_ SI4 SJ4 h_ => ?_)
      obtain ⟨r3, rfl, q4⟩ := h_
      show gj_Goes E om0 mt_213 48 [some (.ref 81), some (.int (SI2 81 17))] [(.int r3)] SI4 SJ4 (QI Q)
      refine gj_goq gj_clT ok_213 [13, 25, 32, 48, 57] ?_
      show (r3 = 0 → gj_Goes E om0 mt_213 60 [some (.ref 81), some (.int (SI2 81 17))] [] SI4 SJ4 (QI Q)) ∧ (¬ r3 = 0 → gj_Do E om0 (gj_mt 211) [(.ref 81), (.int (i3 1)), (.int (i3 0))] SI4 SJ4 _)
      refine ⟨fun c5 => ?_, fun c5 => ?_⟩
      · refine gj_goq gj_clT ok_213 [13, 25, 32, 48, 57] ?_
        show ((i3 0) = 0 ∨ (i3 0) = 1) ∧ (QI Q (some (.int (i3 0))) SI4 SJ4)
        refine ⟨(Or.inl rfl), ?_⟩
        exact ⟨_, rfl, (q4.1 c5)⟩
      · refine gj_Do.mono (q4.2 c5) (fun v_ SI6 SJ6 h_ => ?_)
        obtain ⟨r5, rfl, q6⟩ := h_
        show gj_Goes E om0 mt_213 57 [some (.ref 81), some (.int (SI2 81 17))] [(.int r5)] SI6 SJ6 (QI Q)
        refine gj_goq gj_clT ok_213 [13, 25, 32, 48, 57] ?_
        show (¬ r5 = 0 → gj_Goes E om0 mt_213 62 [some (.ref 81), some (.int (SI2 81 17))] [] SI6 SJ6 (QI Q)) ∧ (r5 = 0 → ((i3 0) = 0 ∨ (i3 0) = 1) ∧ (QI Q (some (.int (i3 0))) SI6 SJ6))
        refine ⟨fun c7 => ?_, fun c7 => ?_⟩
        · refine gj_goq gj_clT ok_213 [13, 25, 32, 48, 57] ?_
          show vp_in ((i3 2) * (SI6 81 19)) 40 ∧ (vp_in (((i3 2) * (SI6 81 19)) + (i3 1)) 40 ∧ (((i3 1) = 0 ∨ (i3 1) = 1) ∧ (QI Q (some (.int (i3 1))) (gj_u2 (gj_u2 (gj_u2 SI6 90 (gj_n ((i3 2) * (SI6 81 19))) (SI2 81 17)) 90 (gj_n (((i3 2) * (SI6 81 19)) + (i3 1))) (SI6 81 17)) 81 19 ((SI6 81 19) + (i3 1))) SJ6)))
          have k8 := (q6.1 c7).1
          refine ⟨k8, ?_⟩
          have k9 := (q6.1 c7).2.1
          refine ⟨k9, ?_⟩
          refine ⟨(Or.inr rfl), ?_⟩
          exact ⟨_, rfl, (q6.1 c7).2.2⟩
        · refine ⟨(Or.inl rfl), ?_⟩
          exact ⟨_, rfl, (q6.2 c7)⟩
    · refine ⟨(Or.inl rfl), ?_⟩
      exact ⟨_, rfl, (q2.2 c3)⟩
  · refine gj_Do.mono (h.2 c1) (fun v_ SI8 SJ8 h_ => ?_)
    obtain ⟨r7, rfl, q10⟩ := h_
    show gj_Goes E om0 mt_213 13 [some (.ref 81), none] [(.int r7)] SI8 SJ8 (QI Q)
    refine gj_goq gj_clT ok_213 [13, 25, 32, 48, 57] ?_
    show (r7 = 0 → gj_Goes E om0 mt_213 26 [some (.ref 81), none] [] SI8 SJ8 (QI Q)) ∧ (¬ r7 = 0 → gj_Do E om0 (gj_mt 209) [(.ref 81), (.int (i3 4)), (.int (SI8 81 14))] SI8 SJ8 _)
    refine ⟨fun c11 => ?_, fun c11 => ?_⟩
    · refine gj_goq gj_clT ok_213 [13, 25, 32, 48, 57] ?_
      show gj_Do E om0 (gj_mt 211) [(.ref 81), (.int (i3 1)), (.int (i3 0))] SI8 SJ8 _
      refine gj_Do.mono (q10.1 c11) (fun v_ SI10 SJ10 h_ => ?_)
      obtain ⟨r9, rfl, q12⟩ := h_
      show gj_Goes E om0 mt_213 32 [some (.ref 81), none] [(.int r9)] SI10 SJ10 (QI Q)
      refine gj_goq gj_clT ok_213 [13, 25, 32, 48, 57] ?_
      show (¬ r9 = 0 → gj_Goes E om0 mt_213 37 [some (.ref 81), none] [] SI10 SJ10 (QI Q)) ∧ (r9 = 0 → ((i3 0) = 0 ∨ (i3 0) = 1) ∧ (QI Q (some (.int (i3 0))) SI10 SJ10))
      refine ⟨fun c13 => ?_, fun c13 => ?_⟩
      · refine gj_goq gj_clT ok_213 [13, 25, 32, 48, 57] ?_
        show gj_Do E om0 (gj_mt 210) [(.ref 81), (.int (i3 44))] SI10 SJ10 _
        refine gj_Do.mono (q12.1 c13) (fun v_ SI12 SJ12 h_ => ?_)
        obtain ⟨r11, rfl, q14⟩ := h_
        show gj_Goes E om0 mt_213 48 [some (.ref 81), some (.int (SI10 81 17))] [(.int r11)] SI12 SJ12 (QI Q)
        refine gj_goq gj_clT ok_213 [13, 25, 32, 48, 57] ?_
        show (r11 = 0 → gj_Goes E om0 mt_213 60 [some (.ref 81), some (.int (SI10 81 17))] [] SI12 SJ12 (QI Q)) ∧ (¬ r11 = 0 → gj_Do E om0 (gj_mt 211) [(.ref 81), (.int (i3 1)), (.int (i3 0))] SI12 SJ12 _)
        refine ⟨fun c15 => ?_, fun c15 => ?_⟩
        · refine gj_goq gj_clT ok_213 [13, 25, 32, 48, 57] ?_
          show ((i3 0) = 0 ∨ (i3 0) = 1) ∧ (QI Q (some (.int (i3 0))) SI12 SJ12)
          refine ⟨(Or.inl rfl), ?_⟩
          exact ⟨_, rfl, (q14.1 c15)⟩
        · refine gj_Do.mono (q14.2 c15) (fun v_ SI14 SJ14 h_ => ?_)
          obtain ⟨r13, rfl, q16⟩ := h_
          show gj_Goes E om0 mt_213 57 [some (.ref 81), some (.int (SI10 81 17))] [(.int r13)] SI14 SJ14 (QI Q)
          refine gj_goq gj_clT ok_213 [13, 25, 32, 48, 57] ?_
          show (¬ r13 = 0 → gj_Goes E om0 mt_213 62 [some (.ref 81), some (.int (SI10 81 17))] [] SI14 SJ14 (QI Q)) ∧ (r13 = 0 → ((i3 0) = 0 ∨ (i3 0) = 1) ∧ (QI Q (some (.int (i3 0))) SI14 SJ14))
          refine ⟨fun c17 => ?_, fun c17 => ?_⟩
          · refine gj_goq gj_clT ok_213 [13, 25, 32, 48, 57] ?_
            show vp_in ((i3 2) * (SI14 81 19)) 40 ∧ (vp_in (((i3 2) * (SI14 81 19)) + (i3 1)) 40 ∧ (((i3 1) = 0 ∨ (i3 1) = 1) ∧ (QI Q (some (.int (i3 1))) (gj_u2 (gj_u2 (gj_u2 SI14 90 (gj_n ((i3 2) * (SI14 81 19))) (SI10 81 17)) 90 (gj_n (((i3 2) * (SI14 81 19)) + (i3 1))) (SI14 81 17)) 81 19 ((SI14 81 19) + (i3 1))) SJ14)))
            have k18 := (q16.1 c17).1
            refine ⟨k18, ?_⟩
            have k19 := (q16.1 c17).2.1
            refine ⟨k19, ?_⟩
            refine ⟨(Or.inr rfl), ?_⟩
            exact ⟨_, rfl, (q16.1 c17).2.2⟩
          · refine ⟨(Or.inl rfl), ?_⟩
            exact ⟨_, rfl, (q16.2 c17)⟩
      · refine ⟨(Or.inl rfl), ?_⟩
        exact ⟨_, rfl, (q12.2 c13)⟩
    · refine gj_Do.mono (q10.2 c11) (fun v_ SI16 SJ16 h_ => ?_)
      obtain ⟨r15, rfl, q20⟩ := h_
      show gj_Goes E om0 mt_213 25 [some (.ref 81), none] [(.int r15)] SI16 SJ16 (QI Q)
      refine gj_goq gj_clT ok_213 [13, 25, 32, 48, 57] ?_
      show (r15 = 0 ∨ r15 = 1) ∧ (QI Q (some (.int r15)) SI16 SJ16)
      have k21 := q20.1
      refine ⟨k21, ?_⟩
      exact ⟨_, rfl, q20.2⟩
set_option maxRecDepth 20000 in
/-- GraspJudgeModel.lays0 -/
theorem st_214 {E : gj_E} {Q : gj_I → gj_J → Prop} (SI : gj_I) (SJ : gj_J) (h : GoV E mt_214 2 [some (.ref 81), some (.int (i3 0))] SI SJ Q) : DoV E 214 [(.ref 81)] SI SJ Q := by
  refine gj_start (M := mt_214) ok_214 (Nat.le_of_ble_eq_true rfl) ?_
  refine gj_goq gj_clT ok_214 [2, 39] ?_
  show gj_Goes E om0 mt_214 2 [some (.ref 81), some (.int (i3 0))] [] SI SJ (QV Q)
  exact h
set_option maxRecDepth 20000 in
theorem lp_214_2 {E : gj_E} {Q : gj_I → gj_J → Prop} (x1 : Int32) (SI : gj_I) (SJ : gj_J) (h : ((i3 135) ≤ x1 → GoV E mt_214 39 [some (.ref 81), some (.int (i3 0))] (gj_u2 SI 82 0 (SI 81 19)) SJ Q) ∧ (¬ (i3 135) ≤ x1 → vp_in x1 135 ∧ (GoV E mt_214 2 [some (.ref 81), some (.int (x1 + (i3 1)))] (gj_u2 SI 84 (gj_n x1) (SI 82 (gj_n x1))) SJ Q))) : GoV E mt_214 2 [some (.ref 81), some (.int x1)] SI SJ Q := by
  refine gj_goq gj_clT ok_214 [2, 39] ?_
  show ((i3 135) ≤ x1 → gj_Goes E om0 mt_214 27 [some (.ref 81), some (.int x1)] [] SI SJ (QV Q)) ∧ (¬ (i3 135) ≤ x1 → vp_in x1 135 ∧ (vp_in x1 135 ∧ (gj_Goes E om0 mt_214 2 [some (.ref 81), some (.int (x1 + (i3 1)))] [] (gj_u2 SI 84 (gj_n x1) (SI 82 (gj_n x1))) SJ (QV Q))))
  refine ⟨fun c1 => ?_, fun c1 => ?_⟩
  · refine gj_goq gj_clT ok_214 [2, 39] ?_
    show vp_in (i3 0) 135 ∧ (gj_Goes E om0 mt_214 39 [some (.ref 81), some (.int (i3 0))] [] (gj_u2 SI 82 0 (SI 81 19)) SJ (QV Q))
    refine ⟨(gj_vin (by decide)), ?_⟩
    exact (h.1 c1)
  · have k2 := (h.2 c1).1
    refine ⟨k2, ?_⟩
    refine ⟨k2, ?_⟩
    exact (h.2 c1).2
set_option maxRecDepth 20000 in
theorem lp_214_39 {E : gj_E} {Q : gj_I → gj_J → Prop} (x1 : Int32) (SI : gj_I) (SJ : gj_J) (h : ((SI 81 19) ≤ x1 → Q (gj_u2 (gj_u2 (gj_u2 (gj_u2 SI 82 17 (i3 0)) 82 32 (i3 2)) 82 33 (i3 2)) 82 35 (i3 0)) SJ) ∧ (¬ (SI 81 19) ≤ x1 → vp_in ((i3 2) * x1) 40 ∧ (vp_in ((i3 1) + x1) 135 ∧ (vp_in (((i3 2) * x1) + (i3 1)) 40 ∧ (vp_in ((i3 9) + x1) 135 ∧ (GoV E mt_214 39 [some (.ref 81), some (.int (x1 + (i3 1)))] (gj_u2 (gj_u2 SI 82 (gj_n ((i3 1) + x1)) (SI 90 (gj_n ((i3 2) * x1)))) 82 (gj_n ((i3 9) + x1)) (SI 90 (gj_n (((i3 2) * x1) + (i3 1))))) SJ Q)))))) : GoV E mt_214 39 [some (.ref 81), some (.int x1)] SI SJ Q := by
  refine gj_goq gj_clT ok_214 [2, 39] ?_
  show ((SI 81 19) ≤ x1 → gj_Goes E om0 mt_214 88 [some (.ref 81), some (.int x1)] [] SI SJ (QV Q)) ∧ (¬ (SI 81 19) ≤ x1 → vp_in ((i3 2) * x1) 40 ∧ (vp_in ((i3 1) + x1) 135 ∧ (vp_in (((i3 2) * x1) + (i3 1)) 40 ∧ (vp_in ((i3 9) + x1) 135 ∧ (gj_Goes E om0 mt_214 39 [some (.ref 81), some (.int (x1 + (i3 1)))] [] (gj_u2 (gj_u2 SI 82 (gj_n ((i3 1) + x1)) (SI 90 (gj_n ((i3 2) * x1)))) 82 (gj_n ((i3 9) + x1)) (SI 90 (gj_n (((i3 2) * x1) + (i3 1))))) SJ (QV Q))))))
  refine ⟨fun c1 => ?_, fun c1 => ?_⟩
  · refine gj_goq gj_clT ok_214 [2, 39] ?_
    show vp_in (i3 17) 135 ∧ (vp_in (i3 32) 135 ∧ (vp_in (i3 33) 135 ∧ (vp_in (i3 35) 135 ∧ (QV Q none (gj_u2 (gj_u2 (gj_u2 (gj_u2 SI 82 17 (i3 0)) 82 32 (i3 2)) 82 33 (i3 2)) 82 35 (i3 0)) SJ))))
    refine ⟨(gj_vin (by decide)), ?_⟩
    refine ⟨(gj_vin (by decide)), ?_⟩
    refine ⟨(gj_vin (by decide)), ?_⟩
    refine ⟨(gj_vin (by decide)), ?_⟩
    exact ⟨rfl, (h.1 c1)⟩
  · have k2 := (h.2 c1).1
    refine ⟨k2, ?_⟩
    have k3 := (h.2 c1).2.1
    refine ⟨k3, ?_⟩
    have k4 := (h.2 c1).2.2.1
    refine ⟨k4, ?_⟩
    have k5 := (h.2 c1).2.2.2.1
    refine ⟨k5, ?_⟩
    exact (h.2 c1).2.2.2.2
set_option maxRecDepth 20000 in
/-- GraspJudgeModel.plate -/
theorem st_215 {E : gj_E} {Q : Int32 → gj_I → gj_J → Prop} (a1 : Int32) (SI : gj_I) (SJ : gj_J) (h : DoI E 212 [(.ref 81), (.int a1), (.int (i3 60))] SI SJ (fun r1 SI2 SJ2 => (¬ r1 = 0 → DoI E 213 [(.ref 81)] (gj_u2 SI2 81 19 (i3 0)) SJ2 (fun r3 SI4 SJ4 => GoI E mt_215 22 [some (.ref 81), none, some (.int r3), none] SI4 SJ4 Q)) ∧ (r1 = 0 → Q (i3 (-1)) SI2 SJ2))) : DoI E 215 [(.ref 81), (.int a1)] SI SJ Q := by
  refine gj_start (M := mt_215) ok_215 (Nat.le_of_ble_eq_true rfl) ?_
  refine gj_goq gj_clT ok_215 [7, 21, 22, 43, 50, 75, 79, 89] ?_
  show gj_Do E om0 (gj_mt 212) [(.ref 81), (.int a1), (.int (i3 60))] SI SJ _
  refine gj_Do.mono h (fun v_ SI2 SJ2 h_ => ?_)
  obtain ⟨r1, rfl, q1⟩ := h_
  show gj_Goes E om0 mt_215 7 [some (.ref 81), some (.int a1), none, none] [(.int r1)] SI2 SJ2 (QI Q)
  refine gj_goq gj_clT ok_215 [7, 21, 22, 43, 50, 75, 79, 89] ?_
  show (¬ r1 = 0 → gj_Goes E om0 mt_215 12 [some (.ref 81), some (.int a1), none, none] [] SI2 SJ2 (QI Q)) ∧ (r1 = 0 → QI Q (some (.int (i3 (-1)))) SI2 SJ2)
  refine ⟨fun c2 => ?_, fun c2 => ?_⟩
  · refine gj_goq gj_clT ok_215 [7, 21, 22, 43, 50, 75, 79, 89] ?_
    show gj_Do E om0 (gj_mt 213) [(.ref 81)] (gj_u2 SI2 81 19 (i3 0)) SJ2 _
    refine gj_Do.mono (q1.1 c2) (fun v_ SI4 SJ4 h_ => ?_)
    obtain ⟨r3, rfl, q3⟩ := h_
    show gj_Goes E om0 mt_215 21 [some (.ref 81), some (.int a1), none, none] [(.int r3)] SI4 SJ4 (QI Q)
    refine gj_goq gj_clT ok_215 [7, 21, 22, 43, 50, 75, 79, 89] ?_
    show gj_Goes E om0 mt_215 22 [some (.ref 81), some (.int a1), some (.int r3), none] [] SI4 SJ4 (QI Q)
    exact gj_fh q3 (And.intro (Or.inr rfl) (And.intro (Or.inl rfl) (And.intro (Or.inr rfl) (And.intro (Or.inl rfl) trivial))))
  · exact ⟨_, rfl, (q1.2 c2)⟩
set_option maxRecDepth 20000 in
theorem lp_215_22 {E : gj_E} {Q : Int32 → gj_I → gj_J → Prop} (x2 : Int32) (SI : gj_I) (SJ : gj_J) (h : (x2 = 0 → (¬ x2 = 0 → DoV E 214 [(.ref 81)] SI SJ (fun SI2 SJ2 => DoI E 175 [(.ref 81)] SI2 SJ2 (fun r3 SI4 SJ4 => (r3 = 0 → GoI E mt_215 89 [some (.ref 81), none, none, some (.int (i3 0))] SI4 SJ4 Q) ∧ (¬ r3 = 0 → Q (SI4 81 19) SI4 SJ4)))) ∧ (x2 = 0 → Q (SI 81 16) SI SJ)) ∧ (¬ x2 = 0 → ((SI 81 15) ≤ (SI 81 14) → (¬ x2 = 0 → DoV E 214 [(.ref 81)] SI SJ (fun SI6 SJ6 => DoI E 175 [(.ref 81)] SI6 SJ6 (fun r7 SI8 SJ8 => (r7 = 0 → GoI E mt_215 89 [some (.ref 81), none, none, some (.int (i3 0))] SI8 SJ8 Q) ∧ (¬ r7 = 0 → Q (SI8 81 19) SI8 SJ8)))) ∧ (x2 = 0 → Q (SI 81 16) SI SJ)) ∧ (¬ (SI 81 15) ≤ (SI 81 14) → DoI E 210 [(.ref 81), (.int (i3 59))] SI SJ (fun r9 SI10 SJ10 => (r9 = 0 → GoI E mt_215 22 [some (.ref 81), none, some (.int (i3 0)), none] SI10 SJ10 Q) ∧ (¬ r9 = 0 → DoI E 213 [(.ref 81)] SI10 SJ10 (fun r11 SI12 SJ12 => (r11 = 0 → GoI E mt_215 22 [some (.ref 81), none, some (.int (i3 0)), none] SI12 SJ12 Q) ∧ (¬ r11 = 0 → GoI E mt_215 22 [some (.ref 81), none, some (.int (i3 1)), none] SI12 SJ12 Q))))))) : GoI E mt_215 22 [some (.ref 81), none, some (.int x2), none] SI SJ Q := by
  refine gj_goq gj_clT ok_215 [7, 21, 22, 43, 50, 75, 79, 89] ?_
  show (x2 = 0 → gj_Goes E om0 mt_215 62 [some (.ref 81), none, some (.int x2), none] [] SI SJ (QI Q)) ∧ (¬ x2 = 0 → ((SI 81 15) ≤ (SI 81 14) → gj_Goes E om0 mt_215 62 [some (.ref 81), none, some (.int x2), none] [] SI SJ (QI Q)) ∧ (¬ (SI 81 15) ≤ (SI 81 14) → gj_Do E om0 (gj_mt 210) [(.ref 81), (.int (i3 59))] SI SJ _))
  refine ⟨fun c1 => ?_, fun c1 => ?_⟩
  · refine gj_goq gj_clT ok_215 [7, 21, 22, 43, 50, 75, 79, 89] ?_
    show (¬ x2 = 0 → gj_Goes E om0 mt_215 71 [some (.ref 81), none, some (.int x2), none] [] SI SJ (QI Q)) ∧ (x2 = 0 → QI Q (some (.int (SI 81 16))) SI SJ)
    refine ⟨fun c2 => ?_, fun c2 => ?_⟩
    · refine gj_goq gj_clT ok_215 [7, 21, 22, 43, 50, 75, 79, 89] ?_
      show gj_Do E om0 (gj_mt 214) [(.ref 81)] SI SJ _
      refine gj_Do.mono ((h.1 c1).1 c2) (fun v_ SI2 SJ2 h_ => ?_)
      obtain ⟨rfl, q3⟩ := h_
      show gj_Goes E om0 mt_215 75 [some (.ref 81), none, some (.int x2), none] [] SI2 SJ2 (QI Q)
      refine gj_goq gj_clT ok_215 [7, 21, 22, 43, 50, 75, 79, 89] ?_
      show gj_Do E om0 (gj_mt 175) [(.ref 81)] SI2 SJ2 _
      refine gj_Do.mono q3 (fun v_ SI4 SJ4 h_ => ?_)
      obtain ⟨r3, rfl, q4⟩ := h_
      show gj_Goes E om0 mt_215 79 [some (.ref 81), none, some (.int x2), none] [(.int r3)] SI4 SJ4 (QI Q)
      refine gj_goq gj_clT ok_215 [7, 21, 22, 43, 50, 75, 79, 89] ?_
      show (r3 = 0 → gj_Goes E om0 mt_215 87 [some (.ref 81), none, some (.int x2), none] [] SI4 SJ4 (QI Q)) ∧ (¬ r3 = 0 → QI Q (some (.int (SI4 81 19))) SI4 SJ4)
      refine ⟨fun c5 => ?_, fun c5 => ?_⟩
      · refine gj_goq gj_clT ok_215 [7, 21, 22, 43, 50, 75, 79, 89] ?_
        show gj_Goes E om0 mt_215 89 [some (.ref 81), none, some (.int x2), some (.int (i3 0))] [] SI4 SJ4 (QI Q)
        exact gj_fh (q4.1 c5) (And.intro (Or.inr rfl) (And.intro (Or.inl rfl) (And.intro (Or.inl rfl) (And.intro (Or.inr rfl) trivial))))
      · exact ⟨_, rfl, (q4.2 c5)⟩
    · exact ⟨_, rfl, ((h.1 c1).2 c2)⟩
  · refine ⟨fun c6 => ?_, fun c6 => ?_⟩
    · refine gj_goq gj_clT ok_215 [7, 21, 22, 43, 50, 75, 79, 89] ?_
      show (¬ x2 = 0 → gj_Goes E om0 mt_215 71 [some (.ref 81), none, some (.int x2), none] [] SI SJ (QI Q)) ∧ (x2 = 0 → QI Q (some (.int (SI 81 16))) SI SJ)
      refine ⟨fun c7 => ?_, fun c7 => ?_⟩
      · refine gj_goq gj_clT ok_215 [7, 21, 22, 43, 50, 75, 79, 89] ?_
        show gj_Do E om0 (gj_mt 214) [(.ref 81)] SI SJ _
        refine gj_Do.mono (((h.2 c1).1 c6).1 c7) (fun v_ SI6 SJ6 h_ => ?_)
        obtain ⟨rfl, q8⟩ := h_
        show gj_Goes E om0 mt_215 75 [some (.ref 81), none, some (.int x2), none] [] SI6 SJ6 (QI Q)
        refine gj_goq gj_clT ok_215 [7, 21, 22, 43, 50, 75, 79, 89] ?_
        show gj_Do E om0 (gj_mt 175) [(.ref 81)] SI6 SJ6 _
        refine gj_Do.mono q8 (fun v_ SI8 SJ8 h_ => ?_)
        obtain ⟨r7, rfl, q9⟩ := h_
        show gj_Goes E om0 mt_215 79 [some (.ref 81), none, some (.int x2), none] [(.int r7)] SI8 SJ8 (QI Q)
        refine gj_goq gj_clT ok_215 [7, 21, 22, 43, 50, 75, 79, 89] ?_
        show (r7 = 0 → gj_Goes E om0 mt_215 87 [some (.ref 81), none, some (.int x2), none] [] SI8 SJ8 (QI Q)) ∧ (¬ r7 = 0 → QI Q (some (.int (SI8 81 19))) SI8 SJ8)
        refine ⟨fun c10 => ?_, fun c10 => ?_⟩
        · refine gj_goq gj_clT ok_215 [7, 21, 22, 43, 50, 75, 79, 89] ?_
          show gj_Goes E om0 mt_215 89 [some (.ref 81), none, some (.int x2), some (.int (i3 0))] [] SI8 SJ8 (QI Q)
          exact gj_fh (q9.1 c10) (And.intro (Or.inr rfl) (And.intro (Or.inl rfl) (And.intro (Or.inl rfl) (And.intro (Or.inr rfl) trivial))))
        · exact ⟨_, rfl, (q9.2 c10)⟩
      · exact ⟨_, rfl, (((h.2 c1).1 c6).2 c7)⟩
    · refine gj_Do.mono ((h.2 c1).2 c6) (fun v_ SI10 SJ10 h_ => ?_)
      obtain ⟨r9, rfl, q11⟩ := h_
      show gj_Goes E om0 mt_215 43 [some (.ref 81), none, some (.int x2), none] [(.int r9)] SI10 SJ10 (QI Q)
      refine gj_goq gj_clT ok_215 [7, 21, 22, 43, 50, 75, 79, 89] ?_
      show (r9 = 0 → gj_Goes E om0 mt_215 57 [some (.ref 81), none, some (.int x2), none] [] SI10 SJ10 (QI Q)) ∧ (¬ r9 = 0 → gj_Do E om0 (gj_mt 213) [(.ref 81)] SI10 SJ10 _)
      refine ⟨fun c12 => ?_, fun c12 => ?_⟩
      · refine gj_goq gj_clT ok_215 [7, 21, 22, 43, 50, 75, 79, 89] ?_
        show gj_Goes E om0 mt_215 22 [some (.ref 81), none, some (.int (i3 0)), none] [] SI10 SJ10 (QI Q)
        exact (q11.1 c12)
      · refine gj_Do.mono (q11.2 c12) (fun v_ SI12 SJ12 h_ => ?_)
        obtain ⟨r11, rfl, q13⟩ := h_
        show gj_Goes E om0 mt_215 50 [some (.ref 81), none, some (.int x2), none] [(.int r11)] SI12 SJ12 (QI Q)
        refine gj_goq gj_clT ok_215 [7, 21, 22, 43, 50, 75, 79, 89] ?_
        show (r11 = 0 → gj_Goes E om0 mt_215 57 [some (.ref 81), none, some (.int x2), none] [] SI12 SJ12 (QI Q)) ∧ (¬ r11 = 0 → gj_Goes E om0 mt_215 58 [some (.ref 81), none, some (.int x2), none] [(.int (i3 1))] SI12 SJ12 (QI Q))
        refine ⟨fun c14 => ?_, fun c14 => ?_⟩
        · refine gj_goq gj_clT ok_215 [7, 21, 22, 43, 50, 75, 79, 89] ?_
          show gj_Goes E om0 mt_215 22 [some (.ref 81), none, some (.int (i3 0)), none] [] SI12 SJ12 (QI Q)
          exact (q13.1 c14)
        · refine gj_goq gj_clT ok_215 [7, 21, 22, 43, 50, 75, 79, 89] ?_
          show gj_Goes E om0 mt_215 22 [some (.ref 81), none, some (.int (i3 1)), none] [] SI12 SJ12 (QI Q)
          exact (q13.2 c14)
set_option maxRecDepth 20000 in
theorem lp_215_89 {E : gj_E} {Q : Int32 → gj_I → gj_J → Prop} (x3 : Int32) (SI : gj_I) (SJ : gj_J) (h : ((i3 135) ≤ x3 → Q ((i3 (-5000)) - (SI 81 15)) SI SJ) ∧ (¬ (i3 135) ≤ x3 → vp_in x3 135 ∧ (GoI E mt_215 89 [some (.ref 81), none, none, some (.int (x3 + (i3 1)))] (gj_u2 SI 82 (gj_n x3) (SI 84 (gj_n x3))) SJ Q))) : GoI E mt_215 89 [some (.ref 81), none, none, some (.int x3)] SI SJ Q := by
  refine gj_goq gj_clT ok_215 [7, 21, 22, 43, 50, 75, 79, 89] ?_
  show ((i3 135) ≤ x3 → gj_Goes E om0 mt_215 114 [some (.ref 81), none, none, some (.int x3)] [] SI SJ (QI Q)) ∧ (¬ (i3 135) ≤ x3 → vp_in x3 135 ∧ (vp_in x3 135 ∧ (gj_Goes E om0 mt_215 89 [some (.ref 81), none, none, some (.int (x3 + (i3 1)))] [] (gj_u2 SI 82 (gj_n x3) (SI 84 (gj_n x3))) SJ (QI Q))))
  refine ⟨fun c1 => ?_, fun c1 => ?_⟩
  · refine gj_goq gj_clT ok_215 [7, 21, 22, 43, 50, 75, 79, 89] ?_
    show QI Q (some (.int ((i3 (-5000)) - (SI 81 15)))) SI SJ
    exact ⟨_, rfl, (h.1 c1)⟩
  · have k2 := (h.2 c1).1
    refine ⟨k2, ?_⟩
    refine ⟨k2, ?_⟩
    exact (h.2 c1).2
set_option maxRecDepth 20000 in
/-- GraspJudgeModel.readsClause -/
theorem st_216 {E : gj_E} {Q : Int32 → gj_I → gj_J → Prop} (SI : gj_I) (SJ : gj_J) (h : (¬ (SI 81 19) = (i3 12) → GoI E mt_216 26 [some (.ref 81), some (.int (SI 81 14)), some (.long (i6 0)), none, none] SI SJ Q) ∧ ((SI 81 19) = (i3 12) → DoI E 209 [(.ref 81), (.int (i3 4)), (.int (SI 81 14))] SI SJ (fun r1 SI2 SJ2 => (r1 = 0 ∨ r1 = 1) ∧ (Q r1 SI2 SJ2)))) : DoI E 216 [(.ref 81)] SI SJ Q := by
  refine gj_start (M := mt_216) ok_216 (Nat.le_of_ble_eq_true rfl) ?_
  refine gj_goq gj_clT ok_216 [18, 26, 30, 40, 63, 129, 133, 157, 166] ?_
  show (¬ (SI 81 19) = (i3 12) → gj_Goes E om0 mt_216 19 [some (.ref 81), none, none, none, none] [] SI SJ (QI Q)) ∧ ((SI 81 19) = (i3 12) → gj_Do E om0 (gj_mt 209) [(.ref 81), (.int (i3 4)), (.int (SI 81 14))] SI SJ _)
  refine ⟨fun c1 => ?_, fun c1 => ?_⟩
  · refine gj_goq gj_clT ok_216 [18, 26, 30, 40, 63, 129, 133, 157, 166] ?_
    show gj_Goes E om0 mt_216 26 [some (.ref 81), some (.int (SI 81 14)), some (.long (i6 0)), none, none] [] SI SJ (QI Q)
    exact (h.1 c1)
  · refine gj_Do.mono (h.2 c1) (fun v_ SI2 SJ2 h_ => ?_)
    obtain ⟨r1, rfl, q2⟩ := h_
    show gj_Goes E om0 mt_216 18 [some (.ref 81), none, none, none, none] [(.int r1)] SI2 SJ2 (QI Q)
    refine gj_goq gj_clT ok_216 [18, 26, 30, 40, 63, 129, 133, 157, 166] ?_
    show (r1 = 0 ∨ r1 = 1) ∧ (QI Q (some (.int r1)) SI2 SJ2)
    have k3 := q2.1
    refine ⟨k3, ?_⟩
    exact ⟨_, rfl, q2.2⟩
set_option maxRecDepth 20000 in
theorem lp_216_26 {E : gj_E} {Q : Int32 → gj_I → gj_J → Prop} (x1 : Int32) (x2 : Int64) (SI : gj_I) (SJ : gj_J) (h : DoI E 207 [(.ref 81)] SI SJ (fun r1 SI2 SJ2 => DoI E 155 [(.long (r1).toInt64), (.long (i6 97)), (.long (i6 122))] SI2 SJ2 (fun r3 SI4 SJ4 => (r3 = 0 → (x2 = (i6 17076) → GoI E mt_216 133 [some (.ref 81), none, some (.long x2), none, some (.int (i3 0))] SI4 SJ4 Q) ∧ (¬ x2 = (i6 17076) → (x2 = (i6 656741) → GoI E mt_216 133 [some (.ref 81), none, some (.long x2), none, some (.int (i3 0))] SI4 SJ4 Q) ∧ (¬ x2 = (i6 656741) → (x2 = (i6 21566500) → GoI E mt_216 133 [some (.ref 81), none, some (.long x2), none, some (.int (i3 0))] SI4 SJ4 Q) ∧ (¬ x2 = (i6 21566500) → (x2 = (i6 106385989) → GoI E mt_216 133 [some (.ref 81), none, some (.long x2), none, some (.int (i3 0))] SI4 SJ4 Q) ∧ (¬ x2 = (i6 106385989) → DoI E 209 [(.ref 81), (.int (i3 1)), (.int x1)] SI4 SJ4 (fun r5 SI6 SJ6 => (r5 = 0 ∨ r5 = 1) ∧ (Q r5 SI6 SJ6))))))) ∧ (¬ r3 = 0 → ((i3 8) ≤ ((SI4 81 14) - x1) → GoI E mt_216 26 [some (.ref 81), some (.int x1), some (.long (i6 (-1))), none, none] (gj_u2 SI4 81 14 ((SI4 81 14) + (i3 1))) SJ4 Q) ∧ (¬ (i3 8) ≤ ((SI4 81 14) - x1) → DoI E 207 [(.ref 81)] SI4 SJ4 (fun r7 SI8 SJ8 => GoI E mt_216 26 [some (.ref 81), some (.int x1), some (.long (((((i6 32) * x2) + (r7).toInt64) - (i6 97)) + (i6 1))), none, none] (gj_u2 SI8 81 14 ((SI8 81 14) + (i3 1))) SJ8 Q)))))) : GoI E mt_216 26 [some (.ref 81), some (.int x1), some (.long x2), none, none] SI SJ Q := by
  refine gj_goq gj_clT ok_216 [18, 26, 30, 40, 63, 129, 133, 157, 166] ?_
  show gj_Do E om0 (gj_mt 207) [(.ref 81)] SI SJ _
  refine gj_Do.mono h (fun v_ SI2 SJ2 h_ => ?_)
  obtain ⟨r1, rfl, q1⟩ := h_
  show gj_Goes E om0 mt_216 30 [some (.ref 81), some (.int x1), some (.long x2), none, none] [(.int r1)] SI2 SJ2 (QI Q)
  refine gj_goq gj_clT ok_216 [18, 26, 30, 40, 63, 129, 133, 157, 166] ?_
  show gj_Do E om0 (gj_mt 155) [(.long (r1).toInt64), (.long (i6 97)), (.long (i6 122))] SI2 SJ2 _
  refine gj_Do.mono q1 (fun v_ SI4 SJ4 h_ => ?_)
  obtain ⟨r3, rfl, q2⟩ := h_
  show gj_Goes E om0 mt_216 40 [some (.ref 81), some (.int x1), some (.long x2), none, none] [(.int r3)] SI4 SJ4 (QI Q)
  refine gj_goq gj_clT ok_216 [18, 26, 30, 40, 63, 129, 133, 157, 166] ?_
  show (r3 = 0 → gj_Goes E om0 mt_216 91 [some (.ref 81), some (.int x1), some (.long x2), none, none] [] SI4 SJ4 (QI Q)) ∧ (¬ r3 = 0 → ((i3 8) ≤ ((SI4 81 14) - x1) → gj_Goes E om0 mt_216 74 [some (.ref 81), some (.int x1), some (.long x2), none, none] [] SI4 SJ4 (QI Q)) ∧ (¬ (i3 8) ≤ ((SI4 81 14) - x1) → gj_Do E om0 (gj_mt 207) [(.ref 81)] SI4 SJ4 _))
  refine ⟨fun c3 => ?_, fun c3 => ?_⟩
  · refine gj_goq gj_clT ok_216 [18, 26, 30, 40, 63, 129, 133, 157, 166] ?_
    show ((lg_cmp x2 (i6 17076)) = 0 → gj_Goes E om0 mt_216 130 [some (.ref 81), some (.int x1), some (.long x2), none, none] [] SI4 SJ4 (QI Q)) ∧ (¬ (lg_cmp x2 (i6 17076)) = 0 → ((lg_cmp x2 (i6 656741)) = 0 → gj_Goes E om0 mt_216 130 [some (.ref 81), some (.int x1), some (.long x2), none, none] [] SI4 SJ4 (QI Q)) ∧ (¬ (lg_cmp x2 (i6 656741)) = 0 → ((lg_cmp x2 (i6 21566500)) = 0 → gj_Goes E om0 mt_216 130 [some (.ref 81), some (.int x1), some (.long x2), none, none] [] SI4 SJ4 (QI Q)) ∧ (¬ (lg_cmp x2 (i6 21566500)) = 0 → ((lg_cmp x2 (i6 106385989)) = 0 → gj_Goes E om0 mt_216 130 [some (.ref 81), some (.int x1), some (.long x2), none, none] [] SI4 SJ4 (QI Q)) ∧ (¬ (lg_cmp x2 (i6 106385989)) = 0 → gj_Do E om0 (gj_mt 209) [(.ref 81), (.int (i3 1)), (.int x1)] SI4 SJ4 _))))
    refine ⟨fun c4 => ?_, fun c4 => ?_⟩
    · refine gj_goq gj_clT ok_216 [18, 26, 30, 40, 63, 129, 133, 157, 166] ?_
      show gj_Goes E om0 mt_216 133 [some (.ref 81), some (.int x1), some (.long x2), none, some (.int (i3 0))] [] SI4 SJ4 (QI Q)
      exact gj_fh ((q2.1 c3).1 (lgc_eq.mp c4)) (And.intro (Or.inr rfl) (And.intro (Or.inl rfl) (And.intro (Or.inr rfl) (And.intro (Or.inl rfl) (And.intro (Or.inr rfl) trivial)))))
    · refine ⟨fun c5 => ?_, fun c5 => ?_⟩
      · refine gj_goq gj_clT ok_216 [18, 26, 30, 40, 63, 129, 133, 157, 166] ?_
        show gj_Goes E om0 mt_216 133 [some (.ref 81), some (.int x1), some (.long x2), none, some (.int (i3 0))] [] SI4 SJ4 (QI Q)
        exact gj_fh (((q2.1 c3).2 (fun z_ => c4 (lgc_eq.mpr z_))).1 (lgc_eq.mp c5)) (And.intro (Or.inr rfl) (And.intro (Or.inl rfl) (And.intro (Or.inr rfl) (And.intro (Or.inl rfl) (And.intro (Or.inr rfl) trivial)))))
      · refine ⟨fun c6 => ?_, fun c6 => ?_⟩
        · refine gj_goq gj_clT ok_216 [18, 26, 30, 40, 63, 129, 133, 157, 166] ?_
          show gj_Goes E om0 mt_216 133 [some (.ref 81), some (.int x1), some (.long x2), none, some (.int (i3 0))] [] SI4 SJ4 (QI Q)
          exact gj_fh ((((q2.1 c3).2 (fun z_ => c4 (lgc_eq.mpr z_))).2 (fun z_ => c5 (lgc_eq.mpr z_))).1 (lgc_eq.mp c6)) (And.intro (Or.inr rfl) (And.intro (Or.inl rfl) (And.intro (Or.inr rfl) (And.intro (Or.inl rfl) (And.intro (Or.inr rfl) trivial)))))
        · refine ⟨fun c7 => ?_, fun c7 => ?_⟩
          · refine gj_goq gj_clT ok_216 [18, 26, 30, 40, 63, 129, 133, 157, 166] ?_
            show gj_Goes E om0 mt_216 133 [some (.ref 81), some (.int x1), some (.long x2), none, some (.int (i3 0))] [] SI4 SJ4 (QI Q)
            exact gj_fh (((((q2.1 c3).2 (fun z_ => c4 (lgc_eq.mpr z_))).2 (fun z_ => c5 (lgc_eq.mpr z_))).2 (fun z_ => c6 (lgc_eq.mpr z_))).1 (lgc_eq.mp c7)) (And.intro (Or.inr rfl) (And.intro (Or.inl rfl) (And.intro (Or.inr rfl) (And.intro (Or.inl rfl) (And.intro (Or.inr rfl) trivial)))))
          · refine gj_Do.mono (((((q2.1 c3).2 (fun z_ => c4 (lgc_eq.mpr z_))).2 (fun z_ => c5 (lgc_eq.mpr z_))).2 (fun z_ => c6 (lgc_eq.mpr z_))).2 (fun z_ => c7 (lgc_eq.mpr z_))) (fun v_ SI6 SJ6 h_ => ?_)
            obtain ⟨r5, rfl, q8⟩ := h_
            show gj_Goes E om0 mt_216 129 [some (.ref 81), some (.int x1), some (.long x2), none, none] [(.int r5)] SI6 SJ6 (QI Q)
            refine gj_goq gj_clT ok_216 [18, 26, 30, 40, 63, 129, 133, 157, 166] ?_
            show (r5 = 0 ∨ r5 = 1) ∧ (QI Q (some (.int r5)) SI6 SJ6)
            have k9 := q8.1
            refine ⟨k9, ?_⟩
            exact ⟨_, rfl, q8.2⟩
  · refine ⟨fun c10 => ?_, fun c10 => ?_⟩
    · refine gj_goq gj_clT ok_216 [18, 26, 30, 40, 63, 129, 133, 157, 166] ?_
      show gj_Goes E om0 mt_216 26 [some (.ref 81), some (.int x1), some (.long (i6 (-1))), none, none] [] (gj_u2 SI4 81 14 ((SI4 81 14) + (i3 1))) SJ4 (QI Q)
      exact ((q2.2 c3).1 c10)
    · refine gj_Do.mono ((q2.2 c3).2 c10) (fun v_ SI8 SJ8 h_ => ?_)
      obtain ⟨r7, rfl, q11⟩ := h_
      show gj_Goes E om0 mt_216 63 [some (.ref 81), some (.int x1), some (.long x2), none, none] [(.int r7), (.long ((i6 32) * x2))] SI8 SJ8 (QI Q)
      refine gj_goq gj_clT ok_216 [18, 26, 30, 40, 63, 129, 133, 157, 166] ?_
      show gj_Goes E om0 mt_216 77 [some (.ref 81), some (.int x1), some (.long x2), none, none] [(.long (((((i6 32) * x2) + (r7).toInt64) - (i6 97)) + (i6 1)))] SI8 SJ8 (QI Q)
      refine gj_goq gj_clT ok_216 [18, 26, 30, 40, 63, 129, 133, 157, 166] ?_
      show gj_Goes E om0 mt_216 26 [some (.ref 81), some (.int x1), some (.long (((((i6 32) * x2) + (r7).toInt64) - (i6 97)) + (i6 1))), none, none] [] (gj_u2 SI8 81 14 ((SI8 81 14) + (i3 1))) SJ8 (QI Q)
      exact q11
set_option maxRecDepth 20000 in
theorem lp_216_133 {E : gj_E} {Q : Int32 → gj_I → gj_J → Prop} (x2 : Int64) (x4 : Int32) (SI : gj_I) (SJ : gj_J) (h : (¬ x2 = (i6 656741) → ((i3 2) ≤ x4 → vp_in (SI 81 19) 12 ∧ (Q (i3 1) (gj_u2 SI 81 19 ((SI 81 19) + (i3 1))) (gj_w2 SJ 91 (gj_n (SI 81 19)) x2))) ∧ (¬ (i3 2) ≤ x4 → DoI E 210 [(.ref 81), (.int (i3 32))] SI SJ (fun r1 SI2 SJ2 => (r1 = 0 → Q (i3 0) SI2 SJ2) ∧ (¬ r1 = 0 → DoI E 211 [(.ref 81), (.int (i3 2)), (.int (i3 0))] SI2 SJ2 (fun r3 SI4 SJ4 => (¬ r3 = 0 → vp_in (((i3 2) * (SI4 81 19)) + x4) 40 ∧ (GoI E mt_216 133 [some (.ref 81), none, some (.long x2), none, some (.int (x4 + (i3 1)))] (gj_u2 SI4 90 (gj_n (((i3 2) * (SI4 81 19)) + x4)) (SI4 81 17)) SJ4 Q)) ∧ (r3 = 0 → Q (i3 0) SI4 SJ4)))))) ∧ (x2 = (i6 656741) → ((i3 1) ≤ x4 → vp_in (SI 81 19) 12 ∧ (Q (i3 1) (gj_u2 SI 81 19 ((SI 81 19) + (i3 1))) (gj_w2 SJ 91 (gj_n (SI 81 19)) x2))) ∧ (¬ (i3 1) ≤ x4 → DoI E 210 [(.ref 81), (.int (i3 32))] SI SJ (fun r5 SI6 SJ6 => (r5 = 0 → Q (i3 0) SI6 SJ6) ∧ (¬ r5 = 0 → DoI E 211 [(.ref 81), (.int (i3 2)), (.int (i3 0))] SI6 SJ6 (fun r7 SI8 SJ8 => (¬ r7 = 0 → vp_in (((i3 2) * (SI8 81 19)) + x4) 40 ∧ (GoI E mt_216 133 [some (.ref 81), none, some (.long x2), none, some (.int (x4 + (i3 1)))] (gj_u2 SI8 90 (gj_n (((i3 2) * (SI8 81 19)) + x4)) (SI8 81 17)) SJ8 Q)) ∧ (r7 = 0 → Q (i3 0) SI8 SJ8))))))) : GoI E mt_216 133 [some (.ref 81), none, some (.long x2), none, some (.int x4)] SI SJ Q := by
  refine gj_goq gj_clT ok_216 [18, 26, 30, 40, 63, 129, 133, 157, 166] ?_
  show (¬ (lg_cmp x2 (i6 656741)) = 0 → gj_Goes E om0 mt_216 147 [some (.ref 81), none, some (.long x2), none, some (.int x4)] [(.int x4)] SI SJ (QI Q)) ∧ ((lg_cmp x2 (i6 656741)) = 0 → gj_Goes E om0 mt_216 148 [some (.ref 81), none, some (.long x2), none, some (.int x4)] [(.int (i3 1)), (.int x4)] SI SJ (QI Q))
  refine ⟨fun c1 => ?_, fun c1 => ?_⟩
  · refine gj_goq gj_clT ok_216 [18, 26, 30, 40, 63, 129, 133, 157, 166] ?_
    show ((i3 2) ≤ x4 → gj_Goes E om0 mt_216 195 [some (.ref 81), none, some (.long x2), none, some (.int x4)] [] SI SJ (QI Q)) ∧ (¬ (i3 2) ≤ x4 → gj_Do E om0 (gj_mt 210) [(.ref 81), (.int (i3 32))] SI SJ _)
    refine ⟨fun c2 => ?_, fun c2 => ?_⟩
    · refine gj_goq gj_clT ok_216 [18, 26, 30, 40, 63, 129, 133, 157, 166] ?_
      show vp_in (SI 81 19) 12 ∧ (((i3 1) = 0 ∨ (i3 1) = 1) ∧ (QI Q (some (.int (i3 1))) (gj_u2 SI 81 19 ((SI 81 19) + (i3 1))) (gj_w2 SJ 91 (gj_n (SI 81 19)) x2)))
      have k3 := ((h.1 (fun z_ => c1 (lgc_eq.mpr z_))).1 c2).1
      refine ⟨k3, ?_⟩
      refine ⟨(Or.inr rfl), ?_⟩
      exact ⟨_, rfl, ((h.1 (fun z_ => c1 (lgc_eq.mpr z_))).1 c2).2⟩
    · refine gj_Do.mono ((h.1 (fun z_ => c1 (lgc_eq.mpr z_))).2 c2) (fun v_ SI2 SJ2 h_ => ?_)
      obtain ⟨r1, rfl, q4⟩ := h_
      show gj_Goes E om0 mt_216 157 [some (.ref 81), none, some (.long x2), none, some (.int x4)] [(.int r1)] SI2 SJ2 (QI Q)
      refine gj_goq gj_clT ok_216 [18, 26, 30, 40, 63, 129, 133, 157, 166] ?_
      show (r1 = 0 → gj_Goes E om0 mt_216 169 [some (.ref 81), none, some (.long x2), none, some (.int x4)] [] SI2 SJ2 (QI Q)) ∧ (¬ r1 = 0 → gj_Do E om0 (gj_mt 211) [(.ref 81), (.int (i3 2)), (.int (i3 0))] SI2 SJ2 _)
      refine ⟨fun c5 => ?_, fun c5 => ?_⟩
      · refine gj_goq gj_clT ok_216 [18, 26, 30, 40, 63, 129, 133, 157, 166] ?_
        show ((i3 0) = 0 ∨ (i3 0) = 1) ∧ (QI Q (some (.int (i3 0))) SI2 SJ2)
        refine ⟨(Or.inl rfl), ?_⟩
        exact ⟨_, rfl, (q4.1 c5)⟩
      · refine gj_Do.mono (q4.2 c5) (fun v_ SI4 SJ4 h_ => ?_)
        obtain ⟨r3, rfl, q6⟩ := h_
        show gj_Goes E om0 mt_216 166 [some (.ref 81), none, some (.long x2), none, some (.int x4)] [(.int r3)] SI4 SJ4 (QI Q)
        refine gj_goq gj_clT ok_216 [18, 26, 30, 40, 63, 129, 133, 157, 166] ?_
        show (¬ r3 = 0 → gj_Goes E om0 mt_216 171 [some (.ref 81), none, some (.long x2), none, some (.int x4)] [] SI4 SJ4 (QI Q)) ∧ (r3 = 0 → ((i3 0) = 0 ∨ (i3 0) = 1) ∧ (QI Q (some (.int (i3 0))) SI4 SJ4))
        refine ⟨fun c7 => ?_, fun c7 => ?_⟩
        · refine gj_goq gj_clT ok_216 [18, 26, 30, 40, 63, 129, 133, 157, 166] ?_
          show vp_in (((i3 2) * (SI4 81 19)) + x4) 40 ∧ (gj_Goes E om0 mt_216 133 [some (.ref 81), none, some (.long x2), none, some (.int (x4 + (i3 1)))] [] (gj_u2 SI4 90 (gj_n (((i3 2) * (SI4 81 19)) + x4)) (SI4 81 17)) SJ4 (QI Q))
          have k8 := (q6.1 c7).1
          refine ⟨k8, ?_⟩
          exact (q6.1 c7).2
        · refine ⟨(Or.inl rfl), ?_⟩
          exact ⟨_, rfl, (q6.2 c7)⟩
  · refine gj_goq gj_clT ok_216 [18, 26, 30, 40, 63, 129, 133, 157, 166] ?_
    show ((i3 1) ≤ x4 → gj_Goes E om0 mt_216 195 [some (.ref 81), none, some (.long x2), none, some (.int x4)] [] SI SJ (QI Q)) ∧ (¬ (i3 1) ≤ x4 → gj_Do E om0 (gj_mt 210) [(.ref 81), (.int (i3 32))] SI SJ _)
    refine ⟨fun c9 => ?_, fun c9 => ?_⟩
    · refine gj_goq gj_clT ok_216 [18, 26, 30, 40, 63, 129, 133, 157, 166] ?_
      show vp_in (SI 81 19) 12 ∧ (((i3 1) = 0 ∨ (i3 1) = 1) ∧ (QI Q (some (.int (i3 1))) (gj_u2 SI 81 19 ((SI 81 19) + (i3 1))) (gj_w2 SJ 91 (gj_n (SI 81 19)) x2)))
      have k10 := ((h.2 (lgc_eq.mp c1)).1 c9).1
      refine ⟨k10, ?_⟩
      refine ⟨(Or.inr rfl), ?_⟩
      exact ⟨_, rfl, ((h.2 (lgc_eq.mp c1)).1 c9).2⟩
    · refine gj_Do.mono ((h.2 (lgc_eq.mp c1)).2 c9) (fun v_ SI6 SJ6 h_ => ?_)
      obtain ⟨r5, rfl, q11⟩ := h_
      show gj_Goes E om0 mt_216 157 [some (.ref 81), none, some (.long x2), none, some (.int x4)] [(.int r5)] SI6 SJ6 (QI Q)
      refine gj_goq gj_clT ok_216 [18, 26, 30, 40, 63, 129, 133, 157, 166] ?_
      show (r5 = 0 → gj_Goes E om0 mt_216 169 [some (.ref 81), none, some (.long x2), none, some (.int x4)] [] SI6 SJ6 (QI Q)) ∧ (¬ r5 = 0 → gj_Do E om0 (gj_mt 211) [(.ref 81), (.int (i3 2)), (.int (i3 0))] SI6 SJ6 _)
      refine ⟨fun c12 => ?_, fun c12 => ?_⟩
      · refine gj_goq gj_clT ok_216 [18, 26, 30, 40, 63, 129, 133, 157, 166] ?_
        show ((i3 0) = 0 ∨ (i3 0) = 1) ∧ (QI Q (some (.int (i3 0))) SI6 SJ6)
        refine ⟨(Or.inl rfl), ?_⟩
        exact ⟨_, rfl, (q11.1 c12)⟩
      · refine gj_Do.mono (q11.2 c12) (fun v_ SI8 SJ8 h_ => ?_)
        obtain ⟨r7, rfl, q13⟩ := h_
        show gj_Goes E om0 mt_216 166 [some (.ref 81), none, some (.long x2), none, some (.int x4)] [(.int r7)] SI8 SJ8 (QI Q)
        refine gj_goq gj_clT ok_216 [18, 26, 30, 40, 63, 129, 133, 157, 166] ?_
        show (¬ r7 = 0 → gj_Goes E om0 mt_216 171 [some (.ref 81), none, some (.long x2), none, some (.int x4)] [] SI8 SJ8 (QI Q)) ∧ (r7 = 0 → ((i3 0) = 0 ∨ (i3 0) = 1) ∧ (QI Q (some (.int (i3 0))) SI8 SJ8))
        refine ⟨fun c14 => ?_, fun c14 => ?_⟩
        · refine gj_goq gj_clT ok_216 [18, 26, 30, 40, 63, 129, 133, 157, 166] ?_
          show vp_in (((i3 2) * (SI8 81 19)) + x4) 40 ∧ (gj_Goes E om0 mt_216 133 [some (.ref 81), none, some (.long x2), none, some (.int (x4 + (i3 1)))] [] (gj_u2 SI8 90 (gj_n (((i3 2) * (SI8 81 19)) + x4)) (SI8 81 17)) SJ8 (QI Q))
          have k15 := (q13.1 c14).1
          refine ⟨k15, ?_⟩
          exact (q13.1 c14).2
        · refine ⟨(Or.inl rfl), ?_⟩
          exact ⟨_, rfl, (q13.2 c14)⟩
set_option maxRecDepth 20000 in
/-- GraspJudgeModel.does -/
theorem st_217 {E : gj_E} {Q : Int32 → gj_I → gj_J → Prop} (a1 : Int32) (SI : gj_I) (SJ : gj_J) (h : vp_in ((i3 2) * a1) 40 ∧ (vp_in (((i3 2) * a1) + (i3 1)) 40 ∧ (vp_in a1 12 ∧ ((¬ (SJ 91 (gj_n a1)) = (i6 17076) → (¬ (SJ 91 (gj_n a1)) = (i6 656741) → (¬ (SJ 91 (gj_n a1)) = (i6 21566500) → DoI E 202 [(.ref 81), (.int (SI 90 (gj_n ((i3 2) * a1)))), (.int (SI 90 (gj_n (((i3 2) * a1) + (i3 1)))))] SI SJ (fun r1 SI2 SJ2 => (r1 < 0 → Q (i3 0) SI2 SJ2) ∧ (¬ r1 < 0 → Q (i3 1) SI2 SJ2))) ∧ ((SJ 91 (gj_n a1)) = (i6 21566500) → DoI E 201 [(.ref 81), (.int (SI 90 (gj_n ((i3 2) * a1)))), (.int (SI 90 (gj_n (((i3 2) * a1) + (i3 1)))))] SI SJ (fun r3 SI4 SJ4 => (r3 < 0 → Q (i3 0) SI4 SJ4) ∧ (¬ r3 < 0 → Q (i3 1) SI4 SJ4)))) ∧ ((SJ 91 (gj_n a1)) = (i6 656741) → DoI E 200 [(.ref 81), (.int (SI 90 (gj_n ((i3 2) * a1))))] SI SJ (fun r5 SI6 SJ6 => (r5 < 0 → Q (i3 0) SI6 SJ6) ∧ (¬ r5 < 0 → Q (i3 1) SI6 SJ6)))) ∧ ((SJ 91 (gj_n a1)) = (i6 17076) → DoI E 198 [(.ref 81), (.int (SI 90 (gj_n ((i3 2) * a1)))), (.int (SI 90 (gj_n (((i3 2) * a1) + (i3 1)))))] SI SJ (fun r7 SI8 SJ8 => (r7 < 0 → Q (i3 0) SI8 SJ8) ∧ (¬ r7 < 0 → Q (i3 1) SI8 SJ8))))))) : DoI E 217 [(.ref 81), (.int a1)] SI SJ Q := by
  refine gj_start (M := mt_217) ok_217 (Nat.le_of_ble_eq_true rfl) ?_
  refine gj_goq gj_clT ok_217 [43, 60, 78, 87] ?_
  show vp_in ((i3 2) * a1) 40 ∧ (vp_in (((i3 2) * a1) + (i3 1)) 40 ∧ (vp_in a1 12 ∧ ((¬ (lg_cmp (SJ 91 (gj_n a1)) (i6 17076)) = 0 → gj_Goes E om0 mt_217 46 [some (.ref 81), some (.int a1), some (.int (SI 90 (gj_n ((i3 2) * a1)))), some (.int (SI 90 (gj_n (((i3 2) * a1) + (i3 1))))), some (.long (SJ 91 (gj_n a1))), none] [] SI SJ (QI Q)) ∧ ((lg_cmp (SJ 91 (gj_n a1)) (i6 17076)) = 0 → gj_Do E om0 (gj_mt 198) [(.ref 81), (.int (SI 90 (gj_n ((i3 2) * a1)))), (.int (SI 90 (gj_n (((i3 2) * a1) + (i3 1)))))] SI SJ _))))
  have k1 := h.1
  refine ⟨k1, ?_⟩
  have k2 := h.2.1
  refine ⟨k2, ?_⟩
  have k3 := h.2.2.1
  refine ⟨k3, ?_⟩
  refine ⟨fun c4 => ?_, fun c4 => ?_⟩
  · refine gj_goq gj_clT ok_217 [43, 60, 78, 87] ?_
    show (¬ (lg_cmp (SJ 91 (gj_n a1)) (i6 656741)) = 0 → gj_Goes E om0 mt_217 63 [some (.ref 81), some (.int a1), some (.int (SI 90 (gj_n ((i3 2) * a1)))), some (.int (SI 90 (gj_n (((i3 2) * a1) + (i3 1))))), some (.long (SJ 91 (gj_n a1))), none] [] SI SJ (QI Q)) ∧ ((lg_cmp (SJ 91 (gj_n a1)) (i6 656741)) = 0 → gj_Do E om0 (gj_mt 200) [(.ref 81), (.int (SI 90 (gj_n ((i3 2) * a1))))] SI SJ _)
    refine ⟨fun c5 => ?_, fun c5 => ?_⟩
    · refine gj_goq gj_clT ok_217 [43, 60, 78, 87] ?_
      show (¬ (lg_cmp (SJ 91 (gj_n a1)) (i6 21566500)) = 0 → gj_Goes E om0 mt_217 81 [some (.ref 81), some (.int a1), some (.int (SI 90 (gj_n ((i3 2) * a1)))), some (.int (SI 90 (gj_n (((i3 2) * a1) + (i3 1))))), some (.long (SJ 91 (gj_n a1))), none] [] SI SJ (QI Q)) ∧ ((lg_cmp (SJ 91 (gj_n a1)) (i6 21566500)) = 0 → gj_Do E om0 (gj_mt 201) [(.ref 81), (.int (SI 90 (gj_n ((i3 2) * a1)))), (.int (SI 90 (gj_n (((i3 2) * a1) + (i3 1)))))] SI SJ _)
      refine ⟨fun c6 => ?_, fun c6 => ?_⟩
      · refine gj_goq gj_clT ok_217 [43, 60, 78, 87] ?_
        show gj_Do E om0 (gj_mt 202) [(.ref 81), (.int (SI 90 (gj_n ((i3 2) * a1)))), (.int (SI 90 (gj_n (((i3 2) * a1) + (i3 1)))))] SI SJ _
        refine gj_Do.mono (((h.2.2.2.1 (fun z_ => c4 (lgc_eq.mpr z_))).1 (fun z_ => c5 (lgc_eq.mpr z_))).1 (fun z_ => c6 (lgc_eq.mpr z_))) (fun v_ SI2 SJ2 h_ => ?_)
        obtain ⟨r1, rfl, q7⟩ := h_
        show gj_Goes E om0 mt_217 87 [some (.ref 81), some (.int a1), some (.int (SI 90 (gj_n ((i3 2) * a1)))), some (.int (SI 90 (gj_n (((i3 2) * a1) + (i3 1))))), some (.long (SJ 91 (gj_n a1))), none] [(.int r1)] SI2 SJ2 (QI Q)
        refine gj_goq gj_clT ok_217 [43, 60, 78, 87] ?_
        show (r1 < 0 → gj_Goes E om0 mt_217 94 [some (.ref 81), some (.int a1), some (.int (SI 90 (gj_n ((i3 2) * a1)))), some (.int (SI 90 (gj_n (((i3 2) * a1) + (i3 1))))), some (.long (SJ 91 (gj_n a1))), none] [] SI2 SJ2 (QI Q)) ∧ (¬ r1 < 0 → gj_Goes E om0 mt_217 95 [some (.ref 81), some (.int a1), some (.int (SI 90 (gj_n ((i3 2) * a1)))), some (.int (SI 90 (gj_n (((i3 2) * a1) + (i3 1))))), some (.long (SJ 91 (gj_n a1))), none] [(.int (i3 1))] SI2 SJ2 (QI Q))
        refine ⟨fun c8 => ?_, fun c8 => ?_⟩
        · refine gj_goq gj_clT ok_217 [43, 60, 78, 87] ?_
          show ((i3 0) = 0 ∨ (i3 0) = 1) ∧ (QI Q (some (.int (i3 0))) SI2 SJ2)
          refine ⟨(Or.inl rfl), ?_⟩
          exact ⟨_, rfl, (q7.1 c8)⟩
        · refine gj_goq gj_clT ok_217 [43, 60, 78, 87] ?_
          show ((i3 1) = 0 ∨ (i3 1) = 1) ∧ (QI Q (some (.int (i3 1))) SI2 SJ2)
          refine ⟨(Or.inr rfl), ?_⟩
          exact ⟨_, rfl, (q7.2 c8)⟩
      · refine gj_Do.mono (((h.2.2.2.1 (fun z_ => c4 (lgc_eq.mpr z_))).1 (fun z_ => c5 (lgc_eq.mpr z_))).2 (lgc_eq.mp c6)) (fun v_ SI4 SJ4 h_ => ?_)
        obtain ⟨r3, rfl, q9⟩ := h_
        show gj_Goes E om0 mt_217 78 [some (.ref 81), some (.int a1), some (.int (SI 90 (gj_n ((i3 2) * a1)))), some (.int (SI 90 (gj_n (((i3 2) * a1) + (i3 1))))), some (.long (SJ 91 (gj_n a1))), none] [(.int r3)] SI4 SJ4 (QI Q)
        refine gj_goq gj_clT ok_217 [43, 60, 78, 87] ?_
        show gj_Goes E om0 mt_217 87 [some (.ref 81), some (.int a1), some (.int (SI 90 (gj_n ((i3 2) * a1)))), some (.int (SI 90 (gj_n (((i3 2) * a1) + (i3 1))))), some (.long (SJ 91 (gj_n a1))), none] [(.int r3)] SI4 SJ4 (QI Q)
        refine gj_goq gj_clT ok_217 [43, 60, 78, 87] ?_
        show (r3 < 0 → gj_Goes E om0 mt_217 94 [some (.ref 81), some (.int a1), some (.int (SI 90 (gj_n ((i3 2) * a1)))), some (.int (SI 90 (gj_n (((i3 2) * a1) + (i3 1))))), some (.long (SJ 91 (gj_n a1))), none] [] SI4 SJ4 (QI Q)) ∧ (¬ r3 < 0 → gj_Goes E om0 mt_217 95 [some (.ref 81), some (.int a1), some (.int (SI 90 (gj_n ((i3 2) * a1)))), some (.int (SI 90 (gj_n (((i3 2) * a1) + (i3 1))))), some (.long (SJ 91 (gj_n a1))), none] [(.int (i3 1))] SI4 SJ4 (QI Q))
        refine ⟨fun c10 => ?_, fun c10 => ?_⟩
        · refine gj_goq gj_clT ok_217 [43, 60, 78, 87] ?_
          show ((i3 0) = 0 ∨ (i3 0) = 1) ∧ (QI Q (some (.int (i3 0))) SI4 SJ4)
          refine ⟨(Or.inl rfl), ?_⟩
          exact ⟨_, rfl, (q9.1 c10)⟩
        · refine gj_goq gj_clT ok_217 [43, 60, 78, 87] ?_
          show ((i3 1) = 0 ∨ (i3 1) = 1) ∧ (QI Q (some (.int (i3 1))) SI4 SJ4)
          refine ⟨(Or.inr rfl), ?_⟩
          exact ⟨_, rfl, (q9.2 c10)⟩
    · refine gj_Do.mono ((h.2.2.2.1 (fun z_ => c4 (lgc_eq.mpr z_))).2 (lgc_eq.mp c5)) (fun v_ SI6 SJ6 h_ => ?_)
      obtain ⟨r5, rfl, q11⟩ := h_
      show gj_Goes E om0 mt_217 60 [some (.ref 81), some (.int a1), some (.int (SI 90 (gj_n ((i3 2) * a1)))), some (.int (SI 90 (gj_n (((i3 2) * a1) + (i3 1))))), some (.long (SJ 91 (gj_n a1))), none] [(.int r5)] SI6 SJ6 (QI Q)
      refine gj_goq gj_clT ok_217 [43, 60, 78, 87] ?_
      show gj_Goes E om0 mt_217 87 [some (.ref 81), some (.int a1), some (.int (SI 90 (gj_n ((i3 2) * a1)))), some (.int (SI 90 (gj_n (((i3 2) * a1) + (i3 1))))), some (.long (SJ 91 (gj_n a1))), none] [(.int r5)] SI6 SJ6 (QI Q)
      refine gj_goq gj_clT ok_217 [43, 60, 78, 87] ?_
      show (r5 < 0 → gj_Goes E om0 mt_217 94 [some (.ref 81), some (.int a1), some (.int (SI 90 (gj_n ((i3 2) * a1)))), some (.int (SI 90 (gj_n (((i3 2) * a1) + (i3 1))))), some (.long (SJ 91 (gj_n a1))), none] [] SI6 SJ6 (QI Q)) ∧ (¬ r5 < 0 → gj_Goes E om0 mt_217 95 [some (.ref 81), some (.int a1), some (.int (SI 90 (gj_n ((i3 2) * a1)))), some (.int (SI 90 (gj_n (((i3 2) * a1) + (i3 1))))), some (.long (SJ 91 (gj_n a1))), none] [(.int (i3 1))] SI6 SJ6 (QI Q))
      refine ⟨fun c12 => ?_, fun c12 => ?_⟩
      · refine gj_goq gj_clT ok_217 [43, 60, 78, 87] ?_
        show ((i3 0) = 0 ∨ (i3 0) = 1) ∧ (QI Q (some (.int (i3 0))) SI6 SJ6)
        refine ⟨(Or.inl rfl), ?_⟩
        exact ⟨_, rfl, (q11.1 c12)⟩
      · refine gj_goq gj_clT ok_217 [43, 60, 78, 87] ?_
        show ((i3 1) = 0 ∨ (i3 1) = 1) ∧ (QI Q (some (.int (i3 1))) SI6 SJ6)
        refine ⟨(Or.inr rfl), ?_⟩
        exact ⟨_, rfl, (q11.2 c12)⟩
  · refine gj_Do.mono (h.2.2.2.2 (lgc_eq.mp c4)) (fun v_ SI8 SJ8 h_ => ?_)
    obtain ⟨r7, rfl, q13⟩ := h_
    show gj_Goes E om0 mt_217 43 [some (.ref 81), some (.int a1), some (.int (SI 90 (gj_n ((i3 2) * a1)))), some (.int (SI 90 (gj_n (((i3 2) * a1) + (i3 1))))), some (.long (SJ 91 (gj_n a1))), none] [(.int r7)] SI8 SJ8 (QI Q)
    refine gj_goq gj_clT ok_217 [43, 60, 78, 87] ?_
    show gj_Goes E om0 mt_217 87 [some (.ref 81), some (.int a1), some (.int (SI 90 (gj_n ((i3 2) * a1)))), some (.int (SI 90 (gj_n (((i3 2) * a1) + (i3 1))))), some (.long (SJ 91 (gj_n a1))), none] [(.int r7)] SI8 SJ8 (QI Q)
    refine gj_goq gj_clT ok_217 [43, 60, 78, 87] ?_
    show (r7 < 0 → gj_Goes E om0 mt_217 94 [some (.ref 81), some (.int a1), some (.int (SI 90 (gj_n ((i3 2) * a1)))), some (.int (SI 90 (gj_n (((i3 2) * a1) + (i3 1))))), some (.long (SJ 91 (gj_n a1))), none] [] SI8 SJ8 (QI Q)) ∧ (¬ r7 < 0 → gj_Goes E om0 mt_217 95 [some (.ref 81), some (.int a1), some (.int (SI 90 (gj_n ((i3 2) * a1)))), some (.int (SI 90 (gj_n (((i3 2) * a1) + (i3 1))))), some (.long (SJ 91 (gj_n a1))), none] [(.int (i3 1))] SI8 SJ8 (QI Q))
    refine ⟨fun c14 => ?_, fun c14 => ?_⟩
    · refine gj_goq gj_clT ok_217 [43, 60, 78, 87] ?_
      show ((i3 0) = 0 ∨ (i3 0) = 1) ∧ (QI Q (some (.int (i3 0))) SI8 SJ8)
      refine ⟨(Or.inl rfl), ?_⟩
      exact ⟨_, rfl, (q13.1 c14)⟩
    · refine gj_goq gj_clT ok_217 [43, 60, 78, 87] ?_
      show ((i3 1) = 0 ∨ (i3 1) = 1) ∧ (QI Q (some (.int (i3 1))) SI8 SJ8)
      refine ⟨(Or.inr rfl), ?_⟩
      exact ⟨_, rfl, (q13.2 c14)⟩
set_option maxRecDepth 20000 in
/-- GraspJudgeModel.orders -/
theorem st_218 {E : gj_E} {Q : Int32 → gj_I → gj_J → Prop} (a1 : Int32) (SI : gj_I) (SJ : gj_J) (h : DoI E 212 [(.ref 81), (.int a1), (.int (i3 120))] SI SJ (fun r1 SI2 SJ2 => (¬ r1 = 0 → DoI E 216 [(.ref 81)] (gj_u2 SI2 81 19 (i3 0)) SJ2 (fun r3 SI4 SJ4 => GoI E mt_218 22 [some (.ref 81), none, some (.int r3), none, none] SI4 SJ4 Q)) ∧ (r1 = 0 → Q (i3 (-1)) SI2 SJ2))) : DoI E 218 [(.ref 81), (.int a1)] SI SJ Q := by
  refine gj_start (M := mt_218) ok_218 (Nat.le_of_ble_eq_true rfl) ?_
  refine gj_goq gj_clT ok_218 [7, 21, 22, 43, 50, 79, 91] ?_
  show gj_Do E om0 (gj_mt 212) [(.ref 81), (.int a1), (.int (i3 120))] SI SJ _
  refine gj_Do.mono h (fun v_ SI2 SJ2 h_ => ?_)
  obtain ⟨r1, rfl, q1⟩ := h_
  show gj_Goes E om0 mt_218 7 [some (.ref 81), some (.int a1), none, none, none] [(.int r1)] SI2 SJ2 (QI Q)
  refine gj_goq gj_clT ok_218 [7, 21, 22, 43, 50, 79, 91] ?_
  show (¬ r1 = 0 → gj_Goes E om0 mt_218 12 [some (.ref 81), some (.int a1), none, none, none] [] SI2 SJ2 (QI Q)) ∧ (r1 = 0 → QI Q (some (.int (i3 (-1)))) SI2 SJ2)
  refine ⟨fun c2 => ?_, fun c2 => ?_⟩
  · refine gj_goq gj_clT ok_218 [7, 21, 22, 43, 50, 79, 91] ?_
    show gj_Do E om0 (gj_mt 216) [(.ref 81)] (gj_u2 SI2 81 19 (i3 0)) SJ2 _
    refine gj_Do.mono (q1.1 c2) (fun v_ SI4 SJ4 h_ => ?_)
    obtain ⟨r3, rfl, q3⟩ := h_
    show gj_Goes E om0 mt_218 21 [some (.ref 81), some (.int a1), none, none, none] [(.int r3)] SI4 SJ4 (QI Q)
    refine gj_goq gj_clT ok_218 [7, 21, 22, 43, 50, 79, 91] ?_
    show gj_Goes E om0 mt_218 22 [some (.ref 81), some (.int a1), some (.int r3), none, none] [] SI4 SJ4 (QI Q)
    exact gj_fh q3 (And.intro (Or.inr rfl) (And.intro (Or.inl rfl) (And.intro (Or.inr rfl) (And.intro (Or.inl rfl) (And.intro (Or.inl rfl) trivial)))))
  · exact ⟨_, rfl, (q1.2 c2)⟩
set_option maxRecDepth 20000 in
theorem lp_218_22 {E : gj_E} {Q : Int32 → gj_I → gj_J → Prop} (x2 : Int32) (SI : gj_I) (SJ : gj_J) (h : (x2 = 0 → (¬ x2 = 0 → GoI E mt_218 79 [some (.ref 81), none, none, some (.int (SI 81 19)), some (.int (i3 0))] SI SJ Q) ∧ (x2 = 0 → Q (SI 81 16) SI SJ)) ∧ (¬ x2 = 0 → ((SI 81 15) ≤ (SI 81 14) → (¬ x2 = 0 → GoI E mt_218 79 [some (.ref 81), none, none, some (.int (SI 81 19)), some (.int (i3 0))] SI SJ Q) ∧ (x2 = 0 → Q (SI 81 16) SI SJ)) ∧ (¬ (SI 81 15) ≤ (SI 81 14) → DoI E 210 [(.ref 81), (.int (i3 59))] SI SJ (fun r1 SI2 SJ2 => (r1 = 0 → GoI E mt_218 22 [some (.ref 81), none, some (.int (i3 0)), none, none] SI2 SJ2 Q) ∧ (¬ r1 = 0 → DoI E 216 [(.ref 81)] SI2 SJ2 (fun r3 SI4 SJ4 => (r3 = 0 → GoI E mt_218 22 [some (.ref 81), none, some (.int (i3 0)), none, none] SI4 SJ4 Q) ∧ (¬ r3 = 0 → GoI E mt_218 22 [some (.ref 81), none, some (.int (i3 1)), none, none] SI4 SJ4 Q))))))) : GoI E mt_218 22 [some (.ref 81), none, some (.int x2), none, none] SI SJ Q := by
  refine gj_goq gj_clT ok_218 [7, 21, 22, 43, 50, 79, 91] ?_
  show (x2 = 0 → gj_Goes E om0 mt_218 62 [some (.ref 81), none, some (.int x2), none, none] [] SI SJ (QI Q)) ∧ (¬ x2 = 0 → ((SI 81 15) ≤ (SI 81 14) → gj_Goes E om0 mt_218 62 [some (.ref 81), none, some (.int x2), none, none] [] SI SJ (QI Q)) ∧ (¬ (SI 81 15) ≤ (SI 81 14) → gj_Do E om0 (gj_mt 210) [(.ref 81), (.int (i3 59))] SI SJ _))
  refine ⟨fun c1 => ?_, fun c1 => ?_⟩
  · refine gj_goq gj_clT ok_218 [7, 21, 22, 43, 50, 79, 91] ?_
    show (¬ x2 = 0 → gj_Goes E om0 mt_218 71 [some (.ref 81), none, some (.int x2), none, none] [] SI SJ (QI Q)) ∧ (x2 = 0 → QI Q (some (.int (SI 81 16))) SI SJ)
    refine ⟨fun c2 => ?_, fun c2 => ?_⟩
    · refine gj_goq gj_clT ok_218 [7, 21, 22, 43, 50, 79, 91] ?_
      show gj_Goes E om0 mt_218 79 [some (.ref 81), none, some (.int x2), some (.int (SI 81 19)), some (.int (i3 0))] [] SI SJ (QI Q)
      exact gj_fh ((h.1 c1).1 c2) (And.intro (Or.inr rfl) (And.intro (Or.inl rfl) (And.intro (Or.inl rfl) (And.intro (Or.inr rfl) (And.intro (Or.inr rfl) trivial)))))
    · exact ⟨_, rfl, ((h.1 c1).2 c2)⟩
  · refine ⟨fun c3 => ?_, fun c3 => ?_⟩
    · refine gj_goq gj_clT ok_218 [7, 21, 22, 43, 50, 79, 91] ?_
      show (¬ x2 = 0 → gj_Goes E om0 mt_218 71 [some (.ref 81), none, some (.int x2), none, none] [] SI SJ (QI Q)) ∧ (x2 = 0 → QI Q (some (.int (SI 81 16))) SI SJ)
      refine ⟨fun c4 => ?_, fun c4 => ?_⟩
      · refine gj_goq gj_clT ok_218 [7, 21, 22, 43, 50, 79, 91] ?_
        show gj_Goes E om0 mt_218 79 [some (.ref 81), none, some (.int x2), some (.int (SI 81 19)), some (.int (i3 0))] [] SI SJ (QI Q)
        exact gj_fh (((h.2 c1).1 c3).1 c4) (And.intro (Or.inr rfl) (And.intro (Or.inl rfl) (And.intro (Or.inl rfl) (And.intro (Or.inr rfl) (And.intro (Or.inr rfl) trivial)))))
      · exact ⟨_, rfl, (((h.2 c1).1 c3).2 c4)⟩
    · refine gj_Do.mono ((h.2 c1).2 c3) (fun v_ SI2 SJ2 h_ => ?_)
      obtain ⟨r1, rfl, q5⟩ := h_
      show gj_Goes E om0 mt_218 43 [some (.ref 81), none, some (.int x2), none, none] [(.int r1)] SI2 SJ2 (QI Q)
      refine gj_goq gj_clT ok_218 [7, 21, 22, 43, 50, 79, 91] ?_
      show (r1 = 0 → gj_Goes E om0 mt_218 57 [some (.ref 81), none, some (.int x2), none, none] [] SI2 SJ2 (QI Q)) ∧ (¬ r1 = 0 → gj_Do E om0 (gj_mt 216) [(.ref 81)] SI2 SJ2 _)
      refine ⟨fun c6 => ?_, fun c6 => ?_⟩
      · refine gj_goq gj_clT ok_218 [7, 21, 22, 43, 50, 79, 91] ?_
        show gj_Goes E om0 mt_218 22 [some (.ref 81), none, some (.int (i3 0)), none, none] [] SI2 SJ2 (QI Q)
        exact (q5.1 c6)
      · refine gj_Do.mono (q5.2 c6) (fun v_ SI4 SJ4 h_ => ?_)
        obtain ⟨r3, rfl, q7⟩ := h_
        show gj_Goes E om0 mt_218 50 [some (.ref 81), none, some (.int x2), none, none] [(.int r3)] SI4 SJ4 (QI Q)
        refine gj_goq gj_clT ok_218 [7, 21, 22, 43, 50, 79, 91] ?_
        show (r3 = 0 → gj_Goes E om0 mt_218 57 [some (.ref 81), none, some (.int x2), none, none] [] SI4 SJ4 (QI Q)) ∧ (¬ r3 = 0 → gj_Goes E om0 mt_218 58 [some (.ref 81), none, some (.int x2), none, none] [(.int (i3 1))] SI4 SJ4 (QI Q))
        refine ⟨fun c8 => ?_, fun c8 => ?_⟩
        · refine gj_goq gj_clT ok_218 [7, 21, 22, 43, 50, 79, 91] ?_
          show gj_Goes E om0 mt_218 22 [some (.ref 81), none, some (.int (i3 0)), none, none] [] SI4 SJ4 (QI Q)
          exact (q7.1 c8)
        · refine gj_goq gj_clT ok_218 [7, 21, 22, 43, 50, 79, 91] ?_
          show gj_Goes E om0 mt_218 22 [some (.ref 81), none, some (.int (i3 1)), none, none] [] SI4 SJ4 (QI Q)
          exact (q7.2 c8)
set_option maxRecDepth 20000 in
theorem lp_218_79 {E : gj_E} {Q : Int32 → gj_I → gj_J → Prop} (x3 : Int32) (x4 : Int32) (SI : gj_I) (SJ : gj_J) (h : (x3 ≤ x4 → Q x4 SI SJ) ∧ (¬ x3 ≤ x4 → DoI E 217 [(.ref 81), (.int x4)] SI SJ (fun r1 SI2 SJ2 => (r1 = 0 → Q x4 SI2 SJ2) ∧ (¬ r1 = 0 → GoI E mt_218 79 [some (.ref 81), none, none, some (.int x3), some (.int (x4 + (i3 1)))] SI2 SJ2 Q)))) : GoI E mt_218 79 [some (.ref 81), none, none, some (.int x3), some (.int x4)] SI SJ Q := by
  refine gj_goq gj_clT ok_218 [7, 21, 22, 43, 50, 79, 91] ?_
  show (x3 ≤ x4 → gj_Goes E om0 mt_218 103 [some (.ref 81), none, none, some (.int x3), some (.int x4)] [] SI SJ (QI Q)) ∧ (¬ x3 ≤ x4 → gj_Do E om0 (gj_mt 217) [(.ref 81), (.int x4)] SI SJ _)
  refine ⟨fun c1 => ?_, fun c1 => ?_⟩
  · refine gj_goq gj_clT ok_218 [7, 21, 22, 43, 50, 79, 91] ?_
    show QI Q (some (.int x4)) SI SJ
    exact ⟨_, rfl, (h.1 c1)⟩
  · refine gj_Do.mono (h.2 c1) (fun v_ SI2 SJ2 h_ => ?_)
    obtain ⟨r1, rfl, q2⟩ := h_
    show gj_Goes E om0 mt_218 91 [some (.ref 81), none, none, some (.int x3), some (.int x4)] [(.int r1)] SI2 SJ2 (QI Q)
    refine gj_goq gj_clT ok_218 [7, 21, 22, 43, 50, 79, 91] ?_
    show (r1 = 0 → gj_Goes E om0 mt_218 103 [some (.ref 81), none, none, some (.int x3), some (.int x4)] [] SI2 SJ2 (QI Q)) ∧ (¬ r1 = 0 → gj_Goes E om0 mt_218 79 [some (.ref 81), none, none, some (.int x3), some (.int (x4 + (i3 1)))] [] SI2 SJ2 (QI Q))
    refine ⟨fun c3 => ?_, fun c3 => ?_⟩
    · refine gj_goq gj_clT ok_218 [7, 21, 22, 43, 50, 79, 91] ?_
      show QI Q (some (.int x4)) SI2 SJ2
      exact ⟨_, rfl, (q2.1 c3)⟩
    · exact (q2.2 c3)
set_option maxRecDepth 20000 in
/-- GraspJudgeModel.readsLoad -/
theorem st_219 {E : gj_E} {Q : Int32 → gj_I → gj_J → Prop} (SI : gj_I) (SJ : gj_J) (h : (¬ (SI 81 19) = (i3 6) → GoI E mt_219 21 [some (.ref 81), some (.int (i3 0))] SI SJ Q) ∧ ((SI 81 19) = (i3 6) → DoI E 209 [(.ref 81), (.int (i3 4)), (.int (SI 81 14))] SI SJ (fun r1 SI2 SJ2 => (r1 = 0 ∨ r1 = 1) ∧ (Q r1 SI2 SJ2)))) : DoI E 219 [(.ref 81)] SI SJ Q := by
  refine gj_start (M := mt_219) ok_219 (Nat.le_of_ble_eq_true rfl) ?_
  refine gj_goq gj_clT ok_219 [18, 21, 36, 47] ?_
  show (¬ (SI 81 19) = (i3 6) → gj_Goes E om0 mt_219 19 [some (.ref 81), none] [] SI SJ (QI Q)) ∧ ((SI 81 19) = (i3 6) → gj_Do E om0 (gj_mt 209) [(.ref 81), (.int (i3 4)), (.int (SI 81 14))] SI SJ _)
  refine ⟨fun c1 => ?_, fun c1 => ?_⟩
  · refine gj_goq gj_clT ok_219 [18, 21, 36, 47] ?_
    show gj_Goes E om0 mt_219 21 [some (.ref 81), some (.int (i3 0))] [] SI SJ (QI Q)
    exact (h.1 c1)
  · refine gj_Do.mono (h.2 c1) (fun v_ SI2 SJ2 h_ => ?_)
    obtain ⟨r1, rfl, q2⟩ := h_
    show gj_Goes E om0 mt_219 18 [some (.ref 81), none] [(.int r1)] SI2 SJ2 (QI Q)
    refine gj_goq gj_clT ok_219 [18, 21, 36, 47] ?_
    show (r1 = 0 ∨ r1 = 1) ∧ (QI Q (some (.int r1)) SI2 SJ2)
    have k3 := q2.1
    refine ⟨k3, ?_⟩
    exact ⟨_, rfl, q2.2⟩
set_option maxRecDepth 20000 in
theorem lp_219_21 {E : gj_E} {Q : Int32 → gj_I → gj_J → Prop} (x1 : Int32) (SI : gj_I) (SJ : gj_J) (h : ((i3 3) ≤ x1 → Q (i3 1) (gj_u2 SI 81 19 ((SI 81 19) + (i3 1))) SJ) ∧ (¬ (i3 3) ≤ x1 → (x1 ≤ 0 → DoI E 211 [(.ref 81), (.int (i3 3)), (.int (i3 1))] SI SJ (fun r1 SI2 SJ2 => (¬ r1 = 0 → vp_in (((i3 3) * (SI2 81 19)) + x1) 40 ∧ (GoI E mt_219 21 [some (.ref 81), some (.int (x1 + (i3 1)))] (gj_u2 SI2 90 (gj_n (((i3 3) * (SI2 81 19)) + x1)) (SI2 81 17)) SJ2 Q)) ∧ (r1 = 0 → Q (i3 0) SI2 SJ2))) ∧ (¬ x1 ≤ 0 → DoI E 210 [(.ref 81), (.int (i3 44))] SI SJ (fun r3 SI4 SJ4 => (¬ r3 = 0 → DoI E 211 [(.ref 81), (.int (i3 3)), (.int (i3 1))] SI4 SJ4 (fun r5 SI6 SJ6 => (¬ r5 = 0 → vp_in (((i3 3) * (SI6 81 19)) + x1) 40 ∧ (GoI E mt_219 21 [some (.ref 81), some (.int (x1 + (i3 1)))] (gj_u2 SI6 90 (gj_n (((i3 3) * (SI6 81 19)) + x1)) (SI6 81 17)) SJ6 Q)) ∧ (r5 = 0 → Q (i3 0) SI6 SJ6))) ∧ (r3 = 0 → Q (i3 0) SI4 SJ4))))) : GoI E mt_219 21 [some (.ref 81), some (.int x1)] SI SJ Q := by
  refine gj_goq gj_clT ok_219 [18, 21, 36, 47] ?_
  show ((i3 3) ≤ x1 → gj_Goes E om0 mt_219 75 [some (.ref 81), some (.int x1)] [] SI SJ (QI Q)) ∧ (¬ (i3 3) ≤ x1 → (x1 ≤ 0 → gj_Goes E om0 mt_219 41 [some (.ref 81), some (.int x1)] [] SI SJ (QI Q)) ∧ (¬ x1 ≤ 0 → gj_Do E om0 (gj_mt 210) [(.ref 81), (.int (i3 44))] SI SJ _))
  refine ⟨fun c1 => ?_, fun c1 => ?_⟩
  · refine gj_goq gj_clT ok_219 [18, 21, 36, 47] ?_
    show ((i3 1) = 0 ∨ (i3 1) = 1) ∧ (QI Q (some (.int (i3 1))) (gj_u2 SI 81 19 ((SI 81 19) + (i3 1))) SJ)
    refine ⟨(Or.inr rfl), ?_⟩
    exact ⟨_, rfl, (h.1 c1)⟩
  · refine ⟨fun c2 => ?_, fun c2 => ?_⟩
    · refine gj_goq gj_clT ok_219 [18, 21, 36, 47] ?_
      show gj_Do E om0 (gj_mt 211) [(.ref 81), (.int (i3 3)), (.int (i3 1))] SI SJ _
      refine gj_Do.mono ((h.2 c1).1 c2) (fun v_ SI2 SJ2 h_ => ?_)
      obtain ⟨r1, rfl, q3⟩ := h_
      show gj_Goes E om0 mt_219 47 [some (.ref 81), some (.int x1)] [(.int r1)] SI2 SJ2 (QI Q)
      refine gj_goq gj_clT ok_219 [18, 21, 36, 47] ?_
      show (¬ r1 = 0 → gj_Goes E om0 mt_219 52 [some (.ref 81), some (.int x1)] [] SI2 SJ2 (QI Q)) ∧ (r1 = 0 → ((i3 0) = 0 ∨ (i3 0) = 1) ∧ (QI Q (some (.int (i3 0))) SI2 SJ2))
      refine ⟨fun c4 => ?_, fun c4 => ?_⟩
      · refine gj_goq gj_clT ok_219 [18, 21, 36, 47] ?_
        show vp_in (((i3 3) * (SI2 81 19)) + x1) 40 ∧ (gj_Goes E om0 mt_219 21 [some (.ref 81), some (.int (x1 + (i3 1)))] [] (gj_u2 SI2 90 (gj_n (((i3 3) * (SI2 81 19)) + x1)) (SI2 81 17)) SJ2 (QI Q))
        have k5 := (q3.1 c4).1
        refine ⟨k5, ?_⟩
        exact (q3.1 c4).2
      · refine ⟨(Or.inl rfl), ?_⟩
        exact ⟨_, rfl, (q3.2 c4)⟩
    · refine gj_Do.mono ((h.2 c1).2 c2) (fun v_ SI4 SJ4 h_ => ?_)
      obtain ⟨r3, rfl, q6⟩ := h_
      show gj_Goes E om0 mt_219 36 [some (.ref 81), some (.int x1)] [(.int r3)] SI4 SJ4 (QI Q)
      refine gj_goq gj_clT ok_219 [18, 21, 36, 47] ?_
      show (¬ r3 = 0 → gj_Goes E om0 mt_219 41 [some (.ref 81), some (.int x1)] [] SI4 SJ4 (QI Q)) ∧ (r3 = 0 → ((i3 0) = 0 ∨ (i3 0) = 1) ∧ (QI Q (some (.int (i3 0))) SI4 SJ4))
      refine ⟨fun c7 => ?_, fun c7 => ?_⟩
      · refine gj_goq gj_clT ok_219 [18, 21, 36, 47] ?_
        show gj_Do E om0 (gj_mt 211) [(.ref 81), (.int (i3 3)), (.int (i3 1))] SI4 SJ4 _
        refine gj_Do.mono (q6.1 c7) (fun v_ SI6 SJ6 h_ => ?_)
        obtain ⟨r5, rfl, q8⟩ := h_
        show gj_Goes E om0 mt_219 47 [some (.ref 81), some (.int x1)] [(.int r5)] SI6 SJ6 (QI Q)
        refine gj_goq gj_clT ok_219 [18, 21, 36, 47] ?_
        show (¬ r5 = 0 → gj_Goes E om0 mt_219 52 [some (.ref 81), some (.int x1)] [] SI6 SJ6 (QI Q)) ∧ (r5 = 0 → ((i3 0) = 0 ∨ (i3 0) = 1) ∧ (QI Q (some (.int (i3 0))) SI6 SJ6))
        refine ⟨fun c9 => ?_, fun c9 => ?_⟩
        · refine gj_goq gj_clT ok_219 [18, 21, 36, 47] ?_
          show vp_in (((i3 3) * (SI6 81 19)) + x1) 40 ∧ (gj_Goes E om0 mt_219 21 [some (.ref 81), some (.int (x1 + (i3 1)))] [] (gj_u2 SI6 90 (gj_n (((i3 3) * (SI6 81 19)) + x1)) (SI6 81 17)) SJ6 (QI Q))
          have k10 := (q8.1 c9).1
          refine ⟨k10, ?_⟩
          exact (q8.1 c9).2
        · refine ⟨(Or.inl rfl), ?_⟩
          exact ⟨_, rfl, (q8.2 c9)⟩
      · refine ⟨(Or.inl rfl), ?_⟩
        exact ⟨_, rfl, (q6.2 c7)⟩
set_option maxRecDepth 20000 in
/-- GraspJudgeModel.loads -/
theorem st_220 {E : gj_E} {Q : Int32 → gj_I → gj_J → Prop} (a1 : Int32) (SI : gj_I) (SJ : gj_J) (h : DoI E 212 [(.ref 81), (.int a1), (.int (i3 60))] SI SJ (fun r1 SI2 SJ2 => (¬ r1 = 0 → DoI E 219 [(.ref 81)] (gj_u2 SI2 81 19 (i3 0)) SJ2 (fun r3 SI4 SJ4 => GoI E mt_220 22 [some (.ref 81), none, some (.int r3), none] SI4 SJ4 Q)) ∧ (r1 = 0 → Q (i3 (-1)) SI2 SJ2))) : DoI E 220 [(.ref 81), (.int a1)] SI SJ Q := by
  refine gj_start (M := mt_220) ok_220 (Nat.le_of_ble_eq_true rfl) ?_
  refine gj_goq gj_clT ok_220 [7, 21, 22, 43, 50, 84] ?_
  show gj_Do E om0 (gj_mt 212) [(.ref 81), (.int a1), (.int (i3 60))] SI SJ _
  refine gj_Do.mono h (fun v_ SI2 SJ2 h_ => ?_)
  obtain ⟨r1, rfl, q1⟩ := h_
  show gj_Goes E om0 mt_220 7 [some (.ref 81), some (.int a1), none, none] [(.int r1)] SI2 SJ2 (QI Q)
  refine gj_goq gj_clT ok_220 [7, 21, 22, 43, 50, 84] ?_
  show (¬ r1 = 0 → gj_Goes E om0 mt_220 12 [some (.ref 81), some (.int a1), none, none] [] SI2 SJ2 (QI Q)) ∧ (r1 = 0 → QI Q (some (.int (i3 (-1)))) SI2 SJ2)
  refine ⟨fun c2 => ?_, fun c2 => ?_⟩
  · refine gj_goq gj_clT ok_220 [7, 21, 22, 43, 50, 84] ?_
    show gj_Do E om0 (gj_mt 219) [(.ref 81)] (gj_u2 SI2 81 19 (i3 0)) SJ2 _
    refine gj_Do.mono (q1.1 c2) (fun v_ SI4 SJ4 h_ => ?_)
    obtain ⟨r3, rfl, q3⟩ := h_
    show gj_Goes E om0 mt_220 21 [some (.ref 81), some (.int a1), none, none] [(.int r3)] SI4 SJ4 (QI Q)
    refine gj_goq gj_clT ok_220 [7, 21, 22, 43, 50, 84] ?_
    show gj_Goes E om0 mt_220 22 [some (.ref 81), some (.int a1), some (.int r3), none] [] SI4 SJ4 (QI Q)
    exact gj_fh q3 (And.intro (Or.inr rfl) (And.intro (Or.inl rfl) (And.intro (Or.inr rfl) (And.intro (Or.inl rfl) trivial))))
  · exact ⟨_, rfl, (q1.2 c2)⟩
set_option maxRecDepth 20000 in
theorem lp_220_22 {E : gj_E} {Q : Int32 → gj_I → gj_J → Prop} (x2 : Int32) (SI : gj_I) (SJ : gj_J) (h : (x2 = 0 → (¬ x2 = 0 → GoI E mt_220 84 [some (.ref 81), none, none, some (.int (i3 0))] (gj_u2 SI 82 116 (SI 81 19)) SJ Q) ∧ (x2 = 0 → Q (SI 81 16) SI SJ)) ∧ (¬ x2 = 0 → ((SI 81 15) ≤ (SI 81 14) → (¬ x2 = 0 → GoI E mt_220 84 [some (.ref 81), none, none, some (.int (i3 0))] (gj_u2 SI 82 116 (SI 81 19)) SJ Q) ∧ (x2 = 0 → Q (SI 81 16) SI SJ)) ∧ (¬ (SI 81 15) ≤ (SI 81 14) → DoI E 210 [(.ref 81), (.int (i3 59))] SI SJ (fun r1 SI2 SJ2 => (r1 = 0 → GoI E mt_220 22 [some (.ref 81), none, some (.int (i3 0)), none] SI2 SJ2 Q) ∧ (¬ r1 = 0 → DoI E 219 [(.ref 81)] SI2 SJ2 (fun r3 SI4 SJ4 => (r3 = 0 → GoI E mt_220 22 [some (.ref 81), none, some (.int (i3 0)), none] SI4 SJ4 Q) ∧ (¬ r3 = 0 → GoI E mt_220 22 [some (.ref 81), none, some (.int (i3 1)), none] SI4 SJ4 Q))))))) : GoI E mt_220 22 [some (.ref 81), none, some (.int x2), none] SI SJ Q := by
  refine gj_goq gj_clT ok_220 [7, 21, 22, 43, 50, 84] ?_
  show (x2 = 0 → gj_Goes E om0 mt_220 62 [some (.ref 81), none, some (.int x2), none] [] SI SJ (QI Q)) ∧ (¬ x2 = 0 → ((SI 81 15) ≤ (SI 81 14) → gj_Goes E om0 mt_220 62 [some (.ref 81), none, some (.int x2), none] [] SI SJ (QI Q)) ∧ (¬ (SI 81 15) ≤ (SI 81 14) → gj_Do E om0 (gj_mt 210) [(.ref 81), (.int (i3 59))] SI SJ _))
  refine ⟨fun c1 => ?_, fun c1 => ?_⟩
  · refine gj_goq gj_clT ok_220 [7, 21, 22, 43, 50, 84] ?_
    show (¬ x2 = 0 → gj_Goes E om0 mt_220 71 [some (.ref 81), none, some (.int x2), none] [] SI SJ (QI Q)) ∧ (x2 = 0 → QI Q (some (.int (SI 81 16))) SI SJ)
    refine ⟨fun c2 => ?_, fun c2 => ?_⟩
    · refine gj_goq gj_clT ok_220 [7, 21, 22, 43, 50, 84] ?_
      show vp_in (i3 116) 135 ∧ (gj_Goes E om0 mt_220 84 [some (.ref 81), none, some (.int x2), some (.int (i3 0))] [] (gj_u2 SI 82 116 (SI 81 19)) SJ (QI Q))
      refine ⟨(gj_vin (by decide)), ?_⟩
      exact gj_fh ((h.1 c1).1 c2) (And.intro (Or.inr rfl) (And.intro (Or.inl rfl) (And.intro (Or.inl rfl) (And.intro (Or.inr rfl) trivial))))
    · exact ⟨_, rfl, ((h.1 c1).2 c2)⟩
  · refine ⟨fun c3 => ?_, fun c3 => ?_⟩
    · refine gj_goq gj_clT ok_220 [7, 21, 22, 43, 50, 84] ?_
      show (¬ x2 = 0 → gj_Goes E om0 mt_220 71 [some (.ref 81), none, some (.int x2), none] [] SI SJ (QI Q)) ∧ (x2 = 0 → QI Q (some (.int (SI 81 16))) SI SJ)
      refine ⟨fun c4 => ?_, fun c4 => ?_⟩
      · refine gj_goq gj_clT ok_220 [7, 21, 22, 43, 50, 84] ?_
        show vp_in (i3 116) 135 ∧ (gj_Goes E om0 mt_220 84 [some (.ref 81), none, some (.int x2), some (.int (i3 0))] [] (gj_u2 SI 82 116 (SI 81 19)) SJ (QI Q))
        refine ⟨(gj_vin (by decide)), ?_⟩
        exact gj_fh (((h.2 c1).1 c3).1 c4) (And.intro (Or.inr rfl) (And.intro (Or.inl rfl) (And.intro (Or.inl rfl) (And.intro (Or.inr rfl) trivial))))
      · exact ⟨_, rfl, (((h.2 c1).1 c3).2 c4)⟩
    · refine gj_Do.mono ((h.2 c1).2 c3) (fun v_ SI2 SJ2 h_ => ?_)
      obtain ⟨r1, rfl, q5⟩ := h_
      show gj_Goes E om0 mt_220 43 [some (.ref 81), none, some (.int x2), none] [(.int r1)] SI2 SJ2 (QI Q)
      refine gj_goq gj_clT ok_220 [7, 21, 22, 43, 50, 84] ?_
      show (r1 = 0 → gj_Goes E om0 mt_220 57 [some (.ref 81), none, some (.int x2), none] [] SI2 SJ2 (QI Q)) ∧ (¬ r1 = 0 → gj_Do E om0 (gj_mt 219) [(.ref 81)] SI2 SJ2 _)
      refine ⟨fun c6 => ?_, fun c6 => ?_⟩
      · refine gj_goq gj_clT ok_220 [7, 21, 22, 43, 50, 84] ?_
        show gj_Goes E om0 mt_220 22 [some (.ref 81), none, some (.int (i3 0)), none] [] SI2 SJ2 (QI Q)
        exact (q5.1 c6)
      · refine gj_Do.mono (q5.2 c6) (fun v_ SI4 SJ4 h_ => ?_)
        obtain ⟨r3, rfl, q7⟩ := h_
        show gj_Goes E om0 mt_220 50 [some (.ref 81), none, some (.int x2), none] [(.int r3)] SI4 SJ4 (QI Q)
        refine gj_goq gj_clT ok_220 [7, 21, 22, 43, 50, 84] ?_
        show (r3 = 0 → gj_Goes E om0 mt_220 57 [some (.ref 81), none, some (.int x2), none] [] SI4 SJ4 (QI Q)) ∧ (¬ r3 = 0 → gj_Goes E om0 mt_220 58 [some (.ref 81), none, some (.int x2), none] [(.int (i3 1))] SI4 SJ4 (QI Q))
        refine ⟨fun c8 => ?_, fun c8 => ?_⟩
        · refine gj_goq gj_clT ok_220 [7, 21, 22, 43, 50, 84] ?_
          show gj_Goes E om0 mt_220 22 [some (.ref 81), none, some (.int (i3 0)), none] [] SI4 SJ4 (QI Q)
          exact (q7.1 c8)
        · refine gj_goq gj_clT ok_220 [7, 21, 22, 43, 50, 84] ?_
          show gj_Goes E om0 mt_220 22 [some (.ref 81), none, some (.int (i3 1)), none] [] SI4 SJ4 (QI Q)
          exact (q7.2 c8)
set_option maxRecDepth 20000 in
theorem lp_220_84 {E : gj_E} {Q : Int32 → gj_I → gj_J → Prop} (x3 : Int32) (SI : gj_I) (SJ : gj_J) (h : (((i3 3) * (SI 81 19)) ≤ x3 → Q (SI 81 19) SI SJ) ∧ (¬ ((i3 3) * (SI 81 19)) ≤ x3 → vp_in x3 40 ∧ (vp_in ((i3 117) + x3) 135 ∧ (GoI E mt_220 84 [some (.ref 81), none, none, some (.int (x3 + (i3 1)))] (gj_u2 SI 82 (gj_n ((i3 117) + x3)) (SI 90 (gj_n x3))) SJ Q)))) : GoI E mt_220 84 [some (.ref 81), none, none, some (.int x3)] SI SJ Q := by
  refine gj_goq gj_clT ok_220 [7, 21, 22, 43, 50, 84] ?_
  show (((i3 3) * (SI 81 19)) ≤ x3 → gj_Goes E om0 mt_220 115 [some (.ref 81), none, none, some (.int x3)] [] SI SJ (QI Q)) ∧ (¬ ((i3 3) * (SI 81 19)) ≤ x3 → vp_in x3 40 ∧ (vp_in ((i3 117) + x3) 135 ∧ (gj_Goes E om0 mt_220 84 [some (.ref 81), none, none, some (.int (x3 + (i3 1)))] [] (gj_u2 SI 82 (gj_n ((i3 117) + x3)) (SI 90 (gj_n x3))) SJ (QI Q))))
  refine ⟨fun c1 => ?_, fun c1 => ?_⟩
  · refine gj_goq gj_clT ok_220 [7, 21, 22, 43, 50, 84] ?_
    show QI Q (some (.int (SI 81 19))) SI SJ
    exact ⟨_, rfl, (h.1 c1)⟩
  · have k2 := (h.2 c1).1
    refine ⟨k2, ?_⟩
    have k3 := (h.2 c1).2.1
    refine ⟨k3, ?_⟩
    exact (h.2 c1).2.2
set_option maxRecDepth 20000 in
/-- GraspJudgeModel.three -/
theorem st_221 {E : gj_E} {Q : Int64 → gj_I → gj_J → Prop} (a1 : Int64) (a2 : Int64) (a3 : Int64) (a4 : Int64) (a5 : Int64) (a6 : Int64) (a7 : Int64) (a8 : Int64) (a9 : Int64) (SI : gj_I) (SJ : gj_J) (h : Q (((a1 * ((a5 * a9) - (a6 * a8))) - (a2 * ((a4 * a9) - (a6 * a7)))) + (a3 * ((a4 * a8) - (a5 * a7)))) SI SJ) : DoL E 221 [(.long a1), (.long a2), (.long a3), (.long a4), (.long a5), (.long a6), (.long a7), (.long a8), (.long a9)] SI SJ Q := by
  refine gj_start (M := mt_221) ok_221 (Nat.le_of_ble_eq_true rfl) ?_
  refine gj_goq gj_clT ok_221 [] ?_
  show QL Q (some (.long (((a1 * ((a5 * a9) - (a6 * a8))) - (a2 * ((a4 * a9) - (a6 * a7)))) + (a3 * ((a4 * a8) - (a5 * a7)))))) SI SJ
  exact ⟨_, rfl, h⟩
set_option maxRecDepth 20000 in
/-- GraspJudgeModel.straightens -/
theorem st_222 {E : gj_E} {Q : gj_I → gj_J → Prop} (SI : gj_I) (SJ : gj_J) (h : ((SJ 81 24) ≤ (i6 0) → GoV E mt_222 21 [some (.ref 81), some (.int (i3 0))] SI (gj_w2 SJ 81 24 (-(SJ 81 24))) Q) ∧ (¬ (SJ 81 24) ≤ (i6 0) → Q SI SJ)) : DoV E 222 [(.ref 81)] SI SJ Q := by
  refine gj_start (M := mt_222) ok_222 (Nat.le_of_ble_eq_true rfl) ?_
  refine gj_goq gj_clT ok_222 [21] ?_
  show ((lg_cmp (SJ 81 24) (i6 0)) ≤ 0 → gj_Goes E om0 mt_222 10 [some (.ref 81), none] [] SI SJ (QV Q)) ∧ (¬ (lg_cmp (SJ 81 24) (i6 0)) ≤ 0 → QV Q none SI SJ)
  refine ⟨fun c1 => ?_, fun c1 => ?_⟩
  · refine gj_goq gj_clT ok_222 [21] ?_
    show gj_Goes E om0 mt_222 21 [some (.ref 81), some (.int (i3 0))] [] SI (gj_w2 SJ 81 24 (-(SJ 81 24))) (QV Q)
    exact (h.1 (lgc_le.mp c1))
  · exact ⟨rfl, (h.2 (fun z_ => c1 (lgc_le.mpr z_)))⟩
set_option maxRecDepth 20000 in
theorem lp_222_21 {E : gj_E} {Q : gj_I → gj_J → Prop} (x1 : Int32) (SI : gj_I) (SJ : gj_J) (h : ((i3 3) ≤ x1 → Q SI SJ) ∧ (¬ (i3 3) ≤ x1 → vp_in x1 3 ∧ (GoV E mt_222 21 [some (.ref 81), some (.int (x1 + (i3 1)))] SI (gj_w2 SJ 92 (gj_n x1) (-(SJ 92 (gj_n x1)))) Q))) : GoV E mt_222 21 [some (.ref 81), some (.int x1)] SI SJ Q := by
  refine gj_goq gj_clT ok_222 [21] ?_
  show ((i3 3) ≤ x1 → gj_Goes E om0 mt_222 45 [some (.ref 81), some (.int x1)] [] SI SJ (QV Q)) ∧ (¬ (i3 3) ≤ x1 → vp_in x1 3 ∧ (vp_in x1 3 ∧ (gj_Goes E om0 mt_222 21 [some (.ref 81), some (.int (x1 + (i3 1)))] [] SI (gj_w2 SJ 92 (gj_n x1) (-(SJ 92 (gj_n x1)))) (QV Q))))
  refine ⟨fun c1 => ?_, fun c1 => ?_⟩
  · refine gj_goq gj_clT ok_222 [21] ?_
    show QV Q none SI SJ
    exact ⟨rfl, (h.1 c1)⟩
  · have k2 := (h.2 c1).1
    refine ⟨k2, ?_⟩
    refine ⟨k2, ?_⟩
    exact (h.2 c1).2
set_option maxRecDepth 20000 in
/-- GraspJudgeModel.solvesOne -/
theorem st_223 {E : gj_E} {Q : Int32 → gj_I → gj_J → Prop} (SI : gj_I) (SJ : gj_J) (h : vp_in (SI 93 0) 16 ∧ (((SJ 85 (gj_n (SI 93 0))) = (i6 0) → ((SJ 85 (gj_n (SI 93 0))) = (i6 0) → DoV E 222 [(.ref 81)] SI (gj_w2 (gj_w2 SJ 81 24 (SJ 86 (gj_n (SI 93 0)))) 92 0 (SJ 81 22)) (fun SI2 SJ2 => (¬ ((SJ2 92 0) * (SJ2 85 (gj_n (SI 93 0)))) = ((SJ2 81 21) * (SJ2 81 24)) → Q (i3 0) SI2 SJ2) ∧ (((SJ2 92 0) * (SJ2 85 (gj_n (SI 93 0)))) = ((SJ2 81 21) * (SJ2 81 24)) → (¬ ((SJ2 92 0) * (SJ2 86 (gj_n (SI 93 0)))) = ((SJ2 81 22) * (SJ2 81 24)) → Q (i3 0) SI2 SJ2) ∧ (((SJ2 92 0) * (SJ2 86 (gj_n (SI 93 0)))) = ((SJ2 81 22) * (SJ2 81 24)) → (¬ ((SJ2 92 0) * (SJ2 87 (gj_n (SI 93 0)))) = ((SJ2 81 23) * (SJ2 81 24)) → Q (i3 0) SI2 SJ2) ∧ (((SJ2 92 0) * (SJ2 87 (gj_n (SI 93 0)))) = ((SJ2 81 23) * (SJ2 81 24)) → ((SJ2 92 0) ≤ (i6 0) → Q (i3 0) SI2 SJ2) ∧ (¬ (SJ2 92 0) ≤ (i6 0) → Q (i3 1) SI2 SJ2)))))) ∧ (¬ (SJ 85 (gj_n (SI 93 0))) = (i6 0) → DoV E 222 [(.ref 81)] SI (gj_w2 (gj_w2 SJ 81 24 (SJ 86 (gj_n (SI 93 0)))) 92 0 (SJ 81 21)) (fun SI4 SJ4 => (¬ ((SJ4 92 0) * (SJ4 85 (gj_n (SI 93 0)))) = ((SJ4 81 21) * (SJ4 81 24)) → Q (i3 0) SI4 SJ4) ∧ (((SJ4 92 0) * (SJ4 85 (gj_n (SI 93 0)))) = ((SJ4 81 21) * (SJ4 81 24)) → (¬ ((SJ4 92 0) * (SJ4 86 (gj_n (SI 93 0)))) = ((SJ4 81 22) * (SJ4 81 24)) → Q (i3 0) SI4 SJ4) ∧ (((SJ4 92 0) * (SJ4 86 (gj_n (SI 93 0)))) = ((SJ4 81 22) * (SJ4 81 24)) → (¬ ((SJ4 92 0) * (SJ4 87 (gj_n (SI 93 0)))) = ((SJ4 81 23) * (SJ4 81 24)) → Q (i3 0) SI4 SJ4) ∧ (((SJ4 92 0) * (SJ4 87 (gj_n (SI 93 0)))) = ((SJ4 81 23) * (SJ4 81 24)) → ((SJ4 92 0) ≤ (i6 0) → Q (i3 0) SI4 SJ4) ∧ (¬ (SJ4 92 0) ≤ (i6 0) → Q (i3 1) SI4 SJ4))))))) ∧ (¬ (SJ 85 (gj_n (SI 93 0))) = (i6 0) → ((SJ 85 (gj_n (SI 93 0))) = (i6 0) → DoV E 222 [(.ref 81)] SI (gj_w2 (gj_w2 SJ 81 24 (SJ 85 (gj_n (SI 93 0)))) 92 0 (SJ 81 22)) (fun SI6 SJ6 => (¬ ((SJ6 92 0) * (SJ6 85 (gj_n (SI 93 0)))) = ((SJ6 81 21) * (SJ6 81 24)) → Q (i3 0) SI6 SJ6) ∧ (((SJ6 92 0) * (SJ6 85 (gj_n (SI 93 0)))) = ((SJ6 81 21) * (SJ6 81 24)) → (¬ ((SJ6 92 0) * (SJ6 86 (gj_n (SI 93 0)))) = ((SJ6 81 22) * (SJ6 81 24)) → Q (i3 0) SI6 SJ6) ∧ (((SJ6 92 0) * (SJ6 86 (gj_n (SI 93 0)))) = ((SJ6 81 22) * (SJ6 81 24)) → (¬ ((SJ6 92 0) * (SJ6 87 (gj_n (SI 93 0)))) = ((SJ6 81 23) * (SJ6 81 24)) → Q (i3 0) SI6 SJ6) ∧ (((SJ6 92 0) * (SJ6 87 (gj_n (SI 93 0)))) = ((SJ6 81 23) * (SJ6 81 24)) → ((SJ6 92 0) ≤ (i6 0) → Q (i3 0) SI6 SJ6) ∧ (¬ (SJ6 92 0) ≤ (i6 0) → Q (i3 1) SI6 SJ6)))))) ∧ (¬ (SJ 85 (gj_n (SI 93 0))) = (i6 0) → DoV E 222 [(.ref 81)] SI (gj_w2 (gj_w2 SJ 81 24 (SJ 85 (gj_n (SI 93 0)))) 92 0 (SJ 81 21)) (fun SI8 SJ8 => (¬ ((SJ8 92 0) * (SJ8 85 (gj_n (SI 93 0)))) = ((SJ8 81 21) * (SJ8 81 24)) → Q (i3 0) SI8 SJ8) ∧ (((SJ8 92 0) * (SJ8 85 (gj_n (SI 93 0)))) = ((SJ8 81 21) * (SJ8 81 24)) → (¬ ((SJ8 92 0) * (SJ8 86 (gj_n (SI 93 0)))) = ((SJ8 81 22) * (SJ8 81 24)) → Q (i3 0) SI8 SJ8) ∧ (((SJ8 92 0) * (SJ8 86 (gj_n (SI 93 0)))) = ((SJ8 81 22) * (SJ8 81 24)) → (¬ ((SJ8 92 0) * (SJ8 87 (gj_n (SI 93 0)))) = ((SJ8 81 23) * (SJ8 81 24)) → Q (i3 0) SI8 SJ8) ∧ (((SJ8 92 0) * (SJ8 87 (gj_n (SI 93 0)))) = ((SJ8 81 23) * (SJ8 81 24)) → ((SJ8 92 0) ≤ (i6 0) → Q (i3 0) SI8 SJ8) ∧ (¬ (SJ8 92 0) ≤ (i6 0) → Q (i3 1) SI8 SJ8))))))))) : DoI E 223 [(.ref 81)] SI SJ Q := by
  refine gj_start (M := mt_223) ok_223 (Nat.le_of_ble_eq_true rfl) ?_
  refine gj_goq gj_clT ok_223 [69] ?_
  show vp_in (i3 0) 3 ∧ (vp_in (SI 93 0) 16 ∧ (((lg_cmp (SJ 85 (gj_n (SI 93 0))) (i6 0)) = 0 → gj_Goes E om0 mt_223 28 [some (.ref 81), some (.int (SI 93 0))] [(.ref 81)] SI SJ (QI Q)) ∧ (¬ (lg_cmp (SJ 85 (gj_n (SI 93 0))) (i6 0)) = 0 → vp_in (SI 93 0) 16 ∧ (gj_Goes E om0 mt_223 34 [some (.ref 81), some (.int (SI 93 0))] [(.long (SJ 85 (gj_n (SI 93 0)))), (.ref 81)] SI SJ (QI Q)))))
  refine ⟨(gj_vin (by decide)), ?_⟩
  have k1 := h.1
  refine ⟨k1, ?_⟩
  refine ⟨fun c2 => ?_, fun c2 => ?_⟩
  · refine gj_goq gj_clT ok_223 [69] ?_
    show vp_in (SI 93 0) 16 ∧ (vp_in (SI 93 0) 16 ∧ (((lg_cmp (SJ 85 (gj_n (SI 93 0))) (i6 0)) = 0 → gj_Goes E om0 mt_223 60 [some (.ref 81), some (.int (SI 93 0))] [(.int (i3 0)), (.ref 92)] SI (gj_w2 SJ 81 24 (SJ 86 (gj_n (SI 93 0)))) (QI Q)) ∧ (¬ (lg_cmp (SJ 85 (gj_n (SI 93 0))) (i6 0)) = 0 → gj_Goes E om0 mt_223 64 [some (.ref 81), some (.int (SI 93 0))] [(.long (SJ 81 21)), (.int (i3 0)), (.ref 92)] SI (gj_w2 SJ 81 24 (SJ 86 (gj_n (SI 93 0)))) (QI Q))))
    refine ⟨k1, ?_⟩
    refine ⟨k1, ?_⟩
    refine ⟨fun c3 => ?_, fun c3 => ?_⟩
    · refine gj_goq gj_clT ok_223 [69] ?_
      show vp_in (i3 0) 3 ∧ (gj_Do E om0 (gj_mt 222) [(.ref 81)] SI (gj_w2 (gj_w2 SJ 81 24 (SJ 86 (gj_n (SI 93 0)))) 92 0 (SJ 81 22)) _)
      refine ⟨(gj_vin (by decide)), ?_⟩
      refine gj_Do.mono ((h.2.1 (lgc_eq.mp c2)).1 (lgc_eq.mp c3)) (fun v_ SI2 SJ2 h_ => ?_)
      obtain ⟨rfl, q4⟩ := h_
      show gj_Goes E om0 mt_223 69 [some (.ref 81), some (.int (SI 93 0))] [] SI2 SJ2 (QI Q)
      refine gj_goq gj_clT ok_223 [69] ?_
      show vp_in (i3 0) 3 ∧ (vp_in (SI 93 0) 16 ∧ ((¬ (lg_cmp ((SJ2 92 0) * (SJ2 85 (gj_n (SI 93 0)))) ((SJ2 81 21) * (SJ2 81 24))) = 0 → gj_Goes E om0 mt_223 162 [some (.ref 81), some (.int (SI 93 0))] [] SI2 SJ2 (QI Q)) ∧ ((lg_cmp ((SJ2 92 0) * (SJ2 85 (gj_n (SI 93 0)))) ((SJ2 81 21) * (SJ2 81 24))) = 0 → vp_in (i3 0) 3 ∧ (vp_in (SI 93 0) 16 ∧ ((¬ (lg_cmp ((SJ2 92 0) * (SJ2 86 (gj_n (SI 93 0)))) ((SJ2 81 22) * (SJ2 81 24))) = 0 → gj_Goes E om0 mt_223 162 [some (.ref 81), some (.int (SI 93 0))] [] SI2 SJ2 (QI Q)) ∧ ((lg_cmp ((SJ2 92 0) * (SJ2 86 (gj_n (SI 93 0)))) ((SJ2 81 22) * (SJ2 81 24))) = 0 → vp_in (i3 0) 3 ∧ (vp_in (SI 93 0) 16 ∧ ((¬ (lg_cmp ((SJ2 92 0) * (SJ2 87 (gj_n (SI 93 0)))) ((SJ2 81 23) * (SJ2 81 24))) = 0 → gj_Goes E om0 mt_223 162 [some (.ref 81), some (.int (SI 93 0))] [] SI2 SJ2 (QI Q)) ∧ ((lg_cmp ((SJ2 92 0) * (SJ2 87 (gj_n (SI 93 0)))) ((SJ2 81 23) * (SJ2 81 24))) = 0 → vp_in (i3 0) 3 ∧ (((lg_cmp (SJ2 92 0) (i6 0)) ≤ 0 → gj_Goes E om0 mt_223 162 [some (.ref 81), some (.int (SI 93 0))] [] SI2 SJ2 (QI Q)) ∧ (¬ (lg_cmp (SJ2 92 0) (i6 0)) ≤ 0 → gj_Goes E om0 mt_223 163 [some (.ref 81), some (.int (SI 93 0))] [(.int (i3 1))] SI2 SJ2 (QI Q))))))))))))
      refine ⟨(gj_vin (by decide)), ?_⟩
      refine ⟨k1, ?_⟩
      refine ⟨fun c5 => ?_, fun c5 => ?_⟩
      · refine gj_goq gj_clT ok_223 [69] ?_
        show ((i3 0) = 0 ∨ (i3 0) = 1) ∧ (QI Q (some (.int (i3 0))) SI2 SJ2)
        refine ⟨(Or.inl rfl), ?_⟩
        exact ⟨_, rfl, (q4.1 (fun z_ => c5 (lgc_eq.mpr z_)))⟩
      · refine ⟨(gj_vin (by decide)), ?_⟩
        refine ⟨k1, ?_⟩
        refine ⟨fun c6 => ?_, fun c6 => ?_⟩
        · refine gj_goq gj_clT ok_223 [69] ?_
          show ((i3 0) = 0 ∨ (i3 0) = 1) ∧ (QI Q (some (.int (i3 0))) SI2 SJ2)
          refine ⟨(Or.inl rfl), ?_⟩
          exact ⟨_, rfl, ((q4.2 (lgc_eq.mp c5)).1 (fun z_ => c6 (lgc_eq.mpr z_)))⟩
        · refine ⟨(gj_vin (by decide)), ?_⟩
          refine ⟨k1, ?_⟩
          refine ⟨fun c7 => ?_, fun c7 => ?_⟩
          · refine gj_goq gj_clT ok_223 [69] ?_
            show ((i3 0) = 0 ∨ (i3 0) = 1) ∧ (QI Q (some (.int (i3 0))) SI2 SJ2)
            refine ⟨(Or.inl rfl), ?_⟩
            exact ⟨_, rfl, (((q4.2 (lgc_eq.mp c5)).2 (lgc_eq.mp c6)).1 (fun z_ => c7 (lgc_eq.mpr z_)))⟩
          · refine ⟨(gj_vin (by decide)), ?_⟩
            refine ⟨fun c8 => ?_, fun c8 => ?_⟩
            · refine gj_goq gj_clT ok_223 [69] ?_
              show ((i3 0) = 0 ∨ (i3 0) = 1) ∧ (QI Q (some (.int (i3 0))) SI2 SJ2)
              refine ⟨(Or.inl rfl), ?_⟩
              exact ⟨_, rfl, ((((q4.2 (lgc_eq.mp c5)).2 (lgc_eq.mp c6)).2 (lgc_eq.mp c7)).1 (lgc_le.mp c8))⟩
            · refine gj_goq gj_clT ok_223 [69] ?_
              show ((i3 1) = 0 ∨ (i3 1) = 1) ∧ (QI Q (some (.int (i3 1))) SI2 SJ2)
              refine ⟨(Or.inr rfl), ?_⟩
              exact ⟨_, rfl, ((((q4.2 (lgc_eq.mp c5)).2 (lgc_eq.mp c6)).2 (lgc_eq.mp c7)).2 (fun z_ => c8 (lgc_le.mpr z_)))⟩
    · refine gj_goq gj_clT ok_223 [69] ?_
      show vp_in (i3 0) 3 ∧ (gj_Do E om0 (gj_mt 222) [(.ref 81)] SI (gj_w2 (gj_w2 SJ 81 24 (SJ 86 (gj_n (SI 93 0)))) 92 0 (SJ 81 21)) _)
      refine ⟨(gj_vin (by decide)), ?_⟩
      refine gj_Do.mono ((h.2.1 (lgc_eq.mp c2)).2 (fun z_ => c3 (lgc_eq.mpr z_))) (fun v_ SI4 SJ4 h_ => ?_)
      obtain ⟨rfl, q9⟩ := h_
      show gj_Goes E om0 mt_223 69 [some (.ref 81), some (.int (SI 93 0))] [] SI4 SJ4 (QI Q)
      refine gj_goq gj_clT ok_223 [69] ?_
      show vp_in (i3 0) 3 ∧ (vp_in (SI 93 0) 16 ∧ ((¬ (lg_cmp ((SJ4 92 0) * (SJ4 85 (gj_n (SI 93 0)))) ((SJ4 81 21) * (SJ4 81 24))) = 0 → gj_Goes E om0 mt_223 162 [some (.ref 81), some (.int (SI 93 0))] [] SI4 SJ4 (QI Q)) ∧ ((lg_cmp ((SJ4 92 0) * (SJ4 85 (gj_n (SI 93 0)))) ((SJ4 81 21) * (SJ4 81 24))) = 0 → vp_in (i3 0) 3 ∧ (vp_in (SI 93 0) 16 ∧ ((¬ (lg_cmp ((SJ4 92 0) * (SJ4 86 (gj_n (SI 93 0)))) ((SJ4 81 22) * (SJ4 81 24))) = 0 → gj_Goes E om0 mt_223 162 [some (.ref 81), some (.int (SI 93 0))] [] SI4 SJ4 (QI Q)) ∧ ((lg_cmp ((SJ4 92 0) * (SJ4 86 (gj_n (SI 93 0)))) ((SJ4 81 22) * (SJ4 81 24))) = 0 → vp_in (i3 0) 3 ∧ (vp_in (SI 93 0) 16 ∧ ((¬ (lg_cmp ((SJ4 92 0) * (SJ4 87 (gj_n (SI 93 0)))) ((SJ4 81 23) * (SJ4 81 24))) = 0 → gj_Goes E om0 mt_223 162 [some (.ref 81), some (.int (SI 93 0))] [] SI4 SJ4 (QI Q)) ∧ ((lg_cmp ((SJ4 92 0) * (SJ4 87 (gj_n (SI 93 0)))) ((SJ4 81 23) * (SJ4 81 24))) = 0 → vp_in (i3 0) 3 ∧ (((lg_cmp (SJ4 92 0) (i6 0)) ≤ 0 → gj_Goes E om0 mt_223 162 [some (.ref 81), some (.int (SI 93 0))] [] SI4 SJ4 (QI Q)) ∧ (¬ (lg_cmp (SJ4 92 0) (i6 0)) ≤ 0 → gj_Goes E om0 mt_223 163 [some (.ref 81), some (.int (SI 93 0))] [(.int (i3 1))] SI4 SJ4 (QI Q))))))))))))
      refine ⟨(gj_vin (by decide)), ?_⟩
      refine ⟨k1, ?_⟩
      refine ⟨fun c10 => ?_, fun c10 => ?_⟩
      · refine gj_goq gj_clT ok_223 [69] ?_
        show ((i3 0) = 0 ∨ (i3 0) = 1) ∧ (QI Q (some (.int (i3 0))) SI4 SJ4)
        refine ⟨(Or.inl rfl), ?_⟩
        exact ⟨_, rfl, (q9.1 (fun z_ => c10 (lgc_eq.mpr z_)))⟩
      · refine ⟨(gj_vin (by decide)), ?_⟩
        refine ⟨k1, ?_⟩
        refine ⟨fun c11 => ?_, fun c11 => ?_⟩
        · refine gj_goq gj_clT ok_223 [69] ?_
          show ((i3 0) = 0 ∨ (i3 0) = 1) ∧ (QI Q (some (.int (i3 0))) SI4 SJ4)
          refine ⟨(Or.inl rfl), ?_⟩
          exact ⟨_, rfl, ((q9.2 (lgc_eq.mp c10)).1 (fun z_ => c11 (lgc_eq.mpr z_)))⟩
        · refine ⟨(gj_vin (by decide)), ?_⟩
          refine ⟨k1, ?_⟩
          refine ⟨fun c12 => ?_, fun c12 => ?_⟩
          · refine gj_goq gj_clT ok_223 [69] ?_
            show ((i3 0) = 0 ∨ (i3 0) = 1) ∧ (QI Q (some (.int (i3 0))) SI4 SJ4)
            refine ⟨(Or.inl rfl), ?_⟩
            exact ⟨_, rfl, (((q9.2 (lgc_eq.mp c10)).2 (lgc_eq.mp c11)).1 (fun z_ => c12 (lgc_eq.mpr z_)))⟩
          · refine ⟨(gj_vin (by decide)), ?_⟩
            refine ⟨fun c13 => ?_, fun c13 => ?_⟩
            · refine gj_goq gj_clT ok_223 [69] ?_
              show ((i3 0) = 0 ∨ (i3 0) = 1) ∧ (QI Q (some (.int (i3 0))) SI4 SJ4)
              refine ⟨(Or.inl rfl), ?_⟩
              exact ⟨_, rfl, ((((q9.2 (lgc_eq.mp c10)).2 (lgc_eq.mp c11)).2 (lgc_eq.mp c12)).1 (lgc_le.mp c13))⟩
            · refine gj_goq gj_clT ok_223 [69] ?_
              show ((i3 1) = 0 ∨ (i3 1) = 1) ∧ (QI Q (some (.int (i3 1))) SI4 SJ4)
              refine ⟨(Or.inr rfl), ?_⟩
              exact ⟨_, rfl, ((((q9.2 (lgc_eq.mp c10)).2 (lgc_eq.mp c11)).2 (lgc_eq.mp c12)).2 (fun z_ => c13 (lgc_le.mpr z_)))⟩
  · refine ⟨k1, ?_⟩
    refine gj_goq gj_clT ok_223 [69] ?_
    show vp_in (SI 93 0) 16 ∧ (((lg_cmp (SJ 85 (gj_n (SI 93 0))) (i6 0)) = 0 → gj_Goes E om0 mt_223 60 [some (.ref 81), some (.int (SI 93 0))] [(.int (i3 0)), (.ref 92)] SI (gj_w2 SJ 81 24 (SJ 85 (gj_n (SI 93 0)))) (QI Q)) ∧ (¬ (lg_cmp (SJ 85 (gj_n (SI 93 0))) (i6 0)) = 0 → gj_Goes E om0 mt_223 64 [some (.ref 81), some (.int (SI 93 0))] [(.long (SJ 81 21)), (.int (i3 0)), (.ref 92)] SI (gj_w2 SJ 81 24 (SJ 85 (gj_n (SI 93 0)))) (QI Q)))
    refine ⟨k1, ?_⟩
    refine ⟨fun c14 => ?_, fun c14 => ?_⟩
    · refine gj_goq gj_clT ok_223 [69] ?_
      show vp_in (i3 0) 3 ∧ (gj_Do E om0 (gj_mt 222) [(.ref 81)] SI (gj_w2 (gj_w2 SJ 81 24 (SJ 85 (gj_n (SI 93 0)))) 92 0 (SJ 81 22)) _)
      refine ⟨(gj_vin (by decide)), ?_⟩
      refine gj_Do.mono ((h.2.2 (fun z_ => c2 (lgc_eq.mpr z_))).1 (lgc_eq.mp c14)) (fun v_ SI6 SJ6 h_ => ?_)
      obtain ⟨rfl, q15⟩ := h_
      show gj_Goes E om0 mt_223 69 [some (.ref 81), some (.int (SI 93 0))] [] SI6 SJ6 (QI Q)
      refine gj_goq gj_clT ok_223 [69] ?_
      show vp_in (i3 0) 3 ∧ (vp_in (SI 93 0) 16 ∧ ((¬ (lg_cmp ((SJ6 92 0) * (SJ6 85 (gj_n (SI 93 0)))) ((SJ6 81 21) * (SJ6 81 24))) = 0 → gj_Goes E om0 mt_223 162 [some (.ref 81), some (.int (SI 93 0))] [] SI6 SJ6 (QI Q)) ∧ ((lg_cmp ((SJ6 92 0) * (SJ6 85 (gj_n (SI 93 0)))) ((SJ6 81 21) * (SJ6 81 24))) = 0 → vp_in (i3 0) 3 ∧ (vp_in (SI 93 0) 16 ∧ ((¬ (lg_cmp ((SJ6 92 0) * (SJ6 86 (gj_n (SI 93 0)))) ((SJ6 81 22) * (SJ6 81 24))) = 0 → gj_Goes E om0 mt_223 162 [some (.ref 81), some (.int (SI 93 0))] [] SI6 SJ6 (QI Q)) ∧ ((lg_cmp ((SJ6 92 0) * (SJ6 86 (gj_n (SI 93 0)))) ((SJ6 81 22) * (SJ6 81 24))) = 0 → vp_in (i3 0) 3 ∧ (vp_in (SI 93 0) 16 ∧ ((¬ (lg_cmp ((SJ6 92 0) * (SJ6 87 (gj_n (SI 93 0)))) ((SJ6 81 23) * (SJ6 81 24))) = 0 → gj_Goes E om0 mt_223 162 [some (.ref 81), some (.int (SI 93 0))] [] SI6 SJ6 (QI Q)) ∧ ((lg_cmp ((SJ6 92 0) * (SJ6 87 (gj_n (SI 93 0)))) ((SJ6 81 23) * (SJ6 81 24))) = 0 → vp_in (i3 0) 3 ∧ (((lg_cmp (SJ6 92 0) (i6 0)) ≤ 0 → gj_Goes E om0 mt_223 162 [some (.ref 81), some (.int (SI 93 0))] [] SI6 SJ6 (QI Q)) ∧ (¬ (lg_cmp (SJ6 92 0) (i6 0)) ≤ 0 → gj_Goes E om0 mt_223 163 [some (.ref 81), some (.int (SI 93 0))] [(.int (i3 1))] SI6 SJ6 (QI Q))))))))))))
      refine ⟨(gj_vin (by decide)), ?_⟩
      refine ⟨k1, ?_⟩
      refine ⟨fun c16 => ?_, fun c16 => ?_⟩
      · refine gj_goq gj_clT ok_223 [69] ?_
        show ((i3 0) = 0 ∨ (i3 0) = 1) ∧ (QI Q (some (.int (i3 0))) SI6 SJ6)
        refine ⟨(Or.inl rfl), ?_⟩
        exact ⟨_, rfl, (q15.1 (fun z_ => c16 (lgc_eq.mpr z_)))⟩
      · refine ⟨(gj_vin (by decide)), ?_⟩
        refine ⟨k1, ?_⟩
        refine ⟨fun c17 => ?_, fun c17 => ?_⟩
        · refine gj_goq gj_clT ok_223 [69] ?_
          show ((i3 0) = 0 ∨ (i3 0) = 1) ∧ (QI Q (some (.int (i3 0))) SI6 SJ6)
          refine ⟨(Or.inl rfl), ?_⟩
          exact ⟨_, rfl, ((q15.2 (lgc_eq.mp c16)).1 (fun z_ => c17 (lgc_eq.mpr z_)))⟩
        · refine ⟨(gj_vin (by decide)), ?_⟩
          refine ⟨k1, ?_⟩
          refine ⟨fun c18 => ?_, fun c18 => ?_⟩
          · refine gj_goq gj_clT ok_223 [69] ?_
            show ((i3 0) = 0 ∨ (i3 0) = 1) ∧ (QI Q (some (.int (i3 0))) SI6 SJ6)
            refine ⟨(Or.inl rfl), ?_⟩
            exact ⟨_, rfl, (((q15.2 (lgc_eq.mp c16)).2 (lgc_eq.mp c17)).1 (fun z_ => c18 (lgc_eq.mpr z_)))⟩
          · refine ⟨(gj_vin (by decide)), ?_⟩
            refine ⟨fun c19 => ?_, fun c19 => ?_⟩
            · refine gj_goq gj_clT ok_223 [69] ?_
              show ((i3 0) = 0 ∨ (i3 0) = 1) ∧ (QI Q (some (.int (i3 0))) SI6 SJ6)
              refine ⟨(Or.inl rfl), ?_⟩
              exact ⟨_, rfl, ((((q15.2 (lgc_eq.mp c16)).2 (lgc_eq.mp c17)).2 (lgc_eq.mp c18)).1 (lgc_le.mp c19))⟩
            · refine gj_goq gj_clT ok_223 [69] ?_
              show ((i3 1) = 0 ∨ (i3 1) = 1) ∧ (QI Q (some (.int (i3 1))) SI6 SJ6)
              refine ⟨(Or.inr rfl), ?_⟩
              exact ⟨_, rfl, ((((q15.2 (lgc_eq.mp c16)).2 (lgc_eq.mp c17)).2 (lgc_eq.mp c18)).2 (fun z_ => c19 (lgc_le.mpr z_)))⟩
    · refine gj_goq gj_clT ok_223 [69] ?_
      show vp_in (i3 0) 3 ∧ (gj_Do E om0 (gj_mt 222) [(.ref 81)] SI (gj_w2 (gj_w2 SJ 81 24 (SJ 85 (gj_n (SI 93 0)))) 92 0 (SJ 81 21)) _)
      refine ⟨(gj_vin (by decide)), ?_⟩
      refine gj_Do.mono ((h.2.2 (fun z_ => c2 (lgc_eq.mpr z_))).2 (fun z_ => c14 (lgc_eq.mpr z_))) (fun v_ SI8 SJ8 h_ => ?_)
      obtain ⟨rfl, q20⟩ := h_
      show gj_Goes E om0 mt_223 69 [some (.ref 81), some (.int (SI 93 0))] [] SI8 SJ8 (QI Q)
      refine gj_goq gj_clT ok_223 [69] ?_
      show vp_in (i3 0) 3 ∧ (vp_in (SI 93 0) 16 ∧ ((¬ (lg_cmp ((SJ8 92 0) * (SJ8 85 (gj_n (SI 93 0)))) ((SJ8 81 21) * (SJ8 81 24))) = 0 → gj_Goes E om0 mt_223 162 [some (.ref 81), some (.int (SI 93 0))] [] SI8 SJ8 (QI Q)) ∧ ((lg_cmp ((SJ8 92 0) * (SJ8 85 (gj_n (SI 93 0)))) ((SJ8 81 21) * (SJ8 81 24))) = 0 → vp_in (i3 0) 3 ∧ (vp_in (SI 93 0) 16 ∧ ((¬ (lg_cmp ((SJ8 92 0) * (SJ8 86 (gj_n (SI 93 0)))) ((SJ8 81 22) * (SJ8 81 24))) = 0 → gj_Goes E om0 mt_223 162 [some (.ref 81), some (.int (SI 93 0))] [] SI8 SJ8 (QI Q)) ∧ ((lg_cmp ((SJ8 92 0) * (SJ8 86 (gj_n (SI 93 0)))) ((SJ8 81 22) * (SJ8 81 24))) = 0 → vp_in (i3 0) 3 ∧ (vp_in (SI 93 0) 16 ∧ ((¬ (lg_cmp ((SJ8 92 0) * (SJ8 87 (gj_n (SI 93 0)))) ((SJ8 81 23) * (SJ8 81 24))) = 0 → gj_Goes E om0 mt_223 162 [some (.ref 81), some (.int (SI 93 0))] [] SI8 SJ8 (QI Q)) ∧ ((lg_cmp ((SJ8 92 0) * (SJ8 87 (gj_n (SI 93 0)))) ((SJ8 81 23) * (SJ8 81 24))) = 0 → vp_in (i3 0) 3 ∧ (((lg_cmp (SJ8 92 0) (i6 0)) ≤ 0 → gj_Goes E om0 mt_223 162 [some (.ref 81), some (.int (SI 93 0))] [] SI8 SJ8 (QI Q)) ∧ (¬ (lg_cmp (SJ8 92 0) (i6 0)) ≤ 0 → gj_Goes E om0 mt_223 163 [some (.ref 81), some (.int (SI 93 0))] [(.int (i3 1))] SI8 SJ8 (QI Q))))))))))))
      refine ⟨(gj_vin (by decide)), ?_⟩
      refine ⟨k1, ?_⟩
      refine ⟨fun c21 => ?_, fun c21 => ?_⟩
      · refine gj_goq gj_clT ok_223 [69] ?_
        show ((i3 0) = 0 ∨ (i3 0) = 1) ∧ (QI Q (some (.int (i3 0))) SI8 SJ8)
        refine ⟨(Or.inl rfl), ?_⟩
        exact ⟨_, rfl, (q20.1 (fun z_ => c21 (lgc_eq.mpr z_)))⟩
      · refine ⟨(gj_vin (by decide)), ?_⟩
        refine ⟨k1, ?_⟩
        refine ⟨fun c22 => ?_, fun c22 => ?_⟩
        · refine gj_goq gj_clT ok_223 [69] ?_
          show ((i3 0) = 0 ∨ (i3 0) = 1) ∧ (QI Q (some (.int (i3 0))) SI8 SJ8)
          refine ⟨(Or.inl rfl), ?_⟩
          exact ⟨_, rfl, ((q20.2 (lgc_eq.mp c21)).1 (fun z_ => c22 (lgc_eq.mpr z_)))⟩
        · refine ⟨(gj_vin (by decide)), ?_⟩
          refine ⟨k1, ?_⟩
          refine ⟨fun c23 => ?_, fun c23 => ?_⟩
          · refine gj_goq gj_clT ok_223 [69] ?_
            show ((i3 0) = 0 ∨ (i3 0) = 1) ∧ (QI Q (some (.int (i3 0))) SI8 SJ8)
            refine ⟨(Or.inl rfl), ?_⟩
            exact ⟨_, rfl, (((q20.2 (lgc_eq.mp c21)).2 (lgc_eq.mp c22)).1 (fun z_ => c23 (lgc_eq.mpr z_)))⟩
          · refine ⟨(gj_vin (by decide)), ?_⟩
            refine ⟨fun c24 => ?_, fun c24 => ?_⟩
            · refine gj_goq gj_clT ok_223 [69] ?_
              show ((i3 0) = 0 ∨ (i3 0) = 1) ∧ (QI Q (some (.int (i3 0))) SI8 SJ8)
              refine ⟨(Or.inl rfl), ?_⟩
              exact ⟨_, rfl, ((((q20.2 (lgc_eq.mp c21)).2 (lgc_eq.mp c22)).2 (lgc_eq.mp c23)).1 (lgc_le.mp c24))⟩
            · refine gj_goq gj_clT ok_223 [69] ?_
              show ((i3 1) = 0 ∨ (i3 1) = 1) ∧ (QI Q (some (.int (i3 1))) SI8 SJ8)
              refine ⟨(Or.inr rfl), ?_⟩
              exact ⟨_, rfl, ((((q20.2 (lgc_eq.mp c21)).2 (lgc_eq.mp c22)).2 (lgc_eq.mp c23)).2 (fun z_ => c24 (lgc_le.mpr z_)))⟩
set_option maxRecDepth 20000 in
/-- GraspJudgeModel.solvesTwo -/
theorem st_224 {E : gj_E} {Q : Int32 → gj_I → gj_J → Prop} (SI : gj_I) (SJ : gj_J) (h : DoV E 187 [(.ref 81), (.int (SI 93 0)), (.int (SI 93 1))] SI SJ (fun SI2 SJ2 => DoI E 188 [(.ref 81)] SI2 SJ2 (fun r3 SI4 SJ4 => (¬ r3 = 0 → Q (i3 0) SI4 SJ4) ∧ (r3 = 0 → (((((SJ4 81 9) * (SJ4 81 21)) + ((SJ4 81 10) * (SJ4 81 22))) + ((SJ4 81 11) * (SJ4 81 23))) = (i6 0) → ((SJ4 81 11) = (i6 0) → ((SJ4 81 10) = (i6 0) → vp_in (SI 93 1) 16 ∧ (vp_in (SI 93 0) 16 ∧ (DoV E 222 [(.ref 81)] SI4 (gj_w2 (gj_w2 (gj_w2 SJ4 81 24 (SJ4 81 9)) 92 0 (((SJ4 81 22) * (SJ4 87 (gj_n (SI 93 1)))) - ((SJ4 81 23) * (SJ4 86 (gj_n (SI 93 1)))))) 92 1 (((SJ4 86 (gj_n (SI 93 0))) * (SJ4 81 23)) - ((SJ4 87 (gj_n (SI 93 0))) * (SJ4 81 22)))) (fun SI6 SJ6 => ((SJ6 92 0) ≤ (i6 0) → Q (i3 0) SI6 SJ6) ∧ (¬ (SJ6 92 0) ≤ (i6 0) → ((SJ6 92 1) ≤ (i6 0) → Q (i3 0) SI6 SJ6) ∧ (¬ (SJ6 92 1) ≤ (i6 0) → Q (i3 1) SI6 SJ6)))))) ∧ (¬ (SJ4 81 10) = (i6 0) → vp_in (SI 93 1) 16 ∧ (vp_in (SI 93 0) 16 ∧ (DoV E 222 [(.ref 81)] SI4 (gj_w2 (gj_w2 (gj_w2 SJ4 81 24 (SJ4 81 10)) 92 0 (((SJ4 81 23) * (SJ4 85 (gj_n (SI 93 1)))) - ((SJ4 81 21) * (SJ4 87 (gj_n (SI 93 1)))))) 92 1 (((SJ4 87 (gj_n (SI 93 0))) * (SJ4 81 21)) - ((SJ4 85 (gj_n (SI 93 0))) * (SJ4 81 23)))) (fun SI8 SJ8 => ((SJ8 92 0) ≤ (i6 0) → Q (i3 0) SI8 SJ8) ∧ (¬ (SJ8 92 0) ≤ (i6 0) → ((SJ8 92 1) ≤ (i6 0) → Q (i3 0) SI8 SJ8) ∧ (¬ (SJ8 92 1) ≤ (i6 0) → Q (i3 1) SI8 SJ8))))))) ∧ (¬ (SJ4 81 11) = (i6 0) → vp_in (SI 93 1) 16 ∧ (vp_in (SI 93 0) 16 ∧ (DoV E 222 [(.ref 81)] SI4 (gj_w2 (gj_w2 (gj_w2 SJ4 81 24 (SJ4 81 11)) 92 0 (((SJ4 81 21) * (SJ4 86 (gj_n (SI 93 1)))) - ((SJ4 81 22) * (SJ4 85 (gj_n (SI 93 1)))))) 92 1 (((SJ4 85 (gj_n (SI 93 0))) * (SJ4 81 22)) - ((SJ4 86 (gj_n (SI 93 0))) * (SJ4 81 21)))) (fun SI10 SJ10 => ((SJ10 92 0) ≤ (i6 0) → Q (i3 0) SI10 SJ10) ∧ (¬ (SJ10 92 0) ≤ (i6 0) → ((SJ10 92 1) ≤ (i6 0) → Q (i3 0) SI10 SJ10) ∧ (¬ (SJ10 92 1) ≤ (i6 0) → Q (i3 1) SI10 SJ10))))))) ∧ (¬ ((((SJ4 81 9) * (SJ4 81 21)) + ((SJ4 81 10) * (SJ4 81 22))) + ((SJ4 81 11) * (SJ4 81 23))) = (i6 0) → Q (i3 0) SI4 SJ4))))) : DoI E 224 [(.ref 81)] SI SJ Q := by
  refine gj_start (M := mt_224) ok_224 (Nat.le_of_ble_eq_true rfl) ?_
  refine gj_goq gj_clT ok_224 [20, 24, 289] ?_
  show vp_in (i3 0) 3 ∧ (vp_in (i3 1) 3 ∧ (gj_Do E om0 (gj_mt 187) [(.ref 81), (.int (SI 93 0)), (.int (SI 93 1))] SI SJ _))
  refine ⟨(gj_vin (by decide)), ?_⟩
  refine ⟨(gj_vin (by decide)), ?_⟩
  refine gj_Do.mono h (fun v_ SI2 SJ2 h_ => ?_)
  obtain ⟨rfl, q1⟩ := h_
  show gj_Goes E om0 mt_224 20 [some (.ref 81), some (.int (SI 93 0)), some (.int (SI 93 1))] [] SI2 SJ2 (QI Q)
  refine gj_goq gj_clT ok_224 [20, 24, 289] ?_
  show gj_Do E om0 (gj_mt 188) [(.ref 81)] SI2 SJ2 _
  refine gj_Do.mono q1 (fun v_ SI4 SJ4 h_ => ?_)
  obtain ⟨r3, rfl, q2⟩ := h_
  show gj_Goes E om0 mt_224 24 [some (.ref 81), some (.int (SI 93 0)), some (.int (SI 93 1))] [(.int r3)] SI4 SJ4 (QI Q)
  refine gj_goq gj_clT ok_224 [20, 24, 289] ?_
  show (¬ r3 = 0 → gj_Goes E om0 mt_224 61 [some (.ref 81), some (.int (SI 93 0)), some (.int (SI 93 1))] [] SI4 SJ4 (QI Q)) ∧ (r3 = 0 → ((lg_cmp ((((SJ4 81 9) * (SJ4 81 21)) + ((SJ4 81 10) * (SJ4 81 22))) + ((SJ4 81 11) * (SJ4 81 23))) (i6 0)) = 0 → gj_Goes E om0 mt_224 63 [some (.ref 81), some (.int (SI 93 0)), some (.int (SI 93 1))] [] SI4 SJ4 (QI Q)) ∧ (¬ (lg_cmp ((((SJ4 81 9) * (SJ4 81 21)) + ((SJ4 81 10) * (SJ4 81 22))) + ((SJ4 81 11) * (SJ4 81 23))) (i6 0)) = 0 → ((i3 0) = 0 ∨ (i3 0) = 1) ∧ (QI Q (some (.int (i3 0))) SI4 SJ4)))
  refine ⟨fun c3 => ?_, fun c3 => ?_⟩
  · refine gj_goq gj_clT ok_224 [20, 24, 289] ?_
    show ((i3 0) = 0 ∨ (i3 0) = 1) ∧ (QI Q (some (.int (i3 0))) SI4 SJ4)
    refine ⟨(Or.inl rfl), ?_⟩
    exact ⟨_, rfl, (q2.1 c3)⟩
  · refine ⟨fun c4 => ?_, fun c4 => ?_⟩
    · refine gj_goq gj_clT ok_224 [20, 24, 289] ?_
      show ((lg_cmp (SJ4 81 11) (i6 0)) = 0 → gj_Goes E om0 mt_224 141 [some (.ref 81), some (.int (SI 93 0)), some (.int (SI 93 1))] [] SI4 SJ4 (QI Q)) ∧ (¬ (lg_cmp (SJ4 81 11) (i6 0)) = 0 → vp_in (SI 93 1) 16 ∧ (vp_in (SI 93 1) 16 ∧ (vp_in (i3 0) 3 ∧ (vp_in (SI 93 0) 16 ∧ (vp_in (SI 93 0) 16 ∧ (vp_in (i3 1) 3 ∧ (gj_Goes E om0 mt_224 285 [some (.ref 81), some (.int (SI 93 0)), some (.int (SI 93 1))] [] SI4 (gj_w2 (gj_w2 (gj_w2 SJ4 81 24 (SJ4 81 11)) 92 0 (((SJ4 81 21) * (SJ4 86 (gj_n (SI 93 1)))) - ((SJ4 81 22) * (SJ4 85 (gj_n (SI 93 1)))))) 92 1 (((SJ4 85 (gj_n (SI 93 0))) * (SJ4 81 22)) - ((SJ4 86 (gj_n (SI 93 0))) * (SJ4 81 21)))) (QI Q))))))))
      refine ⟨fun c5 => ?_, fun c5 => ?_⟩
      · refine gj_goq gj_clT ok_224 [20, 24, 289] ?_
        show ((lg_cmp (SJ4 81 10) (i6 0)) = 0 → gj_Goes E om0 mt_224 219 [some (.ref 81), some (.int (SI 93 0)), some (.int (SI 93 1))] [] SI4 SJ4 (QI Q)) ∧ (¬ (lg_cmp (SJ4 81 10) (i6 0)) = 0 → vp_in (SI 93 1) 16 ∧ (vp_in (SI 93 1) 16 ∧ (vp_in (i3 0) 3 ∧ (vp_in (SI 93 0) 16 ∧ (vp_in (SI 93 0) 16 ∧ (vp_in (i3 1) 3 ∧ (gj_Goes E om0 mt_224 285 [some (.ref 81), some (.int (SI 93 0)), some (.int (SI 93 1))] [] SI4 (gj_w2 (gj_w2 (gj_w2 SJ4 81 24 (SJ4 81 10)) 92 0 (((SJ4 81 23) * (SJ4 85 (gj_n (SI 93 1)))) - ((SJ4 81 21) * (SJ4 87 (gj_n (SI 93 1)))))) 92 1 (((SJ4 87 (gj_n (SI 93 0))) * (SJ4 81 21)) - ((SJ4 85 (gj_n (SI 93 0))) * (SJ4 81 23)))) (QI Q))))))))
        refine ⟨fun c6 => ?_, fun c6 => ?_⟩
        · refine gj_goq gj_clT ok_224 [20, 24, 289] ?_
          show vp_in (SI 93 1) 16 ∧ (vp_in (SI 93 1) 16 ∧ (vp_in (i3 0) 3 ∧ (vp_in (SI 93 0) 16 ∧ (vp_in (SI 93 0) 16 ∧ (vp_in (i3 1) 3 ∧ (gj_Do E om0 (gj_mt 222) [(.ref 81)] SI4 (gj_w2 (gj_w2 (gj_w2 SJ4 81 24 (SJ4 81 9)) 92 0 (((SJ4 81 22) * (SJ4 87 (gj_n (SI 93 1)))) - ((SJ4 81 23) * (SJ4 86 (gj_n (SI 93 1)))))) 92 1 (((SJ4 86 (gj_n (SI 93 0))) * (SJ4 81 23)) - ((SJ4 87 (gj_n (SI 93 0))) * (SJ4 81 22)))) _))))))
          have k7 := ((((q2.2 c3).1 (lgc_eq.mp c4)).1 (lgc_eq.mp c5)).1 (lgc_eq.mp c6)).1
          refine ⟨k7, ?_⟩
          refine ⟨k7, ?_⟩
          refine ⟨(gj_vin (by decide)), ?_⟩
          have k8 := ((((q2.2 c3).1 (lgc_eq.mp c4)).1 (lgc_eq.mp c5)).1 (lgc_eq.mp c6)).2.1
          refine ⟨k8, ?_⟩
          refine ⟨k8, ?_⟩
          refine ⟨(gj_vin (by decide)), ?_⟩
          refine gj_Do.mono ((((q2.2 c3).1 (lgc_eq.mp c4)).1 (lgc_eq.mp c5)).1 (lgc_eq.mp c6)).2.2 (fun v_ SI6 SJ6 h_ => ?_)
          obtain ⟨rfl, q9⟩ := h_
          show gj_Goes E om0 mt_224 289 [some (.ref 81), some (.int (SI 93 0)), some (.int (SI 93 1))] [] SI6 SJ6 (QI Q)
          refine gj_goq gj_clT ok_224 [20, 24, 289] ?_
          show vp_in (i3 0) 3 ∧ (((lg_cmp (SJ6 92 0) (i6 0)) ≤ 0 → gj_Goes E om0 mt_224 315 [some (.ref 81), some (.int (SI 93 0)), some (.int (SI 93 1))] [] SI6 SJ6 (QI Q)) ∧ (¬ (lg_cmp (SJ6 92 0) (i6 0)) ≤ 0 → vp_in (i3 1) 3 ∧ (((lg_cmp (SJ6 92 1) (i6 0)) ≤ 0 → gj_Goes E om0 mt_224 315 [some (.ref 81), some (.int (SI 93 0)), some (.int (SI 93 1))] [] SI6 SJ6 (QI Q)) ∧ (¬ (lg_cmp (SJ6 92 1) (i6 0)) ≤ 0 → gj_Goes E om0 mt_224 316 [some (.ref 81), some (.int (SI 93 0)), some (.int (SI 93 1))] [(.int (i3 1))] SI6 SJ6 (QI Q)))))
          refine ⟨(gj_vin (by decide)), ?_⟩
          refine ⟨fun c10 => ?_, fun c10 => ?_⟩
          · refine gj_goq gj_clT ok_224 [20, 24, 289] ?_
            show ((i3 0) = 0 ∨ (i3 0) = 1) ∧ (QI Q (some (.int (i3 0))) SI6 SJ6)
            refine ⟨(Or.inl rfl), ?_⟩
            exact ⟨_, rfl, (q9.1 (lgc_le.mp c10))⟩
          · refine ⟨(gj_vin (by decide)), ?_⟩
            refine ⟨fun c11 => ?_, fun c11 => ?_⟩
            · refine gj_goq gj_clT ok_224 [20, 24, 289] ?_
              show ((i3 0) = 0 ∨ (i3 0) = 1) ∧ (QI Q (some (.int (i3 0))) SI6 SJ6)
              refine ⟨(Or.inl rfl), ?_⟩
              exact ⟨_, rfl, ((q9.2 (fun z_ => c10 (lgc_le.mpr z_))).1 (lgc_le.mp c11))⟩
            · refine gj_goq gj_clT ok_224 [20, 24, 289] ?_
              show ((i3 1) = 0 ∨ (i3 1) = 1) ∧ (QI Q (some (.int (i3 1))) SI6 SJ6)
              refine ⟨(Or.inr rfl), ?_⟩
              exact ⟨_, rfl, ((q9.2 (fun z_ => c10 (lgc_le.mpr z_))).2 (fun z_ => c11 (lgc_le.mpr z_)))⟩
        · have k12 := ((((q2.2 c3).1 (lgc_eq.mp c4)).1 (lgc_eq.mp c5)).2 (fun z_ => c6 (lgc_eq.mpr z_))).1
          refine ⟨k12, ?_⟩
          refine ⟨k12, ?_⟩
          refine ⟨(gj_vin (by decide)), ?_⟩
          have k13 := ((((q2.2 c3).1 (lgc_eq.mp c4)).1 (lgc_eq.mp c5)).2 (fun z_ => c6 (lgc_eq.mpr z_))).2.1
          refine ⟨k13, ?_⟩
          refine ⟨k13, ?_⟩
          refine ⟨(gj_vin (by decide)), ?_⟩
          refine gj_goq gj_clT ok_224 [20, 24, 289] ?_
          show gj_Do E om0 (gj_mt 222) [(.ref 81)] SI4 (gj_w2 (gj_w2 (gj_w2 SJ4 81 24 (SJ4 81 10)) 92 0 (((SJ4 81 23) * (SJ4 85 (gj_n (SI 93 1)))) - ((SJ4 81 21) * (SJ4 87 (gj_n (SI 93 1)))))) 92 1 (((SJ4 87 (gj_n (SI 93 0))) * (SJ4 81 21)) - ((SJ4 85 (gj_n (SI 93 0))) * (SJ4 81 23)))) _
          refine gj_Do.mono ((((q2.2 c3).1 (lgc_eq.mp c4)).1 (lgc_eq.mp c5)).2 (fun z_ => c6 (lgc_eq.mpr z_))).2.2 (fun v_ SI8 SJ8 h_ => ?_)
          obtain ⟨rfl, q14⟩ := h_
          show gj_Goes E om0 mt_224 289 [some (.ref 81), some (.int (SI 93 0)), some (.int (SI 93 1))] [] SI8 SJ8 (QI Q)
          refine gj_goq gj_clT ok_224 [20, 24, 289] ?_
          show vp_in (i3 0) 3 ∧ (((lg_cmp (SJ8 92 0) (i6 0)) ≤ 0 → gj_Goes E om0 mt_224 315 [some (.ref 81), some (.int (SI 93 0)), some (.int (SI 93 1))] [] SI8 SJ8 (QI Q)) ∧ (¬ (lg_cmp (SJ8 92 0) (i6 0)) ≤ 0 → vp_in (i3 1) 3 ∧ (((lg_cmp (SJ8 92 1) (i6 0)) ≤ 0 → gj_Goes E om0 mt_224 315 [some (.ref 81), some (.int (SI 93 0)), some (.int (SI 93 1))] [] SI8 SJ8 (QI Q)) ∧ (¬ (lg_cmp (SJ8 92 1) (i6 0)) ≤ 0 → gj_Goes E om0 mt_224 316 [some (.ref 81), some (.int (SI 93 0)), some (.int (SI 93 1))] [(.int (i3 1))] SI8 SJ8 (QI Q)))))
          refine ⟨(gj_vin (by decide)), ?_⟩
          refine ⟨fun c15 => ?_, fun c15 => ?_⟩
          · refine gj_goq gj_clT ok_224 [20, 24, 289] ?_
            show ((i3 0) = 0 ∨ (i3 0) = 1) ∧ (QI Q (some (.int (i3 0))) SI8 SJ8)
            refine ⟨(Or.inl rfl), ?_⟩
            exact ⟨_, rfl, (q14.1 (lgc_le.mp c15))⟩
          · refine ⟨(gj_vin (by decide)), ?_⟩
            refine ⟨fun c16 => ?_, fun c16 => ?_⟩
            · refine gj_goq gj_clT ok_224 [20, 24, 289] ?_
              show ((i3 0) = 0 ∨ (i3 0) = 1) ∧ (QI Q (some (.int (i3 0))) SI8 SJ8)
              refine ⟨(Or.inl rfl), ?_⟩
              exact ⟨_, rfl, ((q14.2 (fun z_ => c15 (lgc_le.mpr z_))).1 (lgc_le.mp c16))⟩
            · refine gj_goq gj_clT ok_224 [20, 24, 289] ?_
              show ((i3 1) = 0 ∨ (i3 1) = 1) ∧ (QI Q (some (.int (i3 1))) SI8 SJ8)
              refine ⟨(Or.inr rfl), ?_⟩
              exact ⟨_, rfl, ((q14.2 (fun z_ => c15 (lgc_le.mpr z_))).2 (fun z_ => c16 (lgc_le.mpr z_)))⟩
      · have k17 := (((q2.2 c3).1 (lgc_eq.mp c4)).2 (fun z_ => c5 (lgc_eq.mpr z_))).1
        refine ⟨k17, ?_⟩
        refine ⟨k17, ?_⟩
        refine ⟨(gj_vin (by decide)), ?_⟩
        have k18 := (((q2.2 c3).1 (lgc_eq.mp c4)).2 (fun z_ => c5 (lgc_eq.mpr z_))).2.1
        refine ⟨k18, ?_⟩
        refine ⟨k18, ?_⟩
        refine ⟨(gj_vin (by decide)), ?_⟩
        refine gj_goq gj_clT ok_224 [20, 24, 289] ?_
        show gj_Do E om0 (gj_mt 222) [(.ref 81)] SI4 (gj_w2 (gj_w2 (gj_w2 SJ4 81 24 (SJ4 81 11)) 92 0 (((SJ4 81 21) * (SJ4 86 (gj_n (SI 93 1)))) - ((SJ4 81 22) * (SJ4 85 (gj_n (SI 93 1)))))) 92 1 (((SJ4 85 (gj_n (SI 93 0))) * (SJ4 81 22)) - ((SJ4 86 (gj_n (SI 93 0))) * (SJ4 81 21)))) _
        refine gj_Do.mono (((q2.2 c3).1 (lgc_eq.mp c4)).2 (fun z_ => c5 (lgc_eq.mpr z_))).2.2 (fun v_ SI10 SJ10 h_ => ?_)
        obtain ⟨rfl, q19⟩ := h_
        show gj_Goes E om0 mt_224 289 [some (.ref 81), some (.int (SI 93 0)), some (.int (SI 93 1))] [] SI10 SJ10 (QI Q)
        refine gj_goq gj_clT ok_224 [20, 24, 289] ?_
        show vp_in (i3 0) 3 ∧ (((lg_cmp (SJ10 92 0) (i6 0)) ≤ 0 → gj_Goes E om0 mt_224 315 [some (.ref 81), some (.int (SI 93 0)), some (.int (SI 93 1))] [] SI10 SJ10 (QI Q)) ∧ (¬ (lg_cmp (SJ10 92 0) (i6 0)) ≤ 0 → vp_in (i3 1) 3 ∧ (((lg_cmp (SJ10 92 1) (i6 0)) ≤ 0 → gj_Goes E om0 mt_224 315 [some (.ref 81), some (.int (SI 93 0)), some (.int (SI 93 1))] [] SI10 SJ10 (QI Q)) ∧ (¬ (lg_cmp (SJ10 92 1) (i6 0)) ≤ 0 → gj_Goes E om0 mt_224 316 [some (.ref 81), some (.int (SI 93 0)), some (.int (SI 93 1))] [(.int (i3 1))] SI10 SJ10 (QI Q)))))
        refine ⟨(gj_vin (by decide)), ?_⟩
        refine ⟨fun c20 => ?_, fun c20 => ?_⟩
        · refine gj_goq gj_clT ok_224 [20, 24, 289] ?_
          show ((i3 0) = 0 ∨ (i3 0) = 1) ∧ (QI Q (some (.int (i3 0))) SI10 SJ10)
          refine ⟨(Or.inl rfl), ?_⟩
          exact ⟨_, rfl, (q19.1 (lgc_le.mp c20))⟩
        · refine ⟨(gj_vin (by decide)), ?_⟩
          refine ⟨fun c21 => ?_, fun c21 => ?_⟩
          · refine gj_goq gj_clT ok_224 [20, 24, 289] ?_
            show ((i3 0) = 0 ∨ (i3 0) = 1) ∧ (QI Q (some (.int (i3 0))) SI10 SJ10)
            refine ⟨(Or.inl rfl), ?_⟩
            exact ⟨_, rfl, ((q19.2 (fun z_ => c20 (lgc_le.mpr z_))).1 (lgc_le.mp c21))⟩
          · refine gj_goq gj_clT ok_224 [20, 24, 289] ?_
            show ((i3 1) = 0 ∨ (i3 1) = 1) ∧ (QI Q (some (.int (i3 1))) SI10 SJ10)
            refine ⟨(Or.inr rfl), ?_⟩
            exact ⟨_, rfl, ((q19.2 (fun z_ => c20 (lgc_le.mpr z_))).2 (fun z_ => c21 (lgc_le.mpr z_)))⟩
    · refine ⟨(Or.inl rfl), ?_⟩
      exact ⟨_, rfl, ((q2.2 c3).2 (fun z_ => c4 (lgc_eq.mpr z_)))⟩
set_option maxRecDepth 20000 in
/-- GraspJudgeModel.solvesThree -/
theorem st_225 {E : gj_E} {Q : Int32 → gj_I → gj_J → Prop} (SI : gj_I) (SJ : gj_J) (h : vp_in (SI 93 0) 16 ∧ (vp_in (SI 93 1) 16 ∧ (vp_in (SI 93 2) 16 ∧ (DoL E 221 [(.long (SJ 85 (gj_n (SI 93 0)))), (.long (SJ 86 (gj_n (SI 93 0)))), (.long (SJ 87 (gj_n (SI 93 0)))), (.long (SJ 85 (gj_n (SI 93 1)))), (.long (SJ 86 (gj_n (SI 93 1)))), (.long (SJ 87 (gj_n (SI 93 1)))), (.long (SJ 85 (gj_n (SI 93 2)))), (.long (SJ 86 (gj_n (SI 93 2)))), (.long (SJ 87 (gj_n (SI 93 2))))] SI SJ (fun r1 SI2 SJ2 => (¬ r1 = (i6 0) → DoL E 221 [(.long (SJ2 81 21)), (.long (SJ2 81 22)), (.long (SJ2 81 23)), (.long (SJ2 85 (gj_n (SI 93 1)))), (.long (SJ2 86 (gj_n (SI 93 1)))), (.long (SJ2 87 (gj_n (SI 93 1)))), (.long (SJ2 85 (gj_n (SI 93 2)))), (.long (SJ2 86 (gj_n (SI 93 2)))), (.long (SJ2 87 (gj_n (SI 93 2))))] SI2 (gj_w2 SJ2 81 24 r1) (fun r3 SI4 SJ4 => DoL E 221 [(.long (SJ4 85 (gj_n (SI 93 0)))), (.long (SJ4 86 (gj_n (SI 93 0)))), (.long (SJ4 87 (gj_n (SI 93 0)))), (.long (SJ4 81 21)), (.long (SJ4 81 22)), (.long (SJ4 81 23)), (.long (SJ4 85 (gj_n (SI 93 2)))), (.long (SJ4 86 (gj_n (SI 93 2)))), (.long (SJ4 87 (gj_n (SI 93 2))))] SI4 (gj_w2 SJ4 92 0 r3) (fun r5 SI6 SJ6 => DoL E 221 [(.long (SJ6 85 (gj_n (SI 93 0)))), (.long (SJ6 86 (gj_n (SI 93 0)))), (.long (SJ6 87 (gj_n (SI 93 0)))), (.long (SJ6 85 (gj_n (SI 93 1)))), (.long (SJ6 86 (gj_n (SI 93 1)))), (.long (SJ6 87 (gj_n (SI 93 1)))), (.long (SJ6 81 21)), (.long (SJ6 81 22)), (.long (SJ6 81 23))] SI6 (gj_w2 SJ6 92 1 r5) (fun r7 SI8 SJ8 => DoV E 222 [(.ref 81)] SI8 (gj_w2 SJ8 92 2 r7) (fun SI10 SJ10 => ((SJ10 92 0) ≤ (i6 0) → Q (i3 0) SI10 SJ10) ∧ (¬ (SJ10 92 0) ≤ (i6 0) → ((SJ10 92 1) ≤ (i6 0) → Q (i3 0) SI10 SJ10) ∧ (¬ (SJ10 92 1) ≤ (i6 0) → ((SJ10 92 2) ≤ (i6 0) → Q (i3 0) SI10 SJ10) ∧ (¬ (SJ10 92 2) ≤ (i6 0) → Q (i3 1) SI10 SJ10)))))))) ∧ (r1 = (i6 0) → Q (i3 0) SI2 (gj_w2 SJ2 81 24 r1))))))) : DoI E 225 [(.ref 81)] SI SJ Q := by
  refine gj_start (M := mt_225) ok_225 (Nat.le_of_ble_eq_true rfl) ?_
  refine gj_goq gj_clT ok_225 [79, 149, 206, 263, 268] ?_
  show vp_in (i3 0) 3 ∧ (vp_in (i3 1) 3 ∧ (vp_in (i3 2) 3 ∧ (vp_in (SI 93 0) 16 ∧ (vp_in (SI 93 0) 16 ∧ (vp_in (SI 93 0) 16 ∧ (vp_in (SI 93 1) 16 ∧ (vp_in (SI 93 1) 16 ∧ (vp_in (SI 93 1) 16 ∧ (vp_in (SI 93 2) 16 ∧ (vp_in (SI 93 2) 16 ∧ (vp_in (SI 93 2) 16 ∧ (gj_Do E om0 (gj_mt 221) [(.long (SJ 85 (gj_n (SI 93 0)))), (.long (SJ 86 (gj_n (SI 93 0)))), (.long (SJ 87 (gj_n (SI 93 0)))), (.long (SJ 85 (gj_n (SI 93 1)))), (.long (SJ 86 (gj_n (SI 93 1)))), (.long (SJ 87 (gj_n (SI 93 1)))), (.long (SJ 85 (gj_n (SI 93 2)))), (.long (SJ 86 (gj_n (SI 93 2)))), (.long (SJ 87 (gj_n (SI 93 2))))] SI SJ _))))))))))))
  refine ⟨(gj_vin (by decide)), ?_⟩
  refine ⟨(gj_vin (by decide)), ?_⟩
  refine ⟨(gj_vin (by decide)), ?_⟩
  have k1 := h.1
  refine ⟨k1, ?_⟩
  refine ⟨k1, ?_⟩
  refine ⟨k1, ?_⟩
  have k2 := h.2.1
  refine ⟨k2, ?_⟩
  refine ⟨k2, ?_⟩
  refine ⟨k2, ?_⟩
  have k3 := h.2.2.1
  refine ⟨k3, ?_⟩
  refine ⟨k3, ?_⟩
  refine ⟨k3, ?_⟩
  refine gj_Do.mono h.2.2.2 (fun v_ SI2 SJ2 h_ => ?_)
  obtain ⟨r1, rfl, q4⟩ := h_
  show gj_Goes E om0 mt_225 79 [some (.ref 81), some (.int (SI 93 0)), some (.int (SI 93 1)), some (.int (SI 93 2))] [(.long r1), (.ref 81)] SI2 SJ2 (QI Q)
  refine gj_goq gj_clT ok_225 [79, 149, 206, 263, 268] ?_
  show (¬ (lg_cmp r1 (i6 0)) = 0 → gj_Goes E om0 mt_225 93 [some (.ref 81), some (.int (SI 93 0)), some (.int (SI 93 1)), some (.int (SI 93 2))] [] SI2 (gj_w2 SJ2 81 24 r1) (QI Q)) ∧ ((lg_cmp r1 (i6 0)) = 0 → ((i3 0) = 0 ∨ (i3 0) = 1) ∧ (QI Q (some (.int (i3 0))) SI2 (gj_w2 SJ2 81 24 r1)))
  refine ⟨fun c5 => ?_, fun c5 => ?_⟩
  · refine gj_goq gj_clT ok_225 [79, 149, 206, 263, 268] ?_
    show vp_in (SI 93 1) 16 ∧ (vp_in (SI 93 1) 16 ∧ (vp_in (SI 93 1) 16 ∧ (vp_in (SI 93 2) 16 ∧ (vp_in (SI 93 2) 16 ∧ (vp_in (SI 93 2) 16 ∧ (gj_Do E om0 (gj_mt 221) [(.long (SJ2 81 21)), (.long (SJ2 81 22)), (.long (SJ2 81 23)), (.long (SJ2 85 (gj_n (SI 93 1)))), (.long (SJ2 86 (gj_n (SI 93 1)))), (.long (SJ2 87 (gj_n (SI 93 1)))), (.long (SJ2 85 (gj_n (SI 93 2)))), (.long (SJ2 86 (gj_n (SI 93 2)))), (.long (SJ2 87 (gj_n (SI 93 2))))] SI2 (gj_w2 SJ2 81 24 r1) _))))))
    refine ⟨k2, ?_⟩
    refine ⟨k2, ?_⟩
    refine ⟨k2, ?_⟩
    refine ⟨k3, ?_⟩
    refine ⟨k3, ?_⟩
    refine ⟨k3, ?_⟩
    refine gj_Do.mono (q4.1 (fun z_ => c5 (lgc_eq.mpr z_))) (fun v_ SI4 SJ4 h_ => ?_)
    obtain ⟨r3, rfl, q6⟩ := h_
    show gj_Goes E om0 mt_225 149 [some (.ref 81), some (.int (SI 93 0)), some (.int (SI 93 1)), some (.int (SI 93 2))] [(.long r3), (.int (i3 0)), (.ref 92)] SI4 SJ4 (QI Q)
    refine gj_goq gj_clT ok_225 [79, 149, 206, 263, 268] ?_
    show vp_in (i3 0) 3 ∧ (vp_in (SI 93 0) 16 ∧ (vp_in (SI 93 0) 16 ∧ (vp_in (SI 93 0) 16 ∧ (vp_in (SI 93 2) 16 ∧ (vp_in (SI 93 2) 16 ∧ (vp_in (SI 93 2) 16 ∧ (gj_Do E om0 (gj_mt 221) [(.long (SJ4 85 (gj_n (SI 93 0)))), (.long (SJ4 86 (gj_n (SI 93 0)))), (.long (SJ4 87 (gj_n (SI 93 0)))), (.long (SJ4 81 21)), (.long (SJ4 81 22)), (.long (SJ4 81 23)), (.long (SJ4 85 (gj_n (SI 93 2)))), (.long (SJ4 86 (gj_n (SI 93 2)))), (.long (SJ4 87 (gj_n (SI 93 2))))] SI4 (gj_w2 SJ4 92 0 r3) _)))))))
    refine ⟨(gj_vin (by decide)), ?_⟩
    refine ⟨k1, ?_⟩
    refine ⟨k1, ?_⟩
    refine ⟨k1, ?_⟩
    refine ⟨k3, ?_⟩
    refine ⟨k3, ?_⟩
    refine ⟨k3, ?_⟩
    refine gj_Do.mono q6 (fun v_ SI6 SJ6 h_ => ?_)
    obtain ⟨r5, rfl, q7⟩ := h_
    show gj_Goes E om0 mt_225 206 [some (.ref 81), some (.int (SI 93 0)), some (.int (SI 93 1)), some (.int (SI 93 2))] [(.long r5), (.int (i3 1)), (.ref 92)] SI6 SJ6 (QI Q)
    refine gj_goq gj_clT ok_225 [79, 149, 206, 263, 268] ?_
    show vp_in (i3 1) 3 ∧ (vp_in (SI 93 0) 16 ∧ (vp_in (SI 93 0) 16 ∧ (vp_in (SI 93 0) 16 ∧ (vp_in (SI 93 1) 16 ∧ (vp_in (SI 93 1) 16 ∧ (vp_in (SI 93 1) 16 ∧ (gj_Do E om0 (gj_mt 221) [(.long (SJ6 85 (gj_n (SI 93 0)))), (.long (SJ6 86 (gj_n (SI 93 0)))), (.long (SJ6 87 (gj_n (SI 93 0)))), (.long (SJ6 85 (gj_n (SI 93 1)))), (.long (SJ6 86 (gj_n (SI 93 1)))), (.long (SJ6 87 (gj_n (SI 93 1)))), (.long (SJ6 81 21)), (.long (SJ6 81 22)), (.long (SJ6 81 23))] SI6 (gj_w2 SJ6 92 1 r5) _)))))))
    refine ⟨(gj_vin (by decide)), ?_⟩
    refine ⟨k1, ?_⟩
    refine ⟨k1, ?_⟩
    refine ⟨k1, ?_⟩
    refine ⟨k2, ?_⟩
    refine ⟨k2, ?_⟩
    refine ⟨k2, ?_⟩
    refine gj_Do.mono q7 (fun v_ SI8 SJ8 h_ => ?_)
    obtain ⟨r7, rfl, q8⟩ := h_
    show gj_Goes E om0 mt_225 263 [some (.ref 81), some (.int (SI 93 0)), some (.int (SI 93 1)), some (.int (SI 93 2))] [(.long r7), (.int (i3 2)), (.ref 92)] SI8 SJ8 (QI Q)
    refine gj_goq gj_clT ok_225 [79, 149, 206, 263, 268] ?_
    show vp_in (i3 2) 3 ∧ (gj_Do E om0 (gj_mt 222) [(.ref 81)] SI8 (gj_w2 SJ8 92 2 r7) _)
    refine ⟨(gj_vin (by decide)), ?_⟩
    refine gj_Do.mono q8 (fun v_ SI10 SJ10 h_ => ?_)
    obtain ⟨rfl, q9⟩ := h_
    show gj_Goes E om0 mt_225 268 [some (.ref 81), some (.int (SI 93 0)), some (.int (SI 93 1)), some (.int (SI 93 2))] [] SI10 SJ10 (QI Q)
    refine gj_goq gj_clT ok_225 [79, 149, 206, 263, 268] ?_
    show vp_in (i3 0) 3 ∧ (((lg_cmp (SJ10 92 0) (i6 0)) ≤ 0 → gj_Goes E om0 mt_225 305 [some (.ref 81), some (.int (SI 93 0)), some (.int (SI 93 1)), some (.int (SI 93 2))] [] SI10 SJ10 (QI Q)) ∧ (¬ (lg_cmp (SJ10 92 0) (i6 0)) ≤ 0 → vp_in (i3 1) 3 ∧ (((lg_cmp (SJ10 92 1) (i6 0)) ≤ 0 → gj_Goes E om0 mt_225 305 [some (.ref 81), some (.int (SI 93 0)), some (.int (SI 93 1)), some (.int (SI 93 2))] [] SI10 SJ10 (QI Q)) ∧ (¬ (lg_cmp (SJ10 92 1) (i6 0)) ≤ 0 → vp_in (i3 2) 3 ∧ (((lg_cmp (SJ10 92 2) (i6 0)) ≤ 0 → gj_Goes E om0 mt_225 305 [some (.ref 81), some (.int (SI 93 0)), some (.int (SI 93 1)), some (.int (SI 93 2))] [] SI10 SJ10 (QI Q)) ∧ (¬ (lg_cmp (SJ10 92 2) (i6 0)) ≤ 0 → gj_Goes E om0 mt_225 306 [some (.ref 81), some (.int (SI 93 0)), some (.int (SI 93 1)), some (.int (SI 93 2))] [(.int (i3 1))] SI10 SJ10 (QI Q)))))))
    refine ⟨(gj_vin (by decide)), ?_⟩
    refine ⟨fun c10 => ?_, fun c10 => ?_⟩
    · refine gj_goq gj_clT ok_225 [79, 149, 206, 263, 268] ?_
      show ((i3 0) = 0 ∨ (i3 0) = 1) ∧ (QI Q (some (.int (i3 0))) SI10 SJ10)
      refine ⟨(Or.inl rfl), ?_⟩
      exact ⟨_, rfl, (q9.1 (lgc_le.mp c10))⟩
    · refine ⟨(gj_vin (by decide)), ?_⟩
      refine ⟨fun c11 => ?_, fun c11 => ?_⟩
      · refine gj_goq gj_clT ok_225 [79, 149, 206, 263, 268] ?_
        show ((i3 0) = 0 ∨ (i3 0) = 1) ∧ (QI Q (some (.int (i3 0))) SI10 SJ10)
        refine ⟨(Or.inl rfl), ?_⟩
        exact ⟨_, rfl, ((q9.2 (fun z_ => c10 (lgc_le.mpr z_))).1 (lgc_le.mp c11))⟩
      · refine ⟨(gj_vin (by decide)), ?_⟩
        refine ⟨fun c12 => ?_, fun c12 => ?_⟩
        · refine gj_goq gj_clT ok_225 [79, 149, 206, 263, 268] ?_
          show ((i3 0) = 0 ∨ (i3 0) = 1) ∧ (QI Q (some (.int (i3 0))) SI10 SJ10)
          refine ⟨(Or.inl rfl), ?_⟩
          exact ⟨_, rfl, (((q9.2 (fun z_ => c10 (lgc_le.mpr z_))).2 (fun z_ => c11 (lgc_le.mpr z_))).1 (lgc_le.mp c12))⟩
        · refine gj_goq gj_clT ok_225 [79, 149, 206, 263, 268] ?_
          show ((i3 1) = 0 ∨ (i3 1) = 1) ∧ (QI Q (some (.int (i3 1))) SI10 SJ10)
          refine ⟨(Or.inr rfl), ?_⟩
          exact ⟨_, rfl, (((q9.2 (fun z_ => c10 (lgc_le.mpr z_))).2 (fun z_ => c11 (lgc_le.mpr z_))).2 (fun z_ => c12 (lgc_le.mpr z_)))⟩
  · refine ⟨(Or.inl rfl), ?_⟩
    exact ⟨_, rfl, (q4.2 (lgc_eq.mp c5))⟩
set_option maxRecDepth 20000 in
/-- GraspJudgeModel.offers -/
theorem st_226 {E : gj_E} {Q : gj_I → gj_J → Prop} (a1 : Int32) (SI : gj_I) (SJ : gj_J) (h : GoV E mt_226 5 [some (.ref 81), some (.int a1), some (.long (i6 0)), none, some (.int (i3 0)), none, none] SI SJ Q) : DoV E 226 [(.ref 81), (.int a1)] SI SJ Q := by
  refine gj_start (M := mt_226) ok_226 (Nat.le_of_ble_eq_true rfl) ?_
  refine gj_goq gj_clT ok_226 [5, 35, 97, 144, 170] ?_
  show gj_Goes E om0 mt_226 5 [some (.ref 81), some (.int a1), some (.long (i6 0)), none, some (.int (i3 0)), none, none] [] SI SJ (QV Q)
  exact h
set_option maxRecDepth 20000 in
theorem lp_226_5 {E : gj_E} {Q : gj_I → gj_J → Prop} (x1 : Int32) (x2 : Int64) (x4 : Int32) (SI : gj_I) (SJ : gj_J) (h : (x1 ≤ x4 → DoL E 161 [(.long x2), (.long (SJ 81 24))] SI SJ (fun r1 SI2 SJ2 => ((SI2 81 29) < 0 → ¬ r1 = 0 ∧ (GoV E mt_226 97 [some (.ref 81), some (.int x1), none, none, none, none, some (.int (i3 0))] (gj_u2 SI2 81 29 x1) (gj_w2 (gj_w2 SJ2 81 30 (x2 / r1)) 81 31 ((SJ2 81 24) / r1)) Q)) ∧ (¬ (SI2 81 29) < 0 → ¬ r1 = 0 ∧ ((((x2 / r1) * (SJ2 81 31)) < ((SJ2 81 30) * ((SJ2 81 24) / r1)) → GoV E mt_226 97 [some (.ref 81), some (.int x1), none, none, none, none, some (.int (i3 0))] (gj_u2 SI2 81 29 x1) (gj_w2 (gj_w2 SJ2 81 30 (x2 / r1)) 81 31 ((SJ2 81 24) / r1)) Q) ∧ (¬ ((x2 / r1) * (SJ2 81 31)) < ((SJ2 81 30) * ((SJ2 81 24) / r1)) → Q SI2 SJ2))))) ∧ (¬ x1 ≤ x4 → vp_in x4 3 ∧ (GoV E mt_226 5 [some (.ref 81), some (.int x1), some (.long (x2 + (SJ 92 (gj_n x4)))), none, some (.int (x4 + (i3 1))), none, none] SI SJ Q))) : GoV E mt_226 5 [some (.ref 81), some (.int x1), some (.long x2), none, some (.int x4), none, none] SI SJ Q := by
  refine gj_goq gj_clT ok_226 [5, 35, 97, 144, 170] ?_
  show (x1 ≤ x4 → gj_Goes E om0 mt_226 27 [some (.ref 81), some (.int x1), some (.long x2), none, some (.int x4), none, none] [] SI SJ (QV Q)) ∧ (¬ x1 ≤ x4 → vp_in x4 3 ∧ (gj_Goes E om0 mt_226 5 [some (.ref 81), some (.int x1), some (.long (x2 + (SJ 92 (gj_n x4)))), none, some (.int (x4 + (i3 1))), none, none] [] SI SJ (QV Q)))
  refine ⟨fun c1 => ?_, fun c1 => ?_⟩
  · refine gj_goq gj_clT ok_226 [5, 35, 97, 144, 170] ?_
    show gj_Do E om0 (gj_mt 161) [(.long x2), (.long (SJ 81 24))] SI SJ _
    refine gj_Do.mono (h.1 c1) (fun v_ SI2 SJ2 h_ => ?_)
    obtain ⟨r1, rfl, q2⟩ := h_
    show gj_Goes E om0 mt_226 35 [some (.ref 81), some (.int x1), some (.long x2), none, some (.int x4), none, none] [(.long r1)] SI2 SJ2 (QV Q)
    refine gj_goq gj_clT ok_226 [5, 35, 97, 144, 170] ?_
    show ((SI2 81 29) < 0 → gj_Goes E om0 mt_226 70 [some (.ref 81), some (.int x1), some (.long x2), none, some (.long r1), none, none] [] SI2 SJ2 (QV Q)) ∧ (¬ (SI2 81 29) < 0 → ¬ r1 = 0 ∧ (¬ r1 = 0 ∧ (((lg_cmp ((x2 / r1) * (SJ2 81 31)) ((SJ2 81 30) * ((SJ2 81 24) / r1))) < 0 → gj_Goes E om0 mt_226 70 [some (.ref 81), some (.int x1), some (.long x2), none, some (.long r1), none, none] [] SI2 SJ2 (QV Q)) ∧ (¬ (lg_cmp ((x2 / r1) * (SJ2 81 31)) ((SJ2 81 30) * ((SJ2 81 24) / r1))) < 0 → QV Q none SI2 SJ2))))
    refine ⟨fun c3 => ?_, fun c3 => ?_⟩
    · refine gj_goq gj_clT ok_226 [5, 35, 97, 144, 170] ?_
      show ¬ r1 = 0 ∧ (¬ r1 = 0 ∧ (gj_Goes E om0 mt_226 97 [some (.ref 81), some (.int x1), some (.long x2), none, some (.long r1), none, some (.int (i3 0))] [] (gj_u2 SI2 81 29 x1) (gj_w2 (gj_w2 SJ2 81 30 (x2 / r1)) 81 31 ((SJ2 81 24) / r1)) (QV Q)))
      have k4 := (q2.1 c3).1
      refine ⟨k4, ?_⟩
      refine ⟨k4, ?_⟩
      exact gj_fh (q2.1 c3).2 (And.intro (Or.inr rfl) (And.intro (Or.inr rfl) (And.intro (Or.inl rfl) (And.intro (Or.inl rfl) (And.intro (Or.inl rfl) (And.intro (Or.inl rfl) (And.intro (Or.inr rfl) trivial)))))))
    · have k5 := (q2.2 c3).1
      refine ⟨k5, ?_⟩
      refine ⟨k5, ?_⟩
      refine ⟨fun c6 => ?_, fun c6 => ?_⟩
      · refine gj_goq gj_clT ok_226 [5, 35, 97, 144, 170] ?_
        show ¬ r1 = 0 ∧ (¬ r1 = 0 ∧ (gj_Goes E om0 mt_226 97 [some (.ref 81), some (.int x1), some (.long x2), none, some (.long r1), none, some (.int (i3 0))] [] (gj_u2 SI2 81 29 x1) (gj_w2 (gj_w2 SJ2 81 30 (x2 / r1)) 81 31 ((SJ2 81 24) / r1)) (QV Q)))
        refine ⟨k5, ?_⟩
        refine ⟨k5, ?_⟩
        exact gj_fh ((q2.2 c3).2.1 (lgc_lt.mp c6)) (And.intro (Or.inr rfl) (And.intro (Or.inr rfl) (And.intro (Or.inl rfl) (And.intro (Or.inl rfl) (And.intro (Or.inl rfl) (And.intro (Or.inl rfl) (And.intro (Or.inr rfl) trivial)))))))
      · exact ⟨rfl, ((q2.2 c3).2.2 (fun z_ => c6 (lgc_lt.mpr z_)))⟩
  · have k7 := (h.2 c1).1
    refine ⟨k7, ?_⟩
    exact (h.2 c1).2
set_option maxRecDepth 20000 in
theorem lp_226_97 {E : gj_E} {Q : gj_I → gj_J → Prop} (x1 : Int32) (x6 : Int32) (SI : gj_I) (SJ : gj_J) (h : (x1 ≤ x6 → Q SI SJ) ∧ (¬ x1 ≤ x6 → vp_in x6 3 ∧ (DoL E 161 [(.long (SJ 92 (gj_n x6))), (.long (SJ 81 24))] (gj_u2 SI 94 (gj_n x6) (SI 93 (gj_n x6))) SJ (fun r1 SI2 SJ2 => ¬ r1 = 0 ∧ (DoL E 161 [(.long (SJ2 92 (gj_n x6))), (.long (SJ2 81 24))] SI2 (gj_w2 SJ2 95 (gj_n x6) ((SJ 92 (gj_n x6)) / r1)) (fun r3 SI4 SJ4 => ¬ r3 = 0 ∧ (GoV E mt_226 97 [some (.ref 81), some (.int x1), none, none, none, none, some (.int (x6 + (i3 1)))] SI4 (gj_w2 SJ4 96 (gj_n x6) ((SJ2 81 24) / r3)) Q))))))) : GoV E mt_226 97 [some (.ref 81), some (.int x1), none, none, none, none, some (.int x6)] SI SJ Q := by
  refine gj_goq gj_clT ok_226 [5, 35, 97, 144, 170] ?_
  show (x1 ≤ x6 → gj_Goes E om0 mt_226 178 [some (.ref 81), some (.int x1), none, none, none, none, some (.int x6)] [] SI SJ (QV Q)) ∧ (¬ x1 ≤ x6 → vp_in x6 3 ∧ (vp_in x6 3 ∧ (vp_in x6 3 ∧ (vp_in x6 3 ∧ (gj_Do E om0 (gj_mt 161) [(.long (SJ 92 (gj_n x6))), (.long (SJ 81 24))] (gj_u2 SI 94 (gj_n x6) (SI 93 (gj_n x6))) SJ _)))))
  refine ⟨fun c1 => ?_, fun c1 => ?_⟩
  · refine gj_goq gj_clT ok_226 [5, 35, 97, 144, 170] ?_
    show QV Q none SI SJ
    exact ⟨rfl, (h.1 c1)⟩
  · have k2 := (h.2 c1).1
    refine ⟨k2, ?_⟩
    refine ⟨k2, ?_⟩
    refine ⟨k2, ?_⟩
    refine ⟨k2, ?_⟩
    refine gj_Do.mono (h.2 c1).2 (fun v_ SI2 SJ2 h_ => ?_)
    obtain ⟨r1, rfl, q3⟩ := h_
    show gj_Goes E om0 mt_226 144 [some (.ref 81), some (.int x1), none, none, none, none, some (.int x6)] [(.long r1), (.long (SJ 92 (gj_n x6))), (.int x6), (.ref 95)] SI2 SJ2 (QV Q)
    refine gj_goq gj_clT ok_226 [5, 35, 97, 144, 170] ?_
    show ¬ r1 = 0 ∧ (vp_in x6 3 ∧ (vp_in x6 3 ∧ (gj_Do E om0 (gj_mt 161) [(.long (SJ2 92 (gj_n x6))), (.long (SJ2 81 24))] SI2 (gj_w2 SJ2 95 (gj_n x6) ((SJ 92 (gj_n x6)) / r1)) _)))
    have k4 := q3.1
    refine ⟨k4, ?_⟩
    refine ⟨k2, ?_⟩
    refine ⟨k2, ?_⟩
    refine gj_Do.mono q3.2 (fun v_ SI4 SJ4 h_ => ?_)
    obtain ⟨r3, rfl, q5⟩ := h_
    show gj_Goes E om0 mt_226 170 [some (.ref 81), some (.int x1), none, none, none, none, some (.int x6)] [(.long r3), (.long (SJ2 81 24)), (.int x6), (.ref 96)] SI4 SJ4 (QV Q)
    refine gj_goq gj_clT ok_226 [5, 35, 97, 144, 170] ?_
    show ¬ r3 = 0 ∧ (vp_in x6 3 ∧ (gj_Goes E om0 mt_226 97 [some (.ref 81), some (.int x1), none, none, none, none, some (.int (x6 + (i3 1)))] [] SI4 (gj_w2 SJ4 96 (gj_n x6) ((SJ2 81 24) / r3)) (QV Q)))
    have k6 := q5.1
    refine ⟨k6, ?_⟩
    refine ⟨k2, ?_⟩
    exact q5.2
set_option maxRecDepth 20000 in
/-- GraspJudgeModel.holds -/
theorem st_227 {E : gj_E} {Q : Int32 → gj_I → gj_J → Prop} (a1 : Int64) (a2 : Int64) (a3 : Int64) (SI : gj_I) (SJ : gj_J) (h : (¬ a1 = (i6 0) → GoI E mt_227 63 [some (.ref 81), none, none, none, none, none, none, some (.int (i3 0)), none, none] (gj_u2 SI 81 29 (i3 (-1))) (gj_w2 (gj_w2 (gj_w2 SJ 81 21 (-a1)) 81 22 (-a2)) 81 23 (-a3)) Q) ∧ (a1 = (i6 0) → (¬ a2 = (i6 0) → GoI E mt_227 63 [some (.ref 81), none, none, none, none, none, none, some (.int (i3 0)), none, none] (gj_u2 SI 81 29 (i3 (-1))) (gj_w2 (gj_w2 (gj_w2 SJ 81 21 (-a1)) 81 22 (-a2)) 81 23 (-a3)) Q) ∧ (a2 = (i6 0) → (¬ a3 = (i6 0) → GoI E mt_227 63 [some (.ref 81), none, none, none, none, none, none, some (.int (i3 0)), none, none] (gj_u2 SI 81 29 (i3 (-1))) (gj_w2 (gj_w2 (gj_w2 SJ 81 21 (-a1)) 81 22 (-a2)) 81 23 (-a3)) Q) ∧ (a3 = (i6 0) → Q (i3 1) (gj_u2 (gj_u2 SI 81 29 (i3 (-1))) 81 29 (i3 0)) (gj_w2 (gj_w2 (gj_w2 (gj_w2 (gj_w2 SJ 81 21 (-a1)) 81 22 (-a2)) 81 23 (-a3)) 81 30 (i6 0)) 81 31 (i6 1)))))) : DoI E 227 [(.ref 81), (.long a1), (.long a2), (.long a3)] SI SJ Q := by
  refine gj_start (M := mt_227) ok_227 (Nat.le_of_ble_eq_true rfl) ?_
  refine gj_goq gj_clT ok_227 [63, 84, 92, 101, 116, 145, 153, 168, 183, 198, 235, 243] ?_
  show (¬ (lg_cmp a1 (i6 0)) = 0 → gj_Goes E om0 mt_227 60 [some (.ref 81), some (.long a1), none, some (.long a2), none, some (.long a3), none, none, none, none] [] (gj_u2 SI 81 29 (i3 (-1))) (gj_w2 (gj_w2 (gj_w2 SJ 81 21 (-a1)) 81 22 (-a2)) 81 23 (-a3)) (QI Q)) ∧ ((lg_cmp a1 (i6 0)) = 0 → (¬ (lg_cmp a2 (i6 0)) = 0 → gj_Goes E om0 mt_227 60 [some (.ref 81), some (.long a1), none, some (.long a2), none, some (.long a3), none, none, none, none] [] (gj_u2 SI 81 29 (i3 (-1))) (gj_w2 (gj_w2 (gj_w2 SJ 81 21 (-a1)) 81 22 (-a2)) 81 23 (-a3)) (QI Q)) ∧ ((lg_cmp a2 (i6 0)) = 0 → (¬ (lg_cmp a3 (i6 0)) = 0 → gj_Goes E om0 mt_227 60 [some (.ref 81), some (.long a1), none, some (.long a2), none, some (.long a3), none, none, none, none] [] (gj_u2 SI 81 29 (i3 (-1))) (gj_w2 (gj_w2 (gj_w2 SJ 81 21 (-a1)) 81 22 (-a2)) 81 23 (-a3)) (QI Q)) ∧ ((lg_cmp a3 (i6 0)) = 0 → ((i3 1) = 0 ∨ (i3 1) = 1) ∧ (QI Q (some (.int (i3 1))) (gj_u2 (gj_u2 SI 81 29 (i3 (-1))) 81 29 (i3 0)) (gj_w2 (gj_w2 (gj_w2 (gj_w2 (gj_w2 SJ 81 21 (-a1)) 81 22 (-a2)) 81 23 (-a3)) 81 30 (i6 0)) 81 31 (i6 1))))))
  refine ⟨fun c1 => ?_, fun c1 => ?_⟩
  · refine gj_goq gj_clT ok_227 [63, 84, 92, 101, 116, 145, 153, 168, 183, 198, 235, 243] ?_
    show gj_Goes E om0 mt_227 63 [some (.ref 81), some (.long a1), none, some (.long a2), none, some (.long a3), none, some (.int (i3 0)), none, none] [] (gj_u2 SI 81 29 (i3 (-1))) (gj_w2 (gj_w2 (gj_w2 SJ 81 21 (-a1)) 81 22 (-a2)) 81 23 (-a3)) (QI Q)
    exact gj_fh (h.1 (fun z_ => c1 (lgc_eq.mpr z_))) (And.intro (Or.inr rfl) (And.intro (Or.inl rfl) (And.intro (Or.inl rfl) (And.intro (Or.inl rfl) (And.intro (Or.inl rfl) (And.intro (Or.inl rfl) (And.intro (Or.inl rfl) (And.intro (Or.inr rfl) (And.intro (Or.inl rfl) (And.intro (Or.inl rfl) trivial))))))))))
  · refine ⟨fun c2 => ?_, fun c2 => ?_⟩
    · refine gj_goq gj_clT ok_227 [63, 84, 92, 101, 116, 145, 153, 168, 183, 198, 235, 243] ?_
      show gj_Goes E om0 mt_227 63 [some (.ref 81), some (.long a1), none, some (.long a2), none, some (.long a3), none, some (.int (i3 0)), none, none] [] (gj_u2 SI 81 29 (i3 (-1))) (gj_w2 (gj_w2 (gj_w2 SJ 81 21 (-a1)) 81 22 (-a2)) 81 23 (-a3)) (QI Q)
      exact gj_fh ((h.2 (lgc_eq.mp c1)).1 (fun z_ => c2 (lgc_eq.mpr z_))) (And.intro (Or.inr rfl) (And.intro (Or.inl rfl) (And.intro (Or.inl rfl) (And.intro (Or.inl rfl) (And.intro (Or.inl rfl) (And.intro (Or.inl rfl) (And.intro (Or.inl rfl) (And.intro (Or.inr rfl) (And.intro (Or.inl rfl) (And.intro (Or.inl rfl) trivial))))))))))
    · refine ⟨fun c3 => ?_, fun c3 => ?_⟩
      · refine gj_goq gj_clT ok_227 [63, 84, 92, 101, 116, 145, 153, 168, 183, 198, 235, 243] ?_
        show gj_Goes E om0 mt_227 63 [some (.ref 81), some (.long a1), none, some (.long a2), none, some (.long a3), none, some (.int (i3 0)), none, none] [] (gj_u2 SI 81 29 (i3 (-1))) (gj_w2 (gj_w2 (gj_w2 SJ 81 21 (-a1)) 81 22 (-a2)) 81 23 (-a3)) (QI Q)
        exact gj_fh (((h.2 (lgc_eq.mp c1)).2 (lgc_eq.mp c2)).1 (fun z_ => c3 (lgc_eq.mpr z_))) (And.intro (Or.inr rfl) (And.intro (Or.inl rfl) (And.intro (Or.inl rfl) (And.intro (Or.inl rfl) (And.intro (Or.inl rfl) (And.intro (Or.inl rfl) (And.intro (Or.inl rfl) (And.intro (Or.inr rfl) (And.intro (Or.inl rfl) (And.intro (Or.inl rfl) trivial))))))))))
      · refine ⟨(Or.inr rfl), ?_⟩
        exact ⟨_, rfl, (((h.2 (lgc_eq.mp c1)).2 (lgc_eq.mp c2)).2 (lgc_eq.mp c3))⟩
set_option maxRecDepth 20000 in
theorem lp_227_63 {E : gj_E} {Q : Int32 → gj_I → gj_J → Prop} (x7 : Int32) (SI : gj_I) (SJ : gj_J) (h : ((SI 81 8) ≤ x7 → GoI E mt_227 101 [some (.ref 81), none, none, none, none, none, none, some (.int (i3 0)), none, none] SI SJ Q) ∧ (¬ (SI 81 8) ≤ x7 → DoI E 223 [(.ref 81)] (gj_u2 SI 93 0 x7) SJ (fun r1 SI2 SJ2 => (r1 = 0 → GoI E mt_227 63 [some (.ref 81), none, none, none, none, none, none, some (.int (x7 + (i3 1))), none, none] SI2 SJ2 Q) ∧ (¬ r1 = 0 → DoV E 226 [(.ref 81), (.int (i3 1))] SI2 SJ2 (fun SI4 SJ4 => GoI E mt_227 63 [some (.ref 81), none, none, none, none, none, none, some (.int (x7 + (i3 1))), none, none] SI4 SJ4 Q))))) : GoI E mt_227 63 [some (.ref 81), none, none, none, none, none, none, some (.int x7), none, none] SI SJ Q := by
  refine gj_goq gj_clT ok_227 [63, 84, 92, 101, 116, 145, 153, 168, 183, 198, 235, 243] ?_
  show ((SI 81 8) ≤ x7 → gj_Goes E om0 mt_227 98 [some (.ref 81), none, none, none, none, none, none, some (.int x7), none, none] [] SI SJ (QI Q)) ∧ (¬ (SI 81 8) ≤ x7 → vp_in (i3 0) 3 ∧ (gj_Do E om0 (gj_mt 223) [(.ref 81)] (gj_u2 SI 93 0 x7) SJ _))
  refine ⟨fun c1 => ?_, fun c1 => ?_⟩
  · refine gj_goq gj_clT ok_227 [63, 84, 92, 101, 116, 145, 153, 168, 183, 198, 235, 243] ?_
    show gj_Goes E om0 mt_227 101 [some (.ref 81), none, none, none, none, none, none, some (.int (i3 0)), none, none] [] SI SJ (QI Q)
    exact (h.1 c1)
  · refine ⟨(gj_vin (by decide)), ?_⟩
    refine gj_Do.mono (h.2 c1) (fun v_ SI2 SJ2 h_ => ?_)
    obtain ⟨r1, rfl, q2⟩ := h_
    show gj_Goes E om0 mt_227 84 [some (.ref 81), none, none, none, none, none, none, some (.int x7), none, none] [(.int r1)] SI2 SJ2 (QI Q)
    refine gj_goq gj_clT ok_227 [63, 84, 92, 101, 116, 145, 153, 168, 183, 198, 235, 243] ?_
    show (r1 = 0 → gj_Goes E om0 mt_227 92 [some (.ref 81), none, none, none, none, none, none, some (.int x7), none, none] [] SI2 SJ2 (QI Q)) ∧ (¬ r1 = 0 → gj_Do E om0 (gj_mt 226) [(.ref 81), (.int (i3 1))] SI2 SJ2 _)
    refine ⟨fun c3 => ?_, fun c3 => ?_⟩
    · refine gj_goq gj_clT ok_227 [63, 84, 92, 101, 116, 145, 153, 168, 183, 198, 235, 243] ?_
      show gj_Goes E om0 mt_227 63 [some (.ref 81), none, none, none, none, none, none, some (.int (x7 + (i3 1))), none, none] [] SI2 SJ2 (QI Q)
      exact (q2.1 c3)
    · refine gj_Do.mono (q2.2 c3) (fun v_ SI4 SJ4 h_ => ?_)
      obtain ⟨rfl, q4⟩ := h_
      show gj_Goes E om0 mt_227 92 [some (.ref 81), none, none, none, none, none, none, some (.int x7), none, none] [] SI4 SJ4 (QI Q)
      refine gj_goq gj_clT ok_227 [63, 84, 92, 101, 116, 145, 153, 168, 183, 198, 235, 243] ?_
      show gj_Goes E om0 mt_227 63 [some (.ref 81), none, none, none, none, none, none, some (.int (x7 + (i3 1))), none, none] [] SI4 SJ4 (QI Q)
      exact q4
set_option maxRecDepth 20000 in
theorem lp_227_101 {E : gj_E} {Q : Int32 → gj_I → gj_J → Prop} (x7 : Int32) (SI : gj_I) (SJ : gj_J) (h : ((SI 81 8) ≤ x7 → GoI E mt_227 168 [some (.ref 81), none, none, none, none, none, none, some (.int (i3 0)), none, none] SI SJ Q) ∧ (¬ (SI 81 8) ≤ x7 → GoI E mt_227 116 [some (.ref 81), none, none, none, none, none, none, some (.int x7), some (.int (x7 + (i3 1))), none] SI SJ Q)) : GoI E mt_227 101 [some (.ref 81), none, none, none, none, none, none, some (.int x7), none, none] SI SJ Q := by
  refine gj_goq gj_clT ok_227 [63, 84, 92, 101, 116, 145, 153, 168, 183, 198, 235, 243] ?_
  show ((SI 81 8) ≤ x7 → gj_Goes E om0 mt_227 165 [some (.ref 81), none, none, none, none, none, none, some (.int x7), none, none] [] SI SJ (QI Q)) ∧ (¬ (SI 81 8) ≤ x7 → gj_Goes E om0 mt_227 116 [some (.ref 81), none, none, none, none, none, none, some (.int x7), some (.int (x7 + (i3 1))), none] [] SI SJ (QI Q))
  refine ⟨fun c1 => ?_, fun c1 => ?_⟩
  · refine gj_goq gj_clT ok_227 [63, 84, 92, 101, 116, 145, 153, 168, 183, 198, 235, 243] ?_
    show gj_Goes E om0 mt_227 168 [some (.ref 81), none, none, none, none, none, none, some (.int (i3 0)), none, none] [] SI SJ (QI Q)
    exact (h.1 c1)
  · exact (h.2 c1)
set_option maxRecDepth 20000 in
theorem lp_227_116 {E : gj_E} {Q : Int32 → gj_I → gj_J → Prop} (x7 : Int32) (x8 : Int32) (SI : gj_I) (SJ : gj_J) (h : ((SI 81 8) ≤ x8 → GoI E mt_227 101 [some (.ref 81), none, none, none, none, none, none, some (.int (x7 + (i3 1))), none, none] SI SJ Q) ∧ (¬ (SI 81 8) ≤ x8 → DoI E 224 [(.ref 81)] (gj_u2 (gj_u2 SI 93 0 x7) 93 1 x8) SJ (fun r1 SI2 SJ2 => (r1 = 0 → GoI E mt_227 116 [some (.ref 81), none, none, none, none, none, none, some (.int x7), some (.int (x8 + (i3 1))), none] SI2 SJ2 Q) ∧ (¬ r1 = 0 → DoV E 226 [(.ref 81), (.int (i3 2))] SI2 SJ2 (fun SI4 SJ4 => GoI E mt_227 116 [some (.ref 81), none, none, none, none, none, none, some (.int x7), some (.int (x8 + (i3 1))), none] SI4 SJ4 Q))))) : GoI E mt_227 116 [some (.ref 81), none, none, none, none, none, none, some (.int x7), some (.int x8), none] SI SJ Q := by
  refine gj_goq gj_clT ok_227 [63, 84, 92, 101, 116, 145, 153, 168, 183, 198, 235, 243] ?_
  show ((SI 81 8) ≤ x8 → gj_Goes E om0 mt_227 159 [some (.ref 81), none, none, none, none, none, none, some (.int x7), some (.int x8), none] [] SI SJ (QI Q)) ∧ (¬ (SI 81 8) ≤ x8 → vp_in (i3 0) 3 ∧ (vp_in (i3 1) 3 ∧ (gj_Do E om0 (gj_mt 224) [(.ref 81)] (gj_u2 (gj_u2 SI 93 0 x7) 93 1 x8) SJ _)))
  refine ⟨fun c1 => ?_, fun c1 => ?_⟩
  · refine gj_goq gj_clT ok_227 [63, 84, 92, 101, 116, 145, 153, 168, 183, 198, 235, 243] ?_
    show gj_Goes E om0 mt_227 101 [some (.ref 81), none, none, none, none, none, none, some (.int (x7 + (i3 1))), some (.int x8), none] [] SI SJ (QI Q)
    exact gj_fh (h.1 c1) (And.intro (Or.inr rfl) (And.intro (Or.inl rfl) (And.intro (Or.inl rfl) (And.intro (Or.inl rfl) (And.intro (Or.inl rfl) (And.intro (Or.inl rfl) (And.intro (Or.inl rfl) (And.intro (Or.inr rfl) (And.intro (Or.inl rfl) (And.intro (Or.inl rfl) trivial))))))))))
  · refine ⟨(gj_vin (by decide)), ?_⟩
    refine ⟨(gj_vin (by decide)), ?_⟩
    refine gj_Do.mono (h.2 c1) (fun v_ SI2 SJ2 h_ => ?_)
    obtain ⟨r1, rfl, q2⟩ := h_
    show gj_Goes E om0 mt_227 145 [some (.ref 81), none, none, none, none, none, none, some (.int x7), some (.int x8), none] [(.int r1)] SI2 SJ2 (QI Q)
    refine gj_goq gj_clT ok_227 [63, 84, 92, 101, 116, 145, 153, 168, 183, 198, 235, 243] ?_
    show (r1 = 0 → gj_Goes E om0 mt_227 153 [some (.ref 81), none, none, none, none, none, none, some (.int x7), some (.int x8), none] [] SI2 SJ2 (QI Q)) ∧ (¬ r1 = 0 → gj_Do E om0 (gj_mt 226) [(.ref 81), (.int (i3 2))] SI2 SJ2 _)
    refine ⟨fun c3 => ?_, fun c3 => ?_⟩
    · refine gj_goq gj_clT ok_227 [63, 84, 92, 101, 116, 145, 153, 168, 183, 198, 235, 243] ?_
      show gj_Goes E om0 mt_227 116 [some (.ref 81), none, none, none, none, none, none, some (.int x7), some (.int (x8 + (i3 1))), none] [] SI2 SJ2 (QI Q)
      exact (q2.1 c3)
    · refine gj_Do.mono (q2.2 c3) (fun v_ SI4 SJ4 h_ => ?_)
      obtain ⟨rfl, q4⟩ := h_
      show gj_Goes E om0 mt_227 153 [some (.ref 81), none, none, none, none, none, none, some (.int x7), some (.int x8), none] [] SI4 SJ4 (QI Q)
      refine gj_goq gj_clT ok_227 [63, 84, 92, 101, 116, 145, 153, 168, 183, 198, 235, 243] ?_
      show gj_Goes E om0 mt_227 116 [some (.ref 81), none, none, none, none, none, none, some (.int x7), some (.int (x8 + (i3 1))), none] [] SI4 SJ4 (QI Q)
      exact q4
set_option maxRecDepth 20000 in
theorem lp_227_168 {E : gj_E} {Q : Int32 → gj_I → gj_J → Prop} (x7 : Int32) (SI : gj_I) (SJ : gj_J) (h : ((SI 81 8) ≤ x7 → ((SI 81 29) < 0 → Q (i3 0) SI SJ) ∧ (¬ (SI 81 29) < 0 → Q (i3 1) SI SJ)) ∧ (¬ (SI 81 8) ≤ x7 → GoI E mt_227 183 [some (.ref 81), none, none, none, none, none, none, some (.int x7), some (.int (x7 + (i3 1))), none] SI SJ Q)) : GoI E mt_227 168 [some (.ref 81), none, none, none, none, none, none, some (.int x7), none, none] SI SJ Q := by
  refine gj_goq gj_clT ok_227 [63, 84, 92, 101, 116, 145, 153, 168, 183, 198, 235, 243] ?_
  show ((SI 81 8) ≤ x7 → gj_Goes E om0 mt_227 261 [some (.ref 81), none, none, none, none, none, none, some (.int x7), none, none] [] SI SJ (QI Q)) ∧ (¬ (SI 81 8) ≤ x7 → gj_Goes E om0 mt_227 183 [some (.ref 81), none, none, none, none, none, none, some (.int x7), some (.int (x7 + (i3 1))), none] [] SI SJ (QI Q))
  refine ⟨fun c1 => ?_, fun c1 => ?_⟩
  · refine gj_goq gj_clT ok_227 [63, 84, 92, 101, 116, 145, 153, 168, 183, 198, 235, 243] ?_
    show ((SI 81 29) < 0 → gj_Goes E om0 mt_227 272 [some (.ref 81), none, none, none, none, none, none, some (.int x7), none, none] [] SI SJ (QI Q)) ∧ (¬ (SI 81 29) < 0 → gj_Goes E om0 mt_227 273 [some (.ref 81), none, none, none, none, none, none, some (.int x7), none, none] [(.int (i3 1))] SI SJ (QI Q))
    refine ⟨fun c2 => ?_, fun c2 => ?_⟩
    · refine gj_goq gj_clT ok_227 [63, 84, 92, 101, 116, 145, 153, 168, 183, 198, 235, 243] ?_
      show ((i3 0) = 0 ∨ (i3 0) = 1) ∧ (QI Q (some (.int (i3 0))) SI SJ)
      refine ⟨(Or.inl rfl), ?_⟩
      exact ⟨_, rfl, ((h.1 c1).1 c2)⟩
    · refine gj_goq gj_clT ok_227 [63, 84, 92, 101, 116, 145, 153, 168, 183, 198, 235, 243] ?_
      show ((i3 1) = 0 ∨ (i3 1) = 1) ∧ (QI Q (some (.int (i3 1))) SI SJ)
      refine ⟨(Or.inr rfl), ?_⟩
      exact ⟨_, rfl, ((h.1 c1).2 c2)⟩
  · exact (h.2 c1)
set_option maxRecDepth 20000 in
theorem lp_227_183 {E : gj_E} {Q : Int32 → gj_I → gj_J → Prop} (x7 : Int32) (x8 : Int32) (SI : gj_I) (SJ : gj_J) (h : ((SI 81 8) ≤ x8 → GoI E mt_227 168 [some (.ref 81), none, none, none, none, none, none, some (.int (x7 + (i3 1))), none, none] SI SJ Q) ∧ (¬ (SI 81 8) ≤ x8 → GoI E mt_227 198 [some (.ref 81), none, none, none, none, none, none, some (.int x7), some (.int x8), some (.int (x8 + (i3 1)))] SI SJ Q)) : GoI E mt_227 183 [some (.ref 81), none, none, none, none, none, none, some (.int x7), some (.int x8), none] SI SJ Q := by
  refine gj_goq gj_clT ok_227 [63, 84, 92, 101, 116, 145, 153, 168, 183, 198, 235, 243] ?_
  show ((SI 81 8) ≤ x8 → gj_Goes E om0 mt_227 255 [some (.ref 81), none, none, none, none, none, none, some (.int x7), some (.int x8), none] [] SI SJ (QI Q)) ∧ (¬ (SI 81 8) ≤ x8 → gj_Goes E om0 mt_227 198 [some (.ref 81), none, none, none, none, none, none, some (.int x7), some (.int x8), some (.int (x8 + (i3 1)))] [] SI SJ (QI Q))
  refine ⟨fun c1 => ?_, fun c1 => ?_⟩
  · refine gj_goq gj_clT ok_227 [63, 84, 92, 101, 116, 145, 153, 168, 183, 198, 235, 243] ?_
    show gj_Goes E om0 mt_227 168 [some (.ref 81), none, none, none, none, none, none, some (.int (x7 + (i3 1))), some (.int x8), none] [] SI SJ (QI Q)
    exact gj_fh (h.1 c1) (And.intro (Or.inr rfl) (And.intro (Or.inl rfl) (And.intro (Or.inl rfl) (And.intro (Or.inl rfl) (And.intro (Or.inl rfl) (And.intro (Or.inl rfl) (And.intro (Or.inl rfl) (And.intro (Or.inr rfl) (And.intro (Or.inl rfl) (And.intro (Or.inl rfl) trivial))))))))))
  · exact (h.2 c1)
set_option maxRecDepth 20000 in
theorem lp_227_198 {E : gj_E} {Q : Int32 → gj_I → gj_J → Prop} (x7 : Int32) (x8 : Int32) (x9 : Int32) (SI : gj_I) (SJ : gj_J) (h : ((SI 81 8) ≤ x9 → GoI E mt_227 183 [some (.ref 81), none, none, none, none, none, none, some (.int x7), some (.int (x8 + (i3 1))), none] SI SJ Q) ∧ (¬ (SI 81 8) ≤ x9 → DoI E 225 [(.ref 81)] (gj_u2 (gj_u2 (gj_u2 SI 93 0 x7) 93 1 x8) 93 2 x9) SJ (fun r1 SI2 SJ2 => (r1 = 0 → GoI E mt_227 198 [some (.ref 81), none, none, none, none, none, none, some (.int x7), some (.int x8), some (.int (x9 + (i3 1)))] SI2 SJ2 Q) ∧ (¬ r1 = 0 → DoV E 226 [(.ref 81), (.int (i3 3))] SI2 SJ2 (fun SI4 SJ4 => GoI E mt_227 198 [some (.ref 81), none, none, none, none, none, none, some (.int x7), some (.int x8), some (.int (x9 + (i3 1)))] SI4 SJ4 Q))))) : GoI E mt_227 198 [some (.ref 81), none, none, none, none, none, none, some (.int x7), some (.int x8), some (.int x9)] SI SJ Q := by
  refine gj_goq gj_clT ok_227 [63, 84, 92, 101, 116, 145, 153, 168, 183, 198, 235, 243] ?_
  show ((SI 81 8) ≤ x9 → gj_Goes E om0 mt_227 249 [some (.ref 81), none, none, none, none, none, none, some (.int x7), some (.int x8), some (.int x9)] [] SI SJ (QI Q)) ∧ (¬ (SI 81 8) ≤ x9 → vp_in (i3 0) 3 ∧ (vp_in (i3 1) 3 ∧ (vp_in (i3 2) 3 ∧ (gj_Do E om0 (gj_mt 225) [(.ref 81)] (gj_u2 (gj_u2 (gj_u2 SI 93 0 x7) 93 1 x8) 93 2 x9) SJ _))))
  refine ⟨fun c1 => ?_, fun c1 => ?_⟩
  · refine gj_goq gj_clT ok_227 [63, 84, 92, 101, 116, 145, 153, 168, 183, 198, 235, 243] ?_
    show gj_Goes E om0 mt_227 183 [some (.ref 81), none, none, none, none, none, none, some (.int x7), some (.int (x8 + (i3 1))), some (.int x9)] [] SI SJ (QI Q)
    exact gj_fh (h.1 c1) (And.intro (Or.inr rfl) (And.intro (Or.inl rfl) (And.intro (Or.inl rfl) (And.intro (Or.inl rfl) (And.intro (Or.inl rfl) (And.intro (Or.inl rfl) (And.intro (Or.inl rfl) (And.intro (Or.inr rfl) (And.intro (Or.inr rfl) (And.intro (Or.inl rfl) trivial))))))))))
  · refine ⟨(gj_vin (by decide)), ?_⟩
    refine ⟨(gj_vin (by decide)), ?_⟩
    refine ⟨(gj_vin (by decide)), ?_⟩
    refine gj_Do.mono (h.2 c1) (fun v_ SI2 SJ2 h_ => ?_)
    obtain ⟨r1, rfl, q2⟩ := h_
    show gj_Goes E om0 mt_227 235 [some (.ref 81), none, none, none, none, none, none, some (.int x7), some (.int x8), some (.int x9)] [(.int r1)] SI2 SJ2 (QI Q)
    refine gj_goq gj_clT ok_227 [63, 84, 92, 101, 116, 145, 153, 168, 183, 198, 235, 243] ?_
    show (r1 = 0 → gj_Goes E om0 mt_227 243 [some (.ref 81), none, none, none, none, none, none, some (.int x7), some (.int x8), some (.int x9)] [] SI2 SJ2 (QI Q)) ∧ (¬ r1 = 0 → gj_Do E om0 (gj_mt 226) [(.ref 81), (.int (i3 3))] SI2 SJ2 _)
    refine ⟨fun c3 => ?_, fun c3 => ?_⟩
    · refine gj_goq gj_clT ok_227 [63, 84, 92, 101, 116, 145, 153, 168, 183, 198, 235, 243] ?_
      show gj_Goes E om0 mt_227 198 [some (.ref 81), none, none, none, none, none, none, some (.int x7), some (.int x8), some (.int (x9 + (i3 1)))] [] SI2 SJ2 (QI Q)
      exact (q2.1 c3)
    · refine gj_Do.mono (q2.2 c3) (fun v_ SI4 SJ4 h_ => ?_)
      obtain ⟨rfl, q4⟩ := h_
      show gj_Goes E om0 mt_227 243 [some (.ref 81), none, none, none, none, none, none, some (.int x7), some (.int x8), some (.int x9)] [] SI4 SJ4 (QI Q)
      refine gj_goq gj_clT ok_227 [63, 84, 92, 101, 116, 145, 153, 168, 183, 198, 235, 243] ?_
      show gj_Goes E om0 mt_227 198 [some (.ref 81), none, none, none, none, none, none, some (.int x7), some (.int x8), some (.int (x9 + (i3 1)))] [] SI4 SJ4 (QI Q)
      exact q4
set_option maxRecDepth 20000 in
/-- GraspJudgeModel.isPush -/
theorem st_228 {E : gj_E} {Q : Int32 → gj_I → gj_J → Prop} (a1 : Int32) (a2 : Int32) (a3 : Int32) (SI : gj_I) (SJ : gj_J) (h : DoI E 155 [(.long (a1).toInt64), (.long (i6 (-1000))), (.long (i6 1000))] SI SJ (fun r1 SI2 SJ2 => (r1 = 0 → Q (i3 0) SI2 SJ2) ∧ (¬ r1 = 0 → DoI E 155 [(.long (a2).toInt64), (.long (i6 (-1000))), (.long (i6 1000))] SI2 SJ2 (fun r3 SI4 SJ4 => (r3 = 0 → Q (i3 0) SI4 SJ4) ∧ (¬ r3 = 0 → DoI E 155 [(.long (a3).toInt64), (.long (i6 (-1000))), (.long (i6 1000))] SI4 SJ4 (fun r5 SI6 SJ6 => (r5 = 0 → Q (i3 0) SI6 SJ6) ∧ (¬ r5 = 0 → Q (i3 1) SI6 SJ6))))))) : DoI E 228 [(.int a1), (.int a2), (.int a3)] SI SJ Q := by
  refine gj_start (M := mt_228) ok_228 (Nat.le_of_ble_eq_true rfl) ?_
  refine gj_goq gj_clT ok_228 [11, 25, 39] ?_
  show gj_Do E om0 (gj_mt 155) [(.long (a1).toInt64), (.long (i6 (-1000))), (.long (i6 1000))] SI SJ _
  refine gj_Do.mono h (fun v_ SI2 SJ2 h_ => ?_)
  obtain ⟨r1, rfl, q1⟩ := h_
  show gj_Goes E om0 mt_228 11 [some (.int a1), some (.int a2), some (.int a3)] [(.int r1)] SI2 SJ2 (QI Q)
  refine gj_goq gj_clT ok_228 [11, 25, 39] ?_
  show (r1 = 0 → gj_Goes E om0 mt_228 46 [some (.int a1), some (.int a2), some (.int a3)] [] SI2 SJ2 (QI Q)) ∧ (¬ r1 = 0 → gj_Do E om0 (gj_mt 155) [(.long (a2).toInt64), (.long (i6 (-1000))), (.long (i6 1000))] SI2 SJ2 _)
  refine ⟨fun c2 => ?_, fun c2 => ?_⟩
  · refine gj_goq gj_clT ok_228 [11, 25, 39] ?_
    show ((i3 0) = 0 ∨ (i3 0) = 1) ∧ (QI Q (some (.int (i3 0))) SI2 SJ2)
    refine ⟨(Or.inl rfl), ?_⟩
    exact ⟨_, rfl, (q1.1 c2)⟩
  · refine gj_Do.mono (q1.2 c2) (fun v_ SI4 SJ4 h_ => ?_)
    obtain ⟨r3, rfl, q3⟩ := h_
    show gj_Goes E om0 mt_228 25 [some (.int a1), some (.int a2), some (.int a3)] [(.int r3)] SI4 SJ4 (QI Q)
    refine gj_goq gj_clT ok_228 [11, 25, 39] ?_
    show (r3 = 0 → gj_Goes E om0 mt_228 46 [some (.int a1), some (.int a2), some (.int a3)] [] SI4 SJ4 (QI Q)) ∧ (¬ r3 = 0 → gj_Do E om0 (gj_mt 155) [(.long (a3).toInt64), (.long (i6 (-1000))), (.long (i6 1000))] SI4 SJ4 _)
    refine ⟨fun c4 => ?_, fun c4 => ?_⟩
    · refine gj_goq gj_clT ok_228 [11, 25, 39] ?_
      show ((i3 0) = 0 ∨ (i3 0) = 1) ∧ (QI Q (some (.int (i3 0))) SI4 SJ4)
      refine ⟨(Or.inl rfl), ?_⟩
      exact ⟨_, rfl, (q3.1 c4)⟩
    · refine gj_Do.mono (q3.2 c4) (fun v_ SI6 SJ6 h_ => ?_)
      obtain ⟨r5, rfl, q5⟩ := h_
      show gj_Goes E om0 mt_228 39 [some (.int a1), some (.int a2), some (.int a3)] [(.int r5)] SI6 SJ6 (QI Q)
      refine gj_goq gj_clT ok_228 [11, 25, 39] ?_
      show (r5 = 0 → gj_Goes E om0 mt_228 46 [some (.int a1), some (.int a2), some (.int a3)] [] SI6 SJ6 (QI Q)) ∧ (¬ r5 = 0 → gj_Goes E om0 mt_228 47 [some (.int a1), some (.int a2), some (.int a3)] [(.int (i3 1))] SI6 SJ6 (QI Q))
      refine ⟨fun c6 => ?_, fun c6 => ?_⟩
      · refine gj_goq gj_clT ok_228 [11, 25, 39] ?_
        show ((i3 0) = 0 ∨ (i3 0) = 1) ∧ (QI Q (some (.int (i3 0))) SI6 SJ6)
        refine ⟨(Or.inl rfl), ?_⟩
        exact ⟨_, rfl, (q5.1 c6)⟩
      · refine gj_goq gj_clT ok_228 [11, 25, 39] ?_
        show ((i3 1) = 0 ∨ (i3 1) = 1) ∧ (QI Q (some (.int (i3 1))) SI6 SJ6)
        refine ⟨(Or.inr rfl), ?_⟩
        exact ⟨_, rfl, (q5.2 c6)⟩
set_option maxRecDepth 20000 in
/-- GraspJudgeModel.held -/
theorem st_229 {E : gj_E} {Q : Int32 → gj_I → gj_J → Prop} (a1 : Int32) (a2 : Int32) (a3 : Int32) (SI : gj_I) (SJ : gj_J) (h : DoI E 228 [(.int a1), (.int a2), (.int a3)] SI SJ (fun r1 SI2 SJ2 => (¬ r1 = 0 → DoV E 184 [(.ref 81)] SI2 SJ2 (fun SI4 SJ4 => DoI E 227 [(.ref 81), (.long (a1).toInt64), (.long (a2).toInt64), (.long (a3).toInt64)] SI4 SJ4 (fun r5 SI6 SJ6 => (r5 = 0 → Q (i3 0) SI6 SJ6) ∧ (¬ r5 = 0 → Q (i3 1) SI6 SJ6)))) ∧ (r1 = 0 → Q (i3 (-1)) SI2 SJ2))) : DoI E 229 [(.ref 81), (.int a1), (.int a2), (.int a3)] SI SJ Q := by
  refine gj_start (M := mt_229) ok_229 (Nat.le_of_ble_eq_true rfl) ?_
  refine gj_goq gj_clT ok_229 [6, 15, 25] ?_
  show gj_Do E om0 (gj_mt 228) [(.int a1), (.int a2), (.int a3)] SI SJ _
  refine gj_Do.mono h (fun v_ SI2 SJ2 h_ => ?_)
  obtain ⟨r1, rfl, q1⟩ := h_
  show gj_Goes E om0 mt_229 6 [some (.ref 81), some (.int a1), some (.int a2), some (.int a3)] [(.int r1)] SI2 SJ2 (QI Q)
  refine gj_goq gj_clT ok_229 [6, 15, 25] ?_
  show (¬ r1 = 0 → gj_Goes E om0 mt_229 11 [some (.ref 81), some (.int a1), some (.int a2), some (.int a3)] [] SI2 SJ2 (QI Q)) ∧ (r1 = 0 → QI Q (some (.int (i3 (-1)))) SI2 SJ2)
  refine ⟨fun c2 => ?_, fun c2 => ?_⟩
  · refine gj_goq gj_clT ok_229 [6, 15, 25] ?_
    show gj_Do E om0 (gj_mt 184) [(.ref 81)] SI2 SJ2 _
    refine gj_Do.mono (q1.1 c2) (fun v_ SI4 SJ4 h_ => ?_)
    obtain ⟨rfl, q3⟩ := h_
    show gj_Goes E om0 mt_229 15 [some (.ref 81), some (.int a1), some (.int a2), some (.int a3)] [] SI4 SJ4 (QI Q)
    refine gj_goq gj_clT ok_229 [6, 15, 25] ?_
    show gj_Do E om0 (gj_mt 227) [(.ref 81), (.long (a1).toInt64), (.long (a2).toInt64), (.long (a3).toInt64)] SI4 SJ4 _
    refine gj_Do.mono q3 (fun v_ SI6 SJ6 h_ => ?_)
    obtain ⟨r5, rfl, q4⟩ := h_
    show gj_Goes E om0 mt_229 25 [some (.ref 81), some (.int a1), some (.int a2), some (.int a3)] [(.int r5)] SI6 SJ6 (QI Q)
    refine gj_goq gj_clT ok_229 [6, 15, 25] ?_
    show (r5 = 0 → gj_Goes E om0 mt_229 32 [some (.ref 81), some (.int a1), some (.int a2), some (.int a3)] [] SI6 SJ6 (QI Q)) ∧ (¬ r5 = 0 → gj_Goes E om0 mt_229 33 [some (.ref 81), some (.int a1), some (.int a2), some (.int a3)] [(.int (i3 1))] SI6 SJ6 (QI Q))
    refine ⟨fun c5 => ?_, fun c5 => ?_⟩
    · refine gj_goq gj_clT ok_229 [6, 15, 25] ?_
      show QI Q (some (.int (i3 0))) SI6 SJ6
      exact ⟨_, rfl, (q4.1 c5)⟩
    · refine gj_goq gj_clT ok_229 [6, 15, 25] ?_
      show QI Q (some (.int (i3 1))) SI6 SJ6
      exact ⟨_, rfl, (q4.2 c5)⟩
  · exact ⟨_, rfl, (q1.2 c2)⟩
set_option maxRecDepth 20000 in
/-- GraspJudgeModel.effort -/
theorem st_230 {E : gj_E} {Q : Int64 → gj_I → gj_J → Prop} (a1 : Int32) (a2 : Int32) (a3 : Int32) (a4 : Int32) (SI : gj_I) (SJ : gj_J) (h : DoI E 228 [(.int a1), (.int a2), (.int a3)] SI SJ (fun r1 SI2 SJ2 => (r1 = 0 → Q (i6 (-9000000000000000000)) SI2 SJ2) ∧ (¬ r1 = 0 → DoI E 155 [(.long (a4).toInt64), (.long (i6 0)), (.long (i6 1))] SI2 SJ2 (fun r3 SI4 SJ4 => (¬ r3 = 0 → DoV E 184 [(.ref 81)] SI4 SJ4 (fun SI6 SJ6 => DoI E 227 [(.ref 81), (.long (a1).toInt64), (.long (a2).toInt64), (.long (a3).toInt64)] SI6 SJ6 (fun r7 SI8 SJ8 => (¬ r7 = 0 → (¬ a4 = 0 → Q (SJ8 81 31) SI8 SJ8) ∧ (a4 = 0 → Q (SJ8 81 30) SI8 SJ8)) ∧ (r7 = 0 → Q (i6 (-9000000000000000000)) SI8 SJ8)))) ∧ (r3 = 0 → Q (i6 (-9000000000000000000)) SI4 SJ4))))) : DoL E 230 [(.ref 81), (.int a1), (.int a2), (.int a3), (.int a4)] SI SJ Q := by
  refine gj_start (M := mt_230) ok_230 (Nat.le_of_ble_eq_true rfl) ?_
  refine gj_goq gj_clT ok_230 [6, 17, 28, 38] ?_
  show gj_Do E om0 (gj_mt 228) [(.int a1), (.int a2), (.int a3)] SI SJ _
  refine gj_Do.mono h (fun v_ SI2 SJ2 h_ => ?_)
  obtain ⟨r1, rfl, q1⟩ := h_
  show gj_Goes E om0 mt_230 6 [some (.ref 81), some (.int a1), some (.int a2), some (.int a3), some (.int a4)] [(.int r1)] SI2 SJ2 (QL Q)
  refine gj_goq gj_clT ok_230 [6, 17, 28, 38] ?_
  show (r1 = 0 → gj_Goes E om0 mt_230 20 [some (.ref 81), some (.int a1), some (.int a2), some (.int a3), some (.int a4)] [] SI2 SJ2 (QL Q)) ∧ (¬ r1 = 0 → gj_Do E om0 (gj_mt 155) [(.long (a4).toInt64), (.long (i6 0)), (.long (i6 1))] SI2 SJ2 _)
  refine ⟨fun c2 => ?_, fun c2 => ?_⟩
  · refine gj_goq gj_clT ok_230 [6, 17, 28, 38] ?_
    show QL Q (some (.long (i6 (-9000000000000000000)))) SI2 SJ2
    exact ⟨_, rfl, (q1.1 c2)⟩
  · refine gj_Do.mono (q1.2 c2) (fun v_ SI4 SJ4 h_ => ?_)
    obtain ⟨r3, rfl, q3⟩ := h_
    show gj_Goes E om0 mt_230 17 [some (.ref 81), some (.int a1), some (.int a2), some (.int a3), some (.int a4)] [(.int r3)] SI4 SJ4 (QL Q)
    refine gj_goq gj_clT ok_230 [6, 17, 28, 38] ?_
    show (¬ r3 = 0 → gj_Goes E om0 mt_230 24 [some (.ref 81), some (.int a1), some (.int a2), some (.int a3), some (.int a4)] [] SI4 SJ4 (QL Q)) ∧ (r3 = 0 → QL Q (some (.long (i6 (-9000000000000000000)))) SI4 SJ4)
    refine ⟨fun c4 => ?_, fun c4 => ?_⟩
    · refine gj_goq gj_clT ok_230 [6, 17, 28, 38] ?_
      show gj_Do E om0 (gj_mt 184) [(.ref 81)] SI4 SJ4 _
      refine gj_Do.mono (q3.1 c4) (fun v_ SI6 SJ6 h_ => ?_)
      obtain ⟨rfl, q5⟩ := h_
      show gj_Goes E om0 mt_230 28 [some (.ref 81), some (.int a1), some (.int a2), some (.int a3), some (.int a4)] [] SI6 SJ6 (QL Q)
      refine gj_goq gj_clT ok_230 [6, 17, 28, 38] ?_
      show gj_Do E om0 (gj_mt 227) [(.ref 81), (.long (a1).toInt64), (.long (a2).toInt64), (.long (a3).toInt64)] SI6 SJ6 _
      refine gj_Do.mono q5 (fun v_ SI8 SJ8 h_ => ?_)
      obtain ⟨r7, rfl, q6⟩ := h_
      show gj_Goes E om0 mt_230 38 [some (.ref 81), some (.int a1), some (.int a2), some (.int a3), some (.int a4)] [(.int r7)] SI8 SJ8 (QL Q)
      refine gj_goq gj_clT ok_230 [6, 17, 28, 38] ?_
      show (¬ r7 = 0 → gj_Goes E om0 mt_230 47 [some (.ref 81), some (.int a1), some (.int a2), some (.int a3), some (.int a4)] [] SI8 SJ8 (QL Q)) ∧ (r7 = 0 → gj_Goes E om0 mt_230 63 [some (.ref 81), some (.int a1), some (.int a2), some (.int a3), some (.int a4)] [(.long (i6 (-9000000000000000000)))] SI8 SJ8 (QL Q))
      refine ⟨fun c7 => ?_, fun c7 => ?_⟩
      · refine gj_goq gj_clT ok_230 [6, 17, 28, 38] ?_
        show (¬ a4 = 0 → gj_Goes E om0 mt_230 59 [some (.ref 81), some (.int a1), some (.int a2), some (.int a3), some (.int a4)] [] SI8 SJ8 (QL Q)) ∧ (a4 = 0 → gj_Goes E om0 mt_230 63 [some (.ref 81), some (.int a1), some (.int a2), some (.int a3), some (.int a4)] [(.long (SJ8 81 30))] SI8 SJ8 (QL Q))
        refine ⟨fun c8 => ?_, fun c8 => ?_⟩
        · refine gj_goq gj_clT ok_230 [6, 17, 28, 38] ?_
          show QL Q (some (.long (SJ8 81 31))) SI8 SJ8
          exact ⟨_, rfl, ((q6.1 c7).1 c8)⟩
        · refine gj_goq gj_clT ok_230 [6, 17, 28, 38] ?_
          show QL Q (some (.long (SJ8 81 30))) SI8 SJ8
          exact ⟨_, rfl, ((q6.1 c7).2 c8)⟩
      · refine gj_goq gj_clT ok_230 [6, 17, 28, 38] ?_
        show QL Q (some (.long (i6 (-9000000000000000000)))) SI8 SJ8
        exact ⟨_, rfl, (q6.2 c7)⟩
    · exact ⟨_, rfl, (q3.2 c4)⟩
set_option maxRecDepth 20000 in
/-- GraspJudgeModel.holder -/
theorem st_231 {E : gj_E} {Q : Int64 → gj_I → gj_J → Prop} (a1 : Int32) (a2 : Int32) (a3 : Int32) (a4 : Int32) (a5 : Int32) (SI : gj_I) (SJ : gj_J) (h : DoI E 228 [(.int a1), (.int a2), (.int a3)] SI SJ (fun r1 SI2 SJ2 => (r1 = 0 → Q (i6 (-9000000000000000000)) SI2 SJ2) ∧ (¬ r1 = 0 → (a4 < (i3 (-1)) → Q (i6 (-9000000000000000000)) SI2 SJ2) ∧ (¬ a4 < (i3 (-1)) → DoI E 155 [(.long (a5).toInt64), (.long (i6 0)), (.long (i6 2))] SI2 SJ2 (fun r3 SI4 SJ4 => (r3 = 0 → Q (i6 (-9000000000000000000)) SI4 SJ4) ∧ (¬ r3 = 0 → (¬ a4 = (i3 (-1)) → DoV E 184 [(.ref 81)] SI4 SJ4 (fun SI6 SJ6 => DoI E 227 [(.ref 81), (.long (a1).toInt64), (.long (a2).toInt64), (.long (a3).toInt64)] SI6 SJ6 (fun r7 SI8 SJ8 => (¬ r7 = 0 → (¬ a4 = (i3 (-1)) → (a4 < (SI8 81 29) → (¬ a5 = 0 → (¬ a5 = (i3 1) → vp_in a4 3 ∧ (Q (SJ8 96 (gj_n a4)) SI8 SJ8)) ∧ (a5 = (i3 1) → vp_in a4 3 ∧ (Q (SJ8 95 (gj_n a4)) SI8 SJ8))) ∧ (a5 = 0 → vp_in a4 3 ∧ (Q (SI8 94 (gj_n a4)).toInt64 SI8 SJ8))) ∧ (¬ a4 < (SI8 81 29) → Q (i6 (-9000000000000000000)) SI8 SJ8)) ∧ (a4 = (i3 (-1)) → Q (SI8 81 29).toInt64 SI8 SJ8)) ∧ (r7 = 0 → Q (i6 (-9000000000000000000)) SI8 SJ8)))) ∧ (a4 = (i3 (-1)) → (a5 ≤ 0 → DoV E 184 [(.ref 81)] SI4 SJ4 (fun SI10 SJ10 => DoI E 227 [(.ref 81), (.long (a1).toInt64), (.long (a2).toInt64), (.long (a3).toInt64)] SI10 SJ10 (fun r11 SI12 SJ12 => (¬ r11 = 0 → (¬ a4 = (i3 (-1)) → (a4 < (SI12 81 29) → (¬ a5 = 0 → (¬ a5 = (i3 1) → vp_in a4 3 ∧ (Q (SJ12 96 (gj_n a4)) SI12 SJ12)) ∧ (a5 = (i3 1) → vp_in a4 3 ∧ (Q (SJ12 95 (gj_n a4)) SI12 SJ12))) ∧ (a5 = 0 → vp_in a4 3 ∧ (Q (SI12 94 (gj_n a4)).toInt64 SI12 SJ12))) ∧ (¬ a4 < (SI12 81 29) → Q (i6 (-9000000000000000000)) SI12 SJ12)) ∧ (a4 = (i3 (-1)) → Q (SI12 81 29).toInt64 SI12 SJ12)) ∧ (r11 = 0 → Q (i6 (-9000000000000000000)) SI12 SJ12)))) ∧ (¬ a5 ≤ 0 → Q (i6 (-9000000000000000000)) SI4 SJ4)))))))) : DoL E 231 [(.ref 81), (.int a1), (.int a2), (.int a3), (.int a4), (.int a5)] SI SJ Q := by
  refine gj_start (M := mt_231) ok_231 (Nat.le_of_ble_eq_true rfl) ?_
  refine gj_goq gj_clT ok_231 [6, 25, 47, 57] ?_
  show gj_Do E om0 (gj_mt 228) [(.int a1), (.int a2), (.int a3)] SI SJ _
  refine gj_Do.mono h (fun v_ SI2 SJ2 h_ => ?_)
  obtain ⟨r1, rfl, q1⟩ := h_
  show gj_Goes E om0 mt_231 6 [some (.ref 81), some (.int a1), some (.int a2), some (.int a3), some (.int a4), some (.int a5)] [(.int r1)] SI2 SJ2 (QL Q)
  refine gj_goq gj_clT ok_231 [6, 25, 47, 57] ?_
  show (r1 = 0 → gj_Goes E om0 mt_231 39 [some (.ref 81), some (.int a1), some (.int a2), some (.int a3), some (.int a4), some (.int a5)] [] SI2 SJ2 (QL Q)) ∧ (¬ r1 = 0 → (a4 < (i3 (-1)) → gj_Goes E om0 mt_231 39 [some (.ref 81), some (.int a1), some (.int a2), some (.int a3), some (.int a4), some (.int a5)] [] SI2 SJ2 (QL Q)) ∧ (¬ a4 < (i3 (-1)) → gj_Do E om0 (gj_mt 155) [(.long (a5).toInt64), (.long (i6 0)), (.long (i6 2))] SI2 SJ2 _))
  refine ⟨fun c2 => ?_, fun c2 => ?_⟩
  · refine gj_goq gj_clT ok_231 [6, 25, 47, 57] ?_
    show QL Q (some (.long (i6 (-9000000000000000000)))) SI2 SJ2
    exact ⟨_, rfl, (q1.1 c2)⟩
  · refine ⟨fun c3 => ?_, fun c3 => ?_⟩
    · refine gj_goq gj_clT ok_231 [6, 25, 47, 57] ?_
      show QL Q (some (.long (i6 (-9000000000000000000)))) SI2 SJ2
      exact ⟨_, rfl, ((q1.2 c2).1 c3)⟩
    · refine gj_Do.mono ((q1.2 c2).2 c3) (fun v_ SI4 SJ4 h_ => ?_)
      obtain ⟨r3, rfl, q4⟩ := h_
      show gj_Goes E om0 mt_231 25 [some (.ref 81), some (.int a1), some (.int a2), some (.int a3), some (.int a4), some (.int a5)] [(.int r3)] SI4 SJ4 (QL Q)
      refine gj_goq gj_clT ok_231 [6, 25, 47, 57] ?_
      show (r3 = 0 → gj_Goes E om0 mt_231 39 [some (.ref 81), some (.int a1), some (.int a2), some (.int a3), some (.int a4), some (.int a5)] [] SI4 SJ4 (QL Q)) ∧ (¬ r3 = 0 → (¬ a4 = (i3 (-1)) → gj_Goes E om0 mt_231 43 [some (.ref 81), some (.int a1), some (.int a2), some (.int a3), some (.int a4), some (.int a5)] [] SI4 SJ4 (QL Q)) ∧ (a4 = (i3 (-1)) → (a5 ≤ 0 → gj_Goes E om0 mt_231 43 [some (.ref 81), some (.int a1), some (.int a2), some (.int a3), some (.int a4), some (.int a5)] [] SI4 SJ4 (QL Q)) ∧ (¬ a5 ≤ 0 → QL Q (some (.long (i6 (-9000000000000000000)))) SI4 SJ4)))
      refine ⟨fun c5 => ?_, fun c5 => ?_⟩
      · refine gj_goq gj_clT ok_231 [6, 25, 47, 57] ?_
        show QL Q (some (.long (i6 (-9000000000000000000)))) SI4 SJ4
        exact ⟨_, rfl, (q4.1 c5)⟩
      · refine ⟨fun c6 => ?_, fun c6 => ?_⟩
        · refine gj_goq gj_clT ok_231 [6, 25, 47, 57] ?_
          show gj_Do E om0 (gj_mt 184) [(.ref 81)] SI4 SJ4 _
          refine gj_Do.mono ((q4.2 c5).1 c6) (fun v_ SI6 SJ6 h_ => ?_)
          obtain ⟨rfl, q7⟩ := h_
          show gj_Goes E om0 mt_231 47 [some (.ref 81), some (.int a1), some (.int a2), some (.int a3), some (.int a4), some (.int a5)] [] SI6 SJ6 (QL Q)
          refine gj_goq gj_clT ok_231 [6, 25, 47, 57] ?_
          show gj_Do E om0 (gj_mt 227) [(.ref 81), (.long (a1).toInt64), (.long (a2).toInt64), (.long (a3).toInt64)] SI6 SJ6 _
          refine gj_Do.mono q7 (fun v_ SI8 SJ8 h_ => ?_)
          obtain ⟨r7, rfl, q8⟩ := h_
          show gj_Goes E om0 mt_231 57 [some (.ref 81), some (.int a1), some (.int a2), some (.int a3), some (.int a4), some (.int a5)] [(.int r7)] SI8 SJ8 (QL Q)
          refine gj_goq gj_clT ok_231 [6, 25, 47, 57] ?_
          show (¬ r7 = 0 → gj_Goes E om0 mt_231 64 [some (.ref 81), some (.int a1), some (.int a2), some (.int a3), some (.int a4), some (.int a5)] [] SI8 SJ8 (QL Q)) ∧ (r7 = 0 → QL Q (some (.long (i6 (-9000000000000000000)))) SI8 SJ8)
          refine ⟨fun c9 => ?_, fun c9 => ?_⟩
          · refine gj_goq gj_clT ok_231 [6, 25, 47, 57] ?_
            show (¬ a4 = (i3 (-1)) → gj_Goes E om0 mt_231 76 [some (.ref 81), some (.int a1), some (.int a2), some (.int a3), some (.int a4), some (.int a5)] [] SI8 SJ8 (QL Q)) ∧ (a4 = (i3 (-1)) → QL Q (some (.long (SI8 81 29).toInt64)) SI8 SJ8)
            refine ⟨fun c10 => ?_, fun c10 => ?_⟩
            · refine gj_goq gj_clT ok_231 [6, 25, 47, 57] ?_
              show (a4 < (SI8 81 29) → gj_Goes E om0 mt_231 89 [some (.ref 81), some (.int a1), some (.int a2), some (.int a3), some (.int a4), some (.int a5)] [] SI8 SJ8 (QL Q)) ∧ (¬ a4 < (SI8 81 29) → QL Q (some (.long (i6 (-9000000000000000000)))) SI8 SJ8)
              refine ⟨fun c11 => ?_, fun c11 => ?_⟩
              · refine gj_goq gj_clT ok_231 [6, 25, 47, 57] ?_
                show (¬ a5 = 0 → gj_Goes E om0 mt_231 105 [some (.ref 81), some (.int a1), some (.int a2), some (.int a3), some (.int a4), some (.int a5)] [] SI8 SJ8 (QL Q)) ∧ (a5 = 0 → vp_in a4 3 ∧ (gj_Goes E om0 mt_231 128 [some (.ref 81), some (.int a1), some (.int a2), some (.int a3), some (.int a4), some (.int a5)] [(.long (SI8 94 (gj_n a4)).toInt64)] SI8 SJ8 (QL Q)))
                refine ⟨fun c12 => ?_, fun c12 => ?_⟩
                · refine gj_goq gj_clT ok_231 [6, 25, 47, 57] ?_
                  show (¬ a5 = (i3 1) → gj_Goes E om0 mt_231 121 [some (.ref 81), some (.int a1), some (.int a2), some (.int a3), some (.int a4), some (.int a5)] [] SI8 SJ8 (QL Q)) ∧ (a5 = (i3 1) → vp_in a4 3 ∧ (gj_Goes E om0 mt_231 128 [some (.ref 81), some (.int a1), some (.int a2), some (.int a3), some (.int a4), some (.int a5)] [(.long (SJ8 95 (gj_n a4)))] SI8 SJ8 (QL Q)))
                  refine ⟨fun c13 => ?_, fun c13 => ?_⟩
                  · refine gj_goq gj_clT ok_231 [6, 25, 47, 57] ?_
                    show vp_in a4 3 ∧ (QL Q (some (.long (SJ8 96 (gj_n a4)))) SI8 SJ8)
                    have k14 := (((((q8.1 c9).1 c10).1 c11).1 c12).1 c13).1
                    refine ⟨k14, ?_⟩
                    exact ⟨_, rfl, (((((q8.1 c9).1 c10).1 c11).1 c12).1 c13).2⟩
                  · have k15 := (((((q8.1 c9).1 c10).1 c11).1 c12).2 c13).1
                    refine ⟨k15, ?_⟩
                    refine gj_goq gj_clT ok_231 [6, 25, 47, 57] ?_
                    show QL Q (some (.long (SJ8 95 (gj_n a4)))) SI8 SJ8
                    exact ⟨_, rfl, (((((q8.1 c9).1 c10).1 c11).1 c12).2 c13).2⟩
                · have k16 := ((((q8.1 c9).1 c10).1 c11).2 c12).1
                  refine ⟨k16, ?_⟩
                  refine gj_goq gj_clT ok_231 [6, 25, 47, 57] ?_
                  show QL Q (some (.long (SI8 94 (gj_n a4)).toInt64)) SI8 SJ8
                  exact ⟨_, rfl, ((((q8.1 c9).1 c10).1 c11).2 c12).2⟩
              · exact ⟨_, rfl, (((q8.1 c9).1 c10).2 c11)⟩
            · exact ⟨_, rfl, ((q8.1 c9).2 c10)⟩
          · exact ⟨_, rfl, (q8.2 c9)⟩
        · refine ⟨fun c17 => ?_, fun c17 => ?_⟩
          · refine gj_goq gj_clT ok_231 [6, 25, 47, 57] ?_
            show gj_Do E om0 (gj_mt 184) [(.ref 81)] SI4 SJ4 _
            refine gj_Do.mono (((q4.2 c5).2 c6).1 c17) (fun v_ SI10 SJ10 h_ => ?_)
            obtain ⟨rfl, q18⟩ := h_
            show gj_Goes E om0 mt_231 47 [some (.ref 81), some (.int a1), some (.int a2), some (.int a3), some (.int a4), some (.int a5)] [] SI10 SJ10 (QL Q)
            refine gj_goq gj_clT ok_231 [6, 25, 47, 57] ?_
            show gj_Do E om0 (gj_mt 227) [(.ref 81), (.long (a1).toInt64), (.long (a2).toInt64), (.long (a3).toInt64)] SI10 SJ10 _
            refine gj_Do.mono q18 (fun v_ SI12 SJ12 h_ => ?_)
            obtain ⟨r11, rfl, q19⟩ := h_
            show gj_Goes E om0 mt_231 57 [some (.ref 81), some (.int a1), some (.int a2), some (.int a3), some (.int a4), some (.int a5)] [(.int r11)] SI12 SJ12 (QL Q)
            refine gj_goq gj_clT ok_231 [6, 25, 47, 57] ?_
            show (¬ r11 = 0 → gj_Goes E om0 mt_231 64 [some (.ref 81), some (.int a1), some (.int a2), some (.int a3), some (.int a4), some (.int a5)] [] SI12 SJ12 (QL Q)) ∧ (r11 = 0 → QL Q (some (.long (i6 (-9000000000000000000)))) SI12 SJ12)
            refine ⟨fun c20 => ?_, fun c20 => ?_⟩
            · refine gj_goq gj_clT ok_231 [6, 25, 47, 57] ?_
              show (¬ a4 = (i3 (-1)) → gj_Goes E om0 mt_231 76 [some (.ref 81), some (.int a1), some (.int a2), some (.int a3), some (.int a4), some (.int a5)] [] SI12 SJ12 (QL Q)) ∧ (a4 = (i3 (-1)) → QL Q (some (.long (SI12 81 29).toInt64)) SI12 SJ12)
              refine ⟨fun c21 => ?_, fun c21 => ?_⟩
              · refine gj_goq gj_clT ok_231 [6, 25, 47, 57] ?_
                show (a4 < (SI12 81 29) → gj_Goes E om0 mt_231 89 [some (.ref 81), some (.int a1), some (.int a2), some (.int a3), some (.int a4), some (.int a5)] [] SI12 SJ12 (QL Q)) ∧ (¬ a4 < (SI12 81 29) → QL Q (some (.long (i6 (-9000000000000000000)))) SI12 SJ12)
                refine ⟨fun c22 => ?_, fun c22 => ?_⟩
                · refine gj_goq gj_clT ok_231 [6, 25, 47, 57] ?_
                  show (¬ a5 = 0 → gj_Goes E om0 mt_231 105 [some (.ref 81), some (.int a1), some (.int a2), some (.int a3), some (.int a4), some (.int a5)] [] SI12 SJ12 (QL Q)) ∧ (a5 = 0 → vp_in a4 3 ∧ (gj_Goes E om0 mt_231 128 [some (.ref 81), some (.int a1), some (.int a2), some (.int a3), some (.int a4), some (.int a5)] [(.long (SI12 94 (gj_n a4)).toInt64)] SI12 SJ12 (QL Q)))
                  refine ⟨fun c23 => ?_, fun c23 => ?_⟩
                  · refine gj_goq gj_clT ok_231 [6, 25, 47, 57] ?_
                    show (¬ a5 = (i3 1) → gj_Goes E om0 mt_231 121 [some (.ref 81), some (.int a1), some (.int a2), some (.int a3), some (.int a4), some (.int a5)] [] SI12 SJ12 (QL Q)) ∧ (a5 = (i3 1) → vp_in a4 3 ∧ (gj_Goes E om0 mt_231 128 [some (.ref 81), some (.int a1), some (.int a2), some (.int a3), some (.int a4), some (.int a5)] [(.long (SJ12 95 (gj_n a4)))] SI12 SJ12 (QL Q)))
                    refine ⟨fun c24 => ?_, fun c24 => ?_⟩
                    · refine gj_goq gj_clT ok_231 [6, 25, 47, 57] ?_
                      show vp_in a4 3 ∧ (QL Q (some (.long (SJ12 96 (gj_n a4)))) SI12 SJ12)
                      have k25 := (((((q19.1 c20).1 c21).1 c22).1 c23).1 c24).1
                      refine ⟨k25, ?_⟩
                      exact ⟨_, rfl, (((((q19.1 c20).1 c21).1 c22).1 c23).1 c24).2⟩
                    · have k26 := (((((q19.1 c20).1 c21).1 c22).1 c23).2 c24).1
                      refine ⟨k26, ?_⟩
                      refine gj_goq gj_clT ok_231 [6, 25, 47, 57] ?_
                      show QL Q (some (.long (SJ12 95 (gj_n a4)))) SI12 SJ12
                      exact ⟨_, rfl, (((((q19.1 c20).1 c21).1 c22).1 c23).2 c24).2⟩
                  · have k27 := ((((q19.1 c20).1 c21).1 c22).2 c23).1
                    refine ⟨k27, ?_⟩
                    refine gj_goq gj_clT ok_231 [6, 25, 47, 57] ?_
                    show QL Q (some (.long (SI12 94 (gj_n a4)).toInt64)) SI12 SJ12
                    exact ⟨_, rfl, ((((q19.1 c20).1 c21).1 c22).2 c23).2⟩
                · exact ⟨_, rfl, (((q19.1 c20).1 c21).2 c22)⟩
              · exact ⟨_, rfl, ((q19.1 c20).2 c21)⟩
            · exact ⟨_, rfl, (q19.2 c20)⟩
          · exact ⟨_, rfl, (((q4.2 c5).2 c6).2 c17)⟩
set_option maxRecDepth 20000 in
/-- GraspJudgeModel.isWithin -/
theorem st_232 {E : gj_E} {Q : Int32 → gj_I → gj_J → Prop} (a1 : Int32) (SI : gj_I) (SJ : gj_J) (h : ((SJ 81 30) > ((a1).toInt64 * (SJ 81 31)) → Q (i3 0) SI SJ) ∧ (¬ (SJ 81 30) > ((a1).toInt64 * (SJ 81 31)) → Q (i3 1) SI SJ)) : DoI E 232 [(.ref 81), (.int a1)] SI SJ Q := by
  refine gj_start (M := mt_232) ok_232 (Nat.le_of_ble_eq_true rfl) ?_
  refine gj_goq gj_clT ok_232 [] ?_
  show (0 < (lg_cmp (SJ 81 30) ((a1).toInt64 * (SJ 81 31))) → gj_Goes E om0 mt_232 19 [some (.ref 81), some (.int a1)] [] SI SJ (QI Q)) ∧ (¬ 0 < (lg_cmp (SJ 81 30) ((a1).toInt64 * (SJ 81 31))) → gj_Goes E om0 mt_232 20 [some (.ref 81), some (.int a1)] [(.int (i3 1))] SI SJ (QI Q))
  refine ⟨fun c1 => ?_, fun c1 => ?_⟩
  · refine gj_goq gj_clT ok_232 [] ?_
    show ((i3 0) = 0 ∨ (i3 0) = 1) ∧ (QI Q (some (.int (i3 0))) SI SJ)
    refine ⟨(Or.inl rfl), ?_⟩
    exact ⟨_, rfl, (h.1 (lgc_gt.mp c1))⟩
  · refine gj_goq gj_clT ok_232 [] ?_
    show ((i3 1) = 0 ∨ (i3 1) = 1) ∧ (QI Q (some (.int (i3 1))) SI SJ)
    refine ⟨(Or.inr rfl), ?_⟩
    exact ⟨_, rfl, (h.2 (fun z_ => c1 (lgc_gt.mpr z_)))⟩
set_option maxRecDepth 20000 in
/-- GraspJudgeModel.holdsWeight -/
theorem st_233 {E : gj_E} {Q : Int32 → gj_I → gj_J → Prop} (a1 : Int32) (a2 : Int32) (SI : gj_I) (SJ : gj_J) (h : GoI E mt_233 8 [some (.ref 81), some (.int a1), some (.int a2), some (.long (i6 0)), none, some (.long (i6 0)), none, some (.int (i3 0)), none, none] SI SJ Q) : DoI E 233 [(.ref 81), (.int a1), (.int a2)] SI SJ Q := by
  refine gj_start (M := mt_233) ok_233 (Nat.le_of_ble_eq_true rfl) ?_
  refine gj_goq gj_clT ok_233 [8, 14, 23, 31, 40, 46, 60, 68, 83, 91, 111, 177] ?_
  show gj_Goes E om0 mt_233 8 [some (.ref 81), some (.int a1), some (.int a2), some (.long (i6 0)), none, some (.long (i6 0)), none, some (.int (i3 0)), none, none] [] SI SJ (QI Q)
  exact h
set_option maxRecDepth 20000 in
theorem lp_233_8 {E : gj_E} {Q : Int32 → gj_I → gj_J → Prop} (x1 : Int32) (x2 : Int32) (x3 : Int64) (x5 : Int64) (x7 : Int32) (SI : gj_I) (SJ : gj_J) (h : DoI E 162 [(.ref 81)] SI SJ (fun r1 SI2 SJ2 => (r1 ≤ x7 → DoL E 174 [(.ref 81)] SI2 SJ2 (fun r3 SI4 SJ4 => DoI E 227 [(.ref 81), (.long ((x1).toInt64 * ((i6 3) * r3))), (.long ((x2).toInt64 * ((i6 3) * r3))), (.long (((x3 - ((SI4 82 32).toInt64 * ((i6 3) * r3))) * (x2).toInt64) - ((x5 - ((SI4 82 33).toInt64 * ((i6 3) * r3))) * (x1).toInt64)))] SI4 (gj_w2 SJ4 81 33 ((i6 3) * r3)) (fun r5 SI6 SJ6 => (r5 = 0 ∨ r5 = 1) ∧ (Q r5 SI6 SJ6)))) ∧ (¬ r1 ≤ x7 → DoI E 163 [(.ref 81), (.int x7)] SI2 SJ2 (fun r7 SI8 SJ8 => DoI E 164 [(.ref 81), (.int (x7 + (i3 1)))] SI8 SJ8 (fun r9 SI10 SJ10 => DoI E 163 [(.ref 81), (.int (x7 + (i3 1)))] SI10 SJ10 (fun r11 SI12 SJ12 => DoI E 164 [(.ref 81), (.int x7)] SI12 SJ12 (fun r13 SI14 SJ14 => DoI E 163 [(.ref 81), (.int x7)] SI14 SJ14 (fun r15 SI16 SJ16 => DoI E 163 [(.ref 81), (.int (x7 + (i3 1)))] SI16 SJ16 (fun r17 SI18 SJ18 => DoI E 164 [(.ref 81), (.int x7)] SI18 SJ18 (fun r19 SI20 SJ20 => DoI E 164 [(.ref 81), (.int (x7 + (i3 1)))] SI20 SJ20 (fun r21 SI22 SJ22 => GoI E mt_233 8 [some (.ref 81), some (.int x1), some (.int x2), some (.long (x3 + (((r7 * r9) - (r11 * r13)).toInt64 * (r15 + r17).toInt64))), none, some (.long (x5 + (((r7 * r9) - (r11 * r13)).toInt64 * (r19 + r21).toInt64))), none, some (.int (x7 + (i3 1))), none, none] SI22 SJ22 Q))))))))))) : GoI E mt_233 8 [some (.ref 81), some (.int x1), some (.int x2), some (.long x3), none, some (.long x5), none, some (.int x7), none, none] SI SJ Q := by
  refine gj_goq gj_clT ok_233 [8, 14, 23, 31, 40, 46, 60, 68, 83, 91, 111, 177] ?_
  show gj_Do E om0 (gj_mt 162) [(.ref 81)] SI SJ _
  refine gj_Do.mono h (fun v_ SI2 SJ2 h_ => ?_)
  obtain ⟨r1, rfl, q1⟩ := h_
  show gj_Goes E om0 mt_233 14 [some (.ref 81), some (.int x1), some (.int x2), some (.long x3), none, some (.long x5), none, some (.int x7), none, none] [(.int r1), (.int x7)] SI2 SJ2 (QI Q)
  refine gj_goq gj_clT ok_233 [8, 14, 23, 31, 40, 46, 60, 68, 83, 91, 111, 177] ?_
  show (r1 ≤ x7 → gj_Goes E om0 mt_233 103 [some (.ref 81), some (.int x1), some (.int x2), some (.long x3), none, some (.long x5), none, some (.int x7), none, none] [] SI2 SJ2 (QI Q)) ∧ (¬ r1 ≤ x7 → gj_Do E om0 (gj_mt 163) [(.ref 81), (.int x7)] SI2 SJ2 _)
  refine ⟨fun c2 => ?_, fun c2 => ?_⟩
  · refine gj_goq gj_clT ok_233 [8, 14, 23, 31, 40, 46, 60, 68, 83, 91, 111, 177] ?_
    show gj_Do E om0 (gj_mt 174) [(.ref 81)] SI2 SJ2 _
    refine gj_Do.mono (q1.1 c2) (fun v_ SI4 SJ4 h_ => ?_)
    obtain ⟨r3, rfl, q3⟩ := h_
    show gj_Goes E om0 mt_233 111 [some (.ref 81), some (.int x1), some (.int x2), some (.long x3), none, some (.long x5), none, some (.int x7), none, none] [(.long r3), (.long (i6 3)), (.ref 81)] SI4 SJ4 (QI Q)
    refine gj_goq gj_clT ok_233 [8, 14, 23, 31, 40, 46, 60, 68, 83, 91, 111, 177] ?_
    show vp_in (i3 32) 135 ∧ (vp_in (i3 33) 135 ∧ (gj_Do E om0 (gj_mt 227) [(.ref 81), (.long ((x1).toInt64 * ((i6 3) * r3))), (.long ((x2).toInt64 * ((i6 3) * r3))), (.long (((x3 - ((SI4 82 32).toInt64 * ((i6 3) * r3))) * (x2).toInt64) - ((x5 - ((SI4 82 33).toInt64 * ((i6 3) * r3))) * (x1).toInt64)))] SI4 (gj_w2 SJ4 81 33 ((i6 3) * r3)) _))
    refine ⟨(gj_vin (by decide)), ?_⟩
    refine ⟨(gj_vin (by decide)), ?_⟩
    refine gj_Do.mono q3 (fun v_ SI6 SJ6 h_ => ?_)
    obtain ⟨r5, rfl, q4⟩ := h_
    show gj_Goes E om0 mt_233 177 [some (.ref 81), some (.int x1), some (.int x2), some (.long (x3 - ((SI4 82 32).toInt64 * ((i6 3) * r3)))), none, some (.long (x5 - ((SI4 82 33).toInt64 * ((i6 3) * r3)))), none, some (.int x7), none, none] [(.int r5)] SI6 SJ6 (QI Q)
    refine gj_goq gj_clT ok_233 [8, 14, 23, 31, 40, 46, 60, 68, 83, 91, 111, 177] ?_
    show (r5 = 0 ∨ r5 = 1) ∧ (QI Q (some (.int r5)) SI6 SJ6)
    have k5 := q4.1
    refine ⟨k5, ?_⟩
    exact ⟨_, rfl, q4.2⟩
  · refine gj_Do.mono (q1.2 c2) (fun v_ SI8 SJ8 h_ => ?_)
    obtain ⟨r7, rfl, q6⟩ := h_
    show gj_Goes E om0 mt_233 23 [some (.ref 81), some (.int x1), some (.int x2), some (.long x3), none, some (.long x5), none, some (.int x7), none, none] [(.int r7)] SI8 SJ8 (QI Q)
    refine gj_goq gj_clT ok_233 [8, 14, 23, 31, 40, 46, 60, 68, 83, 91, 111, 177] ?_
    show gj_Do E om0 (gj_mt 164) [(.ref 81), (.int (x7 + (i3 1)))] SI8 SJ8 _
    refine gj_Do.mono q6 (fun v_ SI10 SJ10 h_ => ?_)
    obtain ⟨r9, rfl, q7⟩ := h_
    show gj_Goes E om0 mt_233 31 [some (.ref 81), some (.int x1), some (.int x2), some (.long x3), none, some (.long x5), none, some (.int x7), none, none] [(.int r9), (.int r7)] SI10 SJ10 (QI Q)
    refine gj_goq gj_clT ok_233 [8, 14, 23, 31, 40, 46, 60, 68, 83, 91, 111, 177] ?_
    show gj_Do E om0 (gj_mt 163) [(.ref 81), (.int (x7 + (i3 1)))] SI10 SJ10 _
    refine gj_Do.mono q7 (fun v_ SI12 SJ12 h_ => ?_)
    obtain ⟨r11, rfl, q8⟩ := h_
    show gj_Goes E om0 mt_233 40 [some (.ref 81), some (.int x1), some (.int x2), some (.long x3), none, some (.long x5), none, some (.int x7), none, none] [(.int r11), (.int (r7 * r9))] SI12 SJ12 (QI Q)
    refine gj_goq gj_clT ok_233 [8, 14, 23, 31, 40, 46, 60, 68, 83, 91, 111, 177] ?_
    show gj_Do E om0 (gj_mt 164) [(.ref 81), (.int x7)] SI12 SJ12 _
    refine gj_Do.mono q8 (fun v_ SI14 SJ14 h_ => ?_)
    obtain ⟨r13, rfl, q9⟩ := h_
    show gj_Goes E om0 mt_233 46 [some (.ref 81), some (.int x1), some (.int x2), some (.long x3), none, some (.long x5), none, some (.int x7), none, none] [(.int r13), (.int r11), (.int (r7 * r9))] SI14 SJ14 (QI Q)
    refine gj_goq gj_clT ok_233 [8, 14, 23, 31, 40, 46, 60, 68, 83, 91, 111, 177] ?_
    show gj_Do E om0 (gj_mt 163) [(.ref 81), (.int x7)] SI14 SJ14 _
    refine gj_Do.mono q9 (fun v_ SI16 SJ16 h_ => ?_)
    obtain ⟨r15, rfl, q10⟩ := h_
    show gj_Goes E om0 mt_233 60 [some (.ref 81), some (.int x1), some (.int x2), some (.long x3), none, some (.long x5), none, some (.int x7), some (.long ((r7 * r9) - (r11 * r13)).toInt64), none] [(.int r15), (.long ((r7 * r9) - (r11 * r13)).toInt64), (.long x3)] SI16 SJ16 (QI Q)
    refine gj_goq gj_clT ok_233 [8, 14, 23, 31, 40, 46, 60, 68, 83, 91, 111, 177] ?_
    show gj_Do E om0 (gj_mt 163) [(.ref 81), (.int (x7 + (i3 1)))] SI16 SJ16 _
    refine gj_Do.mono q10 (fun v_ SI18 SJ18 h_ => ?_)
    obtain ⟨r17, rfl, q11⟩ := h_
    show gj_Goes E om0 mt_233 68 [some (.ref 81), some (.int x1), some (.int x2), some (.long x3), none, some (.long x5), none, some (.int x7), some (.long ((r7 * r9) - (r11 * r13)).toInt64), none] [(.int r17), (.int r15), (.long ((r7 * r9) - (r11 * r13)).toInt64), (.long x3)] SI18 SJ18 (QI Q)
    refine gj_goq gj_clT ok_233 [8, 14, 23, 31, 40, 46, 60, 68, 83, 91, 111, 177] ?_
    show gj_Do E om0 (gj_mt 164) [(.ref 81), (.int x7)] SI18 SJ18 _
    refine gj_Do.mono q11 (fun v_ SI20 SJ20 h_ => ?_)
    obtain ⟨r19, rfl, q12⟩ := h_
    show gj_Goes E om0 mt_233 83 [some (.ref 81), some (.int x1), some (.int x2), some (.long (x3 + (((r7 * r9) - (r11 * r13)).toInt64 * (r15 + r17).toInt64))), none, some (.long x5), none, some (.int x7), some (.long ((r7 * r9) - (r11 * r13)).toInt64), none] [(.int r19), (.long ((r7 * r9) - (r11 * r13)).toInt64), (.long x5)] SI20 SJ20 (QI Q)
    refine gj_goq gj_clT ok_233 [8, 14, 23, 31, 40, 46, 60, 68, 83, 91, 111, 177] ?_
    show gj_Do E om0 (gj_mt 164) [(.ref 81), (.int (x7 + (i3 1)))] SI20 SJ20 _
    refine gj_Do.mono q12 (fun v_ SI22 SJ22 h_ => ?_)
    obtain ⟨r21, rfl, q13⟩ := h_
    show gj_Goes E om0 mt_233 91 [some (.ref 81), some (.int x1), some (.int x2), some (.long (x3 + (((r7 * r9) - (r11 * r13)).toInt64 * (r15 + r17).toInt64))), none, some (.long x5), none, some (.int x7), some (.long ((r7 * r9) - (r11 * r13)).toInt64), none] [(.int r21), (.int r19), (.long ((r7 * r9) - (r11 * r13)).toInt64), (.long x5)] SI22 SJ22 (QI Q)
    refine gj_goq gj_clT ok_233 [8, 14, 23, 31, 40, 46, 60, 68, 83, 91, 111, 177] ?_
    show gj_Goes E om0 mt_233 8 [some (.ref 81), some (.int x1), some (.int x2), some (.long (x3 + (((r7 * r9) - (r11 * r13)).toInt64 * (r15 + r17).toInt64))), none, some (.long (x5 + (((r7 * r9) - (r11 * r13)).toInt64 * (r19 + r21).toInt64))), none, some (.int (x7 + (i3 1))), some (.long ((r7 * r9) - (r11 * r13)).toInt64), none] [] SI22 SJ22 (QI Q)
    exact gj_fh q13 (And.intro (Or.inr rfl) (And.intro (Or.inr rfl) (And.intro (Or.inr rfl) (And.intro (Or.inr rfl) (And.intro (Or.inl rfl) (And.intro (Or.inr rfl) (And.intro (Or.inl rfl) (And.intro (Or.inr rfl) (And.intro (Or.inl rfl) (And.intro (Or.inl rfl) trivial))))))))))
set_option maxRecDepth 20000 in
/-- GraspJudgeModel.weight -/
theorem st_234 {E : gj_E} {Q : Int64 → gj_I → gj_J → Prop} (a1 : Int32) (a2 : Int32) (a3 : Int32) (SI : gj_I) (SJ : gj_J) (h : DoI E 155 [(.long (a1).toInt64), (.long (i6 (-9))), (.long (i6 9))] SI SJ (fun r1 SI2 SJ2 => (r1 = 0 → Q (i6 (-9000000000000000000)) SI2 SJ2) ∧ (¬ r1 = 0 → DoI E 155 [(.long (a2).toInt64), (.long (i6 (-9))), (.long (i6 9))] SI2 SJ2 (fun r3 SI4 SJ4 => (r3 = 0 → Q (i6 (-9000000000000000000)) SI4 SJ4) ∧ (¬ r3 = 0 → DoI E 155 [(.long (a3).toInt64), (.long (i6 0)), (.long (i6 1))] SI4 SJ4 (fun r5 SI6 SJ6 => (¬ r5 = 0 → DoV E 184 [(.ref 81)] SI6 SJ6 (fun SI8 SJ8 => DoI E 233 [(.ref 81), (.int a1), (.int a2)] SI8 SJ8 (fun r9 SI10 SJ10 => (¬ r9 = 0 → DoL E 161 [(.long (SJ10 81 30)), (.long ((SJ10 81 31) * (SJ10 81 33)))] SI10 SJ10 (fun r11 SI12 SJ12 => (¬ a3 = 0 → ¬ r11 = 0 ∧ (Q (((SJ10 81 31) * (SJ10 81 33)) / r11) SI12 SJ12)) ∧ (a3 = 0 → ¬ r11 = 0 ∧ (Q ((SJ12 81 30) / r11) SI12 SJ12)))) ∧ (r9 = 0 → Q (i6 (-9000000000000000000)) SI10 SJ10)))) ∧ (r5 = 0 → Q (i6 (-9000000000000000000)) SI6 SJ6))))))) : DoL E 234 [(.ref 81), (.int a1), (.int a2), (.int a3)] SI SJ Q := by
  refine gj_start (M := mt_234) ok_234 (Nat.le_of_ble_eq_true rfl) ?_
  refine gj_goq gj_clT ok_234 [11, 25, 35, 46, 52, 79] ?_
  show gj_Do E om0 (gj_mt 155) [(.long (a1).toInt64), (.long (i6 (-9))), (.long (i6 9))] SI SJ _
  refine gj_Do.mono h (fun v_ SI2 SJ2 h_ => ?_)
  obtain ⟨r1, rfl, q1⟩ := h_
  show gj_Goes E om0 mt_234 11 [some (.ref 81), some (.int a1), some (.int a2), some (.int a3), none, none, none, none] [(.int r1)] SI2 SJ2 (QL Q)
  refine gj_goq gj_clT ok_234 [11, 25, 35, 46, 52, 79] ?_
  show (r1 = 0 → gj_Goes E om0 mt_234 38 [some (.ref 81), some (.int a1), some (.int a2), some (.int a3), none, none, none, none] [] SI2 SJ2 (QL Q)) ∧ (¬ r1 = 0 → gj_Do E om0 (gj_mt 155) [(.long (a2).toInt64), (.long (i6 (-9))), (.long (i6 9))] SI2 SJ2 _)
  refine ⟨fun c2 => ?_, fun c2 => ?_⟩
  · refine gj_goq gj_clT ok_234 [11, 25, 35, 46, 52, 79] ?_
    show QL Q (some (.long (i6 (-9000000000000000000)))) SI2 SJ2
    exact ⟨_, rfl, (q1.1 c2)⟩
  · refine gj_Do.mono (q1.2 c2) (fun v_ SI4 SJ4 h_ => ?_)
    obtain ⟨r3, rfl, q3⟩ := h_
    show gj_Goes E om0 mt_234 25 [some (.ref 81), some (.int a1), some (.int a2), some (.int a3), none, none, none, none] [(.int r3)] SI4 SJ4 (QL Q)
    refine gj_goq gj_clT ok_234 [11, 25, 35, 46, 52, 79] ?_
    show (r3 = 0 → gj_Goes E om0 mt_234 38 [some (.ref 81), some (.int a1), some (.int a2), some (.int a3), none, none, none, none] [] SI4 SJ4 (QL Q)) ∧ (¬ r3 = 0 → gj_Do E om0 (gj_mt 155) [(.long (a3).toInt64), (.long (i6 0)), (.long (i6 1))] SI4 SJ4 _)
    refine ⟨fun c4 => ?_, fun c4 => ?_⟩
    · refine gj_goq gj_clT ok_234 [11, 25, 35, 46, 52, 79] ?_
      show QL Q (some (.long (i6 (-9000000000000000000)))) SI4 SJ4
      exact ⟨_, rfl, (q3.1 c4)⟩
    · refine gj_Do.mono (q3.2 c4) (fun v_ SI6 SJ6 h_ => ?_)
      obtain ⟨r5, rfl, q5⟩ := h_
      show gj_Goes E om0 mt_234 35 [some (.ref 81), some (.int a1), some (.int a2), some (.int a3), none, none, none, none] [(.int r5)] SI6 SJ6 (QL Q)
      refine gj_goq gj_clT ok_234 [11, 25, 35, 46, 52, 79] ?_
      show (¬ r5 = 0 → gj_Goes E om0 mt_234 42 [some (.ref 81), some (.int a1), some (.int a2), some (.int a3), none, none, none, none] [] SI6 SJ6 (QL Q)) ∧ (r5 = 0 → QL Q (some (.long (i6 (-9000000000000000000)))) SI6 SJ6)
      refine ⟨fun c6 => ?_, fun c6 => ?_⟩
      · refine gj_goq gj_clT ok_234 [11, 25, 35, 46, 52, 79] ?_
        show gj_Do E om0 (gj_mt 184) [(.ref 81)] SI6 SJ6 _
        refine gj_Do.mono (q5.1 c6) (fun v_ SI8 SJ8 h_ => ?_)
        obtain ⟨rfl, q7⟩ := h_
        show gj_Goes E om0 mt_234 46 [some (.ref 81), some (.int a1), some (.int a2), some (.int a3), none, none, none, none] [] SI8 SJ8 (QL Q)
        refine gj_goq gj_clT ok_234 [11, 25, 35, 46, 52, 79] ?_
        show gj_Do E om0 (gj_mt 233) [(.ref 81), (.int a1), (.int a2)] SI8 SJ8 _
        refine gj_Do.mono q7 (fun v_ SI10 SJ10 h_ => ?_)
        obtain ⟨r9, rfl, q8⟩ := h_
        show gj_Goes E om0 mt_234 52 [some (.ref 81), some (.int a1), some (.int a2), some (.int a3), none, none, none, none] [(.int r9)] SI10 SJ10 (QL Q)
        refine gj_goq gj_clT ok_234 [11, 25, 35, 46, 52, 79] ?_
        show (¬ r9 = 0 → gj_Goes E om0 mt_234 59 [some (.ref 81), some (.int a1), some (.int a2), some (.int a3), none, none, none, none] [] SI10 SJ10 (QL Q)) ∧ (r9 = 0 → QL Q (some (.long (i6 (-9000000000000000000)))) SI10 SJ10)
        refine ⟨fun c9 => ?_, fun c9 => ?_⟩
        · refine gj_goq gj_clT ok_234 [11, 25, 35, 46, 52, 79] ?_
          show gj_Do E om0 (gj_mt 161) [(.long (SJ10 81 30)), (.long ((SJ10 81 31) * (SJ10 81 33)))] SI10 SJ10 _
          refine gj_Do.mono (q8.1 c9) (fun v_ SI12 SJ12 h_ => ?_)
          obtain ⟨r11, rfl, q10⟩ := h_
          show gj_Goes E om0 mt_234 79 [some (.ref 81), some (.int a1), some (.int a2), some (.int a3), some (.long ((SJ10 81 31) * (SJ10 81 33))), none, none, none] [(.long r11)] SI12 SJ12 (QL Q)
          refine gj_goq gj_clT ok_234 [11, 25, 35, 46, 52, 79] ?_
          show (¬ a3 = 0 → gj_Goes E om0 mt_234 95 [some (.ref 81), some (.int a1), some (.int a2), some (.int a3), some (.long ((SJ10 81 31) * (SJ10 81 33))), none, some (.long r11), none] [] SI12 SJ12 (QL Q)) ∧ (a3 = 0 → ¬ r11 = 0 ∧ (gj_Goes E om0 mt_234 100 [some (.ref 81), some (.int a1), some (.int a2), some (.int a3), some (.long ((SJ10 81 31) * (SJ10 81 33))), none, some (.long r11), none] [(.long ((SJ12 81 30) / r11))] SI12 SJ12 (QL Q)))
          refine ⟨fun c11 => ?_, fun c11 => ?_⟩
          · refine gj_goq gj_clT ok_234 [11, 25, 35, 46, 52, 79] ?_
            show ¬ r11 = 0 ∧ (QL Q (some (.long (((SJ10 81 31) * (SJ10 81 33)) / r11))) SI12 SJ12)
            have k12 := (q10.1 c11).1
            refine ⟨k12, ?_⟩
            exact ⟨_, rfl, (q10.1 c11).2⟩
          · have k13 := (q10.2 c11).1
            refine ⟨k13, ?_⟩
            refine gj_goq gj_clT ok_234 [11, 25, 35, 46, 52, 79] ?_
            show QL Q (some (.long ((SJ12 81 30) / r11))) SI12 SJ12
            exact ⟨_, rfl, (q10.2 c11).2⟩
        · exact ⟨_, rfl, (q8.2 c9)⟩
      · exact ⟨_, rfl, (q5.2 c6)⟩
set_option maxRecDepth 20000 in
/-- GraspJudgeModel.tilt -/
theorem st_235 {E : gj_E} {Q : Int32 → gj_I → gj_J → Prop} (a1 : Int32) (SI : gj_I) (SJ : gj_J) (h : DoI E 155 [(.long (a1).toInt64), (.long (i6 0)), (.long (i6 10000))] SI SJ (fun r1 SI2 SJ2 => (¬ r1 = 0 → DoV E 184 [(.ref 81)] SI2 SJ2 (fun SI4 SJ4 => GoI E mt_235 22 [some (.ref 81), some (.int a1), some (.int (i3 0)), some (.int (i3 0)), none, none] SI4 SJ4 Q)) ∧ (r1 = 0 → Q (i3 (-1)) SI2 SJ2))) : DoI E 235 [(.ref 81), (.int a1)] SI SJ Q := by
  refine gj_start (M := mt_235) ok_235 (Nat.le_of_ble_eq_true rfl) ?_
  refine gj_goq gj_clT ok_235 [9, 18, 22, 94] ?_
  show gj_Do E om0 (gj_mt 155) [(.long (a1).toInt64), (.long (i6 0)), (.long (i6 10000))] SI SJ _
  refine gj_Do.mono h (fun v_ SI2 SJ2 h_ => ?_)
  obtain ⟨r1, rfl, q1⟩ := h_
  show gj_Goes E om0 mt_235 9 [some (.ref 81), some (.int a1), none, none, none, none] [(.int r1)] SI2 SJ2 (QI Q)
  refine gj_goq gj_clT ok_235 [9, 18, 22, 94] ?_
  show (¬ r1 = 0 → gj_Goes E om0 mt_235 14 [some (.ref 81), some (.int a1), none, none, none, none] [] SI2 SJ2 (QI Q)) ∧ (r1 = 0 → QI Q (some (.int (i3 (-1)))) SI2 SJ2)
  refine ⟨fun c2 => ?_, fun c2 => ?_⟩
  · refine gj_goq gj_clT ok_235 [9, 18, 22, 94] ?_
    show gj_Do E om0 (gj_mt 184) [(.ref 81)] SI2 SJ2 _
    refine gj_Do.mono (q1.1 c2) (fun v_ SI4 SJ4 h_ => ?_)
    obtain ⟨rfl, q3⟩ := h_
    show gj_Goes E om0 mt_235 18 [some (.ref 81), some (.int a1), none, none, none, none] [] SI4 SJ4 (QI Q)
    refine gj_goq gj_clT ok_235 [9, 18, 22, 94] ?_
    show gj_Goes E om0 mt_235 22 [some (.ref 81), some (.int a1), some (.int (i3 0)), some (.int (i3 0)), none, none] [] SI4 SJ4 (QI Q)
    exact q3
  · exact ⟨_, rfl, (q1.2 c2)⟩
set_option maxRecDepth 20000 in
theorem lp_235_22 {E : gj_E} {Q : Int32 → gj_I → gj_J → Prop} (x1 : Int32) (x2 : Int32) (x3 : Int32) (SI : gj_I) (SJ : gj_J) (h : ((i3 8) ≤ x3 → Q x2 SI SJ) ∧ (¬ (i3 8) ≤ x3 → (x3 < (i3 2) → (x3 ≤ 0 → (x3 ≤ (i3 4) → DoI E 233 [(.ref 81), (.int (i3 1)), (.int (i3 0))] SI SJ (fun r1 SI2 SJ2 => (r1 = 0 → GoI E mt_235 22 [some (.ref 81), some (.int x1), some (.int x2), some (.int (x3 + (i3 1))), none, none] SI2 SJ2 Q) ∧ (¬ r1 = 0 → ((SJ2 81 30) > (((x1).toInt64 * (SJ2 81 33)) * (SJ2 81 31)) → GoI E mt_235 22 [some (.ref 81), some (.int x1), some (.int x2), some (.int (x3 + (i3 1))), none, none] SI2 SJ2 Q) ∧ (¬ (SJ2 81 30) > (((x1).toInt64 * (SJ2 81 33)) * (SJ2 81 31)) → GoI E mt_235 22 [some (.ref 81), some (.int x1), some (.int (x2 ||| ((i3 1) <<< (x3 &&& 31)))), some (.int (x3 + (i3 1))), none, none] SI2 SJ2 Q)))) ∧ (¬ x3 ≤ (i3 4) → DoI E 233 [(.ref 81), (.int (i3 1)), (.int (i3 (-1)))] SI SJ (fun r3 SI4 SJ4 => (r3 = 0 → GoI E mt_235 22 [some (.ref 81), some (.int x1), some (.int x2), some (.int (x3 + (i3 1))), none, none] SI4 SJ4 Q) ∧ (¬ r3 = 0 → ((SJ4 81 30) > (((x1).toInt64 * (SJ4 81 33)) * (SJ4 81 31)) → GoI E mt_235 22 [some (.ref 81), some (.int x1), some (.int x2), some (.int (x3 + (i3 1))), none, none] SI4 SJ4 Q) ∧ (¬ (SJ4 81 30) > (((x1).toInt64 * (SJ4 81 33)) * (SJ4 81 31)) → GoI E mt_235 22 [some (.ref 81), some (.int x1), some (.int (x2 ||| ((i3 1) <<< (x3 &&& 31)))), some (.int (x3 + (i3 1))), none, none] SI4 SJ4 Q))))) ∧ (¬ x3 ≤ 0 → ((i3 4) ≤ x3 → (x3 ≤ (i3 4) → DoI E 233 [(.ref 81), (.int (i3 1)), (.int (i3 0))] SI SJ (fun r5 SI6 SJ6 => (r5 = 0 → GoI E mt_235 22 [some (.ref 81), some (.int x1), some (.int x2), some (.int (x3 + (i3 1))), none, none] SI6 SJ6 Q) ∧ (¬ r5 = 0 → ((SJ6 81 30) > (((x1).toInt64 * (SJ6 81 33)) * (SJ6 81 31)) → GoI E mt_235 22 [some (.ref 81), some (.int x1), some (.int x2), some (.int (x3 + (i3 1))), none, none] SI6 SJ6 Q) ∧ (¬ (SJ6 81 30) > (((x1).toInt64 * (SJ6 81 33)) * (SJ6 81 31)) → GoI E mt_235 22 [some (.ref 81), some (.int x1), some (.int (x2 ||| ((i3 1) <<< (x3 &&& 31)))), some (.int (x3 + (i3 1))), none, none] SI6 SJ6 Q)))) ∧ (¬ x3 ≤ (i3 4) → DoI E 233 [(.ref 81), (.int (i3 1)), (.int (i3 (-1)))] SI SJ (fun r7 SI8 SJ8 => (r7 = 0 → GoI E mt_235 22 [some (.ref 81), some (.int x1), some (.int x2), some (.int (x3 + (i3 1))), none, none] SI8 SJ8 Q) ∧ (¬ r7 = 0 → ((SJ8 81 30) > (((x1).toInt64 * (SJ8 81 33)) * (SJ8 81 31)) → GoI E mt_235 22 [some (.ref 81), some (.int x1), some (.int x2), some (.int (x3 + (i3 1))), none, none] SI8 SJ8 Q) ∧ (¬ (SJ8 81 30) > (((x1).toInt64 * (SJ8 81 33)) * (SJ8 81 31)) → GoI E mt_235 22 [some (.ref 81), some (.int x1), some (.int (x2 ||| ((i3 1) <<< (x3 &&& 31)))), some (.int (x3 + (i3 1))), none, none] SI8 SJ8 Q))))) ∧ (¬ (i3 4) ≤ x3 → DoI E 233 [(.ref 81), (.int (i3 1)), (.int (i3 1))] SI SJ (fun r9 SI10 SJ10 => (r9 = 0 → GoI E mt_235 22 [some (.ref 81), some (.int x1), some (.int x2), some (.int (x3 + (i3 1))), none, none] SI10 SJ10 Q) ∧ (¬ r9 = 0 → ((SJ10 81 30) > (((x1).toInt64 * (SJ10 81 33)) * (SJ10 81 31)) → GoI E mt_235 22 [some (.ref 81), some (.int x1), some (.int x2), some (.int (x3 + (i3 1))), none, none] SI10 SJ10 Q) ∧ (¬ (SJ10 81 30) > (((x1).toInt64 * (SJ10 81 33)) * (SJ10 81 31)) → GoI E mt_235 22 [some (.ref 81), some (.int x1), some (.int (x2 ||| ((i3 1) <<< (x3 &&& 31)))), some (.int (x3 + (i3 1))), none, none] SI10 SJ10 Q)))))) ∧ (¬ x3 < (i3 2) → (¬ x3 = (i3 7) → (x3 ≤ (i3 2) → (x3 ≤ 0 → (x3 ≤ (i3 4) → DoI E 233 [(.ref 81), (.int (i3 0)), (.int (i3 0))] SI SJ (fun r11 SI12 SJ12 => (r11 = 0 → GoI E mt_235 22 [some (.ref 81), some (.int x1), some (.int x2), some (.int (x3 + (i3 1))), none, none] SI12 SJ12 Q) ∧ (¬ r11 = 0 → ((SJ12 81 30) > (((x1).toInt64 * (SJ12 81 33)) * (SJ12 81 31)) → GoI E mt_235 22 [some (.ref 81), some (.int x1), some (.int x2), some (.int (x3 + (i3 1))), none, none] SI12 SJ12 Q) ∧ (¬ (SJ12 81 30) > (((x1).toInt64 * (SJ12 81 33)) * (SJ12 81 31)) → GoI E mt_235 22 [some (.ref 81), some (.int x1), some (.int (x2 ||| ((i3 1) <<< (x3 &&& 31)))), some (.int (x3 + (i3 1))), none, none] SI12 SJ12 Q)))) ∧ (¬ x3 ≤ (i3 4) → DoI E 233 [(.ref 81), (.int (i3 0)), (.int (i3 (-1)))] SI SJ (fun r13 SI14 SJ14 => (r13 = 0 → GoI E mt_235 22 [some (.ref 81), some (.int x1), some (.int x2), some (.int (x3 + (i3 1))), none, none] SI14 SJ14 Q) ∧ (¬ r13 = 0 → ((SJ14 81 30) > (((x1).toInt64 * (SJ14 81 33)) * (SJ14 81 31)) → GoI E mt_235 22 [some (.ref 81), some (.int x1), some (.int x2), some (.int (x3 + (i3 1))), none, none] SI14 SJ14 Q) ∧ (¬ (SJ14 81 30) > (((x1).toInt64 * (SJ14 81 33)) * (SJ14 81 31)) → GoI E mt_235 22 [some (.ref 81), some (.int x1), some (.int (x2 ||| ((i3 1) <<< (x3 &&& 31)))), some (.int (x3 + (i3 1))), none, none] SI14 SJ14 Q))))) ∧ (¬ x3 ≤ 0 → ((i3 4) ≤ x3 → (x3 ≤ (i3 4) → DoI E 233 [(.ref 81), (.int (i3 0)), (.int (i3 0))] SI SJ (fun r15 SI16 SJ16 => (r15 = 0 → GoI E mt_235 22 [some (.ref 81), some (.int x1), some (.int x2), some (.int (x3 + (i3 1))), none, none] SI16 SJ16 Q) ∧ (¬ r15 = 0 → ((SJ16 81 30) > (((x1).toInt64 * (SJ16 81 33)) * (SJ16 81 31)) → GoI E mt_235 22 [some (.ref 81), some (.int x1), some (.int x2), some (.int (x3 + (i3 1))), none, none] SI16 SJ16 Q) ∧ (¬ (SJ16 81 30) > (((x1).toInt64 * (SJ16 81 33)) * (SJ16 81 31)) → GoI E mt_235 22 [some (.ref 81), some (.int x1), some (.int (x2 ||| ((i3 1) <<< (x3 &&& 31)))), some (.int (x3 + (i3 1))), none, none] SI16 SJ16 Q)))) ∧ (¬ x3 ≤ (i3 4) → DoI E 233 [(.ref 81), (.int (i3 0)), (.int (i3 (-1)))] SI SJ (fun r17 SI18 SJ18 => (r17 = 0 → GoI E mt_235 22 [some (.ref 81), some (.int x1), some (.int x2), some (.int (x3 + (i3 1))), none, none] SI18 SJ18 Q) ∧ (¬ r17 = 0 → ((SJ18 81 30) > (((x1).toInt64 * (SJ18 81 33)) * (SJ18 81 31)) → GoI E mt_235 22 [some (.ref 81), some (.int x1), some (.int x2), some (.int (x3 + (i3 1))), none, none] SI18 SJ18 Q) ∧ (¬ (SJ18 81 30) > (((x1).toInt64 * (SJ18 81 33)) * (SJ18 81 31)) → GoI E mt_235 22 [some (.ref 81), some (.int x1), some (.int (x2 ||| ((i3 1) <<< (x3 &&& 31)))), some (.int (x3 + (i3 1))), none, none] SI18 SJ18 Q))))) ∧ (¬ (i3 4) ≤ x3 → DoI E 233 [(.ref 81), (.int (i3 0)), (.int (i3 1))] SI SJ (fun r19 SI20 SJ20 => (r19 = 0 → GoI E mt_235 22 [some (.ref 81), some (.int x1), some (.int x2), some (.int (x3 + (i3 1))), none, none] SI20 SJ20 Q) ∧ (¬ r19 = 0 → ((SJ20 81 30) > (((x1).toInt64 * (SJ20 81 33)) * (SJ20 81 31)) → GoI E mt_235 22 [some (.ref 81), some (.int x1), some (.int x2), some (.int (x3 + (i3 1))), none, none] SI20 SJ20 Q) ∧ (¬ (SJ20 81 30) > (((x1).toInt64 * (SJ20 81 33)) * (SJ20 81 31)) → GoI E mt_235 22 [some (.ref 81), some (.int x1), some (.int (x2 ||| ((i3 1) <<< (x3 &&& 31)))), some (.int (x3 + (i3 1))), none, none] SI20 SJ20 Q)))))) ∧ (¬ x3 ≤ (i3 2) → ((i3 6) ≤ x3 → (x3 ≤ 0 → (x3 ≤ (i3 4) → DoI E 233 [(.ref 81), (.int (i3 0)), (.int (i3 0))] SI SJ (fun r21 SI22 SJ22 => (r21 = 0 → GoI E mt_235 22 [some (.ref 81), some (.int x1), some (.int x2), some (.int (x3 + (i3 1))), none, none] SI22 SJ22 Q) ∧ (¬ r21 = 0 → ((SJ22 81 30) > (((x1).toInt64 * (SJ22 81 33)) * (SJ22 81 31)) → GoI E mt_235 22 [some (.ref 81), some (.int x1), some (.int x2), some (.int (x3 + (i3 1))), none, none] SI22 SJ22 Q) ∧ (¬ (SJ22 81 30) > (((x1).toInt64 * (SJ22 81 33)) * (SJ22 81 31)) → GoI E mt_235 22 [some (.ref 81), some (.int x1), some (.int (x2 ||| ((i3 1) <<< (x3 &&& 31)))), some (.int (x3 + (i3 1))), none, none] SI22 SJ22 Q)))) ∧ (¬ x3 ≤ (i3 4) → DoI E 233 [(.ref 81), (.int (i3 0)), (.int (i3 (-1)))] SI SJ (fun r23 SI24 SJ24 => (r23 = 0 → GoI E mt_235 22 [some (.ref 81), some (.int x1), some (.int x2), some (.int (x3 + (i3 1))), none, none] SI24 SJ24 Q) ∧ (¬ r23 = 0 → ((SJ24 81 30) > (((x1).toInt64 * (SJ24 81 33)) * (SJ24 81 31)) → GoI E mt_235 22 [some (.ref 81), some (.int x1), some (.int x2), some (.int (x3 + (i3 1))), none, none] SI24 SJ24 Q) ∧ (¬ (SJ24 81 30) > (((x1).toInt64 * (SJ24 81 33)) * (SJ24 81 31)) → GoI E mt_235 22 [some (.ref 81), some (.int x1), some (.int (x2 ||| ((i3 1) <<< (x3 &&& 31)))), some (.int (x3 + (i3 1))), none, none] SI24 SJ24 Q))))) ∧ (¬ x3 ≤ 0 → ((i3 4) ≤ x3 → (x3 ≤ (i3 4) → DoI E 233 [(.ref 81), (.int (i3 0)), (.int (i3 0))] SI SJ (fun r25 SI26 SJ26 => (r25 = 0 → GoI E mt_235 22 [some (.ref 81), some (.int x1), some (.int x2), some (.int (x3 + (i3 1))), none, none] SI26 SJ26 Q) ∧ (¬ r25 = 0 → ((SJ26 81 30) > (((x1).toInt64 * (SJ26 81 33)) * (SJ26 81 31)) → GoI E mt_235 22 [some (.ref 81), some (.int x1), some (.int x2), some (.int (x3 + (i3 1))), none, none] SI26 SJ26 Q) ∧ (¬ (SJ26 81 30) > (((x1).toInt64 * (SJ26 81 33)) * (SJ26 81 31)) → GoI E mt_235 22 [some (.ref 81), some (.int x1), some (.int (x2 ||| ((i3 1) <<< (x3 &&& 31)))), some (.int (x3 + (i3 1))), none, none] SI26 SJ26 Q)))) ∧ (¬ x3 ≤ (i3 4) → DoI E 233 [(.ref 81), (.int (i3 0)), (.int (i3 (-1)))] SI SJ (fun r27 SI28 SJ28 => (r27 = 0 → GoI E mt_235 22 [some (.ref 81), some (.int x1), some (.int x2), some (.int (x3 + (i3 1))), none, none] SI28 SJ28 Q) ∧ (¬ r27 = 0 → ((SJ28 81 30) > (((x1).toInt64 * (SJ28 81 33)) * (SJ28 81 31)) → GoI E mt_235 22 [some (.ref 81), some (.int x1), some (.int x2), some (.int (x3 + (i3 1))), none, none] SI28 SJ28 Q) ∧ (¬ (SJ28 81 30) > (((x1).toInt64 * (SJ28 81 33)) * (SJ28 81 31)) → GoI E mt_235 22 [some (.ref 81), some (.int x1), some (.int (x2 ||| ((i3 1) <<< (x3 &&& 31)))), some (.int (x3 + (i3 1))), none, none] SI28 SJ28 Q))))) ∧ (¬ (i3 4) ≤ x3 → DoI E 233 [(.ref 81), (.int (i3 0)), (.int (i3 1))] SI SJ (fun r29 SI30 SJ30 => (r29 = 0 → GoI E mt_235 22 [some (.ref 81), some (.int x1), some (.int x2), some (.int (x3 + (i3 1))), none, none] SI30 SJ30 Q) ∧ (¬ r29 = 0 → ((SJ30 81 30) > (((x1).toInt64 * (SJ30 81 33)) * (SJ30 81 31)) → GoI E mt_235 22 [some (.ref 81), some (.int x1), some (.int x2), some (.int (x3 + (i3 1))), none, none] SI30 SJ30 Q) ∧ (¬ (SJ30 81 30) > (((x1).toInt64 * (SJ30 81 33)) * (SJ30 81 31)) → GoI E mt_235 22 [some (.ref 81), some (.int x1), some (.int (x2 ||| ((i3 1) <<< (x3 &&& 31)))), some (.int (x3 + (i3 1))), none, none] SI30 SJ30 Q)))))) ∧ (¬ (i3 6) ≤ x3 → (x3 ≤ 0 → (x3 ≤ (i3 4) → DoI E 233 [(.ref 81), (.int (i3 (-1))), (.int (i3 0))] SI SJ (fun r31 SI32 SJ32 => (r31 = 0 → GoI E mt_235 22 [some (.ref 81), some (.int x1), some (.int x2), some (.int (x3 + (i3 1))), none, none] SI32 SJ32 Q) ∧ (¬ r31 = 0 → ((SJ32 81 30) > (((x1).toInt64 * (SJ32 81 33)) * (SJ32 81 31)) → GoI E mt_235 22 [some (.ref 81), some (.int x1), some (.int x2), some (.int (x3 + (i3 1))), none, none] SI32 SJ32 Q) ∧ (¬ (SJ32 81 30) > (((x1).toInt64 * (SJ32 81 33)) * (SJ32 81 31)) → GoI E mt_235 22 [some (.ref 81), some (.int x1), some (.int (x2 ||| ((i3 1) <<< (x3 &&& 31)))), some (.int (x3 + (i3 1))), none, none] SI32 SJ32 Q)))) ∧ (¬ x3 ≤ (i3 4) → DoI E 233 [(.ref 81), (.int (i3 (-1))), (.int (i3 (-1)))] SI SJ (fun r33 SI34 SJ34 => (r33 = 0 → GoI E mt_235 22 [some (.ref 81), some (.int x1), some (.int x2), some (.int (x3 + (i3 1))), none, none] SI34 SJ34 Q) ∧ (¬ r33 = 0 → ((SJ34 81 30) > (((x1).toInt64 * (SJ34 81 33)) * (SJ34 81 31)) → GoI E mt_235 22 [some (.ref 81), some (.int x1), some (.int x2), some (.int (x3 + (i3 1))), none, none] SI34 SJ34 Q) ∧ (¬ (SJ34 81 30) > (((x1).toInt64 * (SJ34 81 33)) * (SJ34 81 31)) → GoI E mt_235 22 [some (.ref 81), some (.int x1), some (.int (x2 ||| ((i3 1) <<< (x3 &&& 31)))), some (.int (x3 + (i3 1))), none, none] SI34 SJ34 Q))))) ∧ (¬ x3 ≤ 0 → ((i3 4) ≤ x3 → (x3 ≤ (i3 4) → DoI E 233 [(.ref 81), (.int (i3 (-1))), (.int (i3 0))] SI SJ (fun r35 SI36 SJ36 => (r35 = 0 → GoI E mt_235 22 [some (.ref 81), some (.int x1), some (.int x2), some (.int (x3 + (i3 1))), none, none] SI36 SJ36 Q) ∧ (¬ r35 = 0 → ((SJ36 81 30) > (((x1).toInt64 * (SJ36 81 33)) * (SJ36 81 31)) → GoI E mt_235 22 [some (.ref 81), some (.int x1), some (.int x2), some (.int (x3 + (i3 1))), none, none] SI36 SJ36 Q) ∧ (¬ (SJ36 81 30) > (((x1).toInt64 * (SJ36 81 33)) * (SJ36 81 31)) → GoI E mt_235 22 [some (.ref 81), some (.int x1), some (.int (x2 ||| ((i3 1) <<< (x3 &&& 31)))), some (.int (x3 + (i3 1))), none, none] SI36 SJ36 Q)))) ∧ (¬ x3 ≤ (i3 4) → DoI E 233 [(.ref 81), (.int (i3 (-1))), (.int (i3 (-1)))] SI SJ (fun r37 SI38 SJ38 => (r37 = 0 → GoI E mt_235 22 [some (.ref 81), some (.int x1), some (.int x2), some (.int (x3 + (i3 1))), none, none] SI38 SJ38 Q) ∧ (¬ r37 = 0 → ((SJ38 81 30) > (((x1).toInt64 * (SJ38 81 33)) * (SJ38 81 31)) → GoI E mt_235 22 [some (.ref 81), some (.int x1), some (.int x2), some (.int (x3 + (i3 1))), none, none] SI38 SJ38 Q) ∧ (¬ (SJ38 81 30) > (((x1).toInt64 * (SJ38 81 33)) * (SJ38 81 31)) → GoI E mt_235 22 [some (.ref 81), some (.int x1), some (.int (x2 ||| ((i3 1) <<< (x3 &&& 31)))), some (.int (x3 + (i3 1))), none, none] SI38 SJ38 Q))))) ∧ (¬ (i3 4) ≤ x3 → DoI E 233 [(.ref 81), (.int (i3 (-1))), (.int (i3 1))] SI SJ (fun r39 SI40 SJ40 => (r39 = 0 → GoI E mt_235 22 [some (.ref 81), some (.int x1), some (.int x2), some (.int (x3 + (i3 1))), none, none] SI40 SJ40 Q) ∧ (¬ r39 = 0 → ((SJ40 81 30) > (((x1).toInt64 * (SJ40 81 33)) * (SJ40 81 31)) → GoI E mt_235 22 [some (.ref 81), some (.int x1), some (.int x2), some (.int (x3 + (i3 1))), none, none] SI40 SJ40 Q) ∧ (¬ (SJ40 81 30) > (((x1).toInt64 * (SJ40 81 33)) * (SJ40 81 31)) → GoI E mt_235 22 [some (.ref 81), some (.int x1), some (.int (x2 ||| ((i3 1) <<< (x3 &&& 31)))), some (.int (x3 + (i3 1))), none, none] SI40 SJ40 Q)))))))) ∧ (x3 = (i3 7) → (x3 ≤ 0 → (x3 ≤ (i3 4) → DoI E 233 [(.ref 81), (.int (i3 1)), (.int (i3 0))] SI SJ (fun r41 SI42 SJ42 => (r41 = 0 → GoI E mt_235 22 [some (.ref 81), some (.int x1), some (.int x2), some (.int (x3 + (i3 1))), none, none] SI42 SJ42 Q) ∧ (¬ r41 = 0 → ((SJ42 81 30) > (((x1).toInt64 * (SJ42 81 33)) * (SJ42 81 31)) → GoI E mt_235 22 [some (.ref 81), some (.int x1), some (.int x2), some (.int (x3 + (i3 1))), none, none] SI42 SJ42 Q) ∧ (¬ (SJ42 81 30) > (((x1).toInt64 * (SJ42 81 33)) * (SJ42 81 31)) → GoI E mt_235 22 [some (.ref 81), some (.int x1), some (.int (x2 ||| ((i3 1) <<< (x3 &&& 31)))), some (.int (x3 + (i3 1))), none, none] SI42 SJ42 Q)))) ∧ (¬ x3 ≤ (i3 4) → DoI E 233 [(.ref 81), (.int (i3 1)), (.int (i3 (-1)))] SI SJ (fun r43 SI44 SJ44 => (r43 = 0 → GoI E mt_235 22 [some (.ref 81), some (.int x1), some (.int x2), some (.int (x3 + (i3 1))), none, none] SI44 SJ44 Q) ∧ (¬ r43 = 0 → ((SJ44 81 30) > (((x1).toInt64 * (SJ44 81 33)) * (SJ44 81 31)) → GoI E mt_235 22 [some (.ref 81), some (.int x1), some (.int x2), some (.int (x3 + (i3 1))), none, none] SI44 SJ44 Q) ∧ (¬ (SJ44 81 30) > (((x1).toInt64 * (SJ44 81 33)) * (SJ44 81 31)) → GoI E mt_235 22 [some (.ref 81), some (.int x1), some (.int (x2 ||| ((i3 1) <<< (x3 &&& 31)))), some (.int (x3 + (i3 1))), none, none] SI44 SJ44 Q))))) ∧ (¬ x3 ≤ 0 → ((i3 4) ≤ x3 → (x3 ≤ (i3 4) → DoI E 233 [(.ref 81), (.int (i3 1)), (.int (i3 0))] SI SJ (fun r45 SI46 SJ46 => (r45 = 0 → GoI E mt_235 22 [some (.ref 81), some (.int x1), some (.int x2), some (.int (x3 + (i3 1))), none, none] SI46 SJ46 Q) ∧ (¬ r45 = 0 → ((SJ46 81 30) > (((x1).toInt64 * (SJ46 81 33)) * (SJ46 81 31)) → GoI E mt_235 22 [some (.ref 81), some (.int x1), some (.int x2), some (.int (x3 + (i3 1))), none, none] SI46 SJ46 Q) ∧ (¬ (SJ46 81 30) > (((x1).toInt64 * (SJ46 81 33)) * (SJ46 81 31)) → GoI E mt_235 22 [some (.ref 81), some (.int x1), some (.int (x2 ||| ((i3 1) <<< (x3 &&& 31)))), some (.int (x3 + (i3 1))), none, none] SI46 SJ46 Q)))) ∧ (¬ x3 ≤ (i3 4) → DoI E 233 [(.ref 81), (.int (i3 1)), (.int (i3 (-1)))] SI SJ (fun r47 SI48 SJ48 => (r47 = 0 → GoI E mt_235 22 [some (.ref 81), some (.int x1), some (.int x2), some (.int (x3 + (i3 1))), none, none] SI48 SJ48 Q) ∧ (¬ r47 = 0 → ((SJ48 81 30) > (((x1).toInt64 * (SJ48 81 33)) * (SJ48 81 31)) → GoI E mt_235 22 [some (.ref 81), some (.int x1), some (.int x2), some (.int (x3 + (i3 1))), none, none] SI48 SJ48 Q) ∧ (¬ (SJ48 81 30) > (((x1).toInt64 * (SJ48 81 33)) * (SJ48 81 31)) → GoI E mt_235 22 [some (.ref 81), some (.int x1), some (.int (x2 ||| ((i3 1) <<< (x3 &&& 31)))), some (.int (x3 + (i3 1))), none, none] SI48 SJ48 Q))))) ∧ (¬ (i3 4) ≤ x3 → DoI E 233 [(.ref 81), (.int (i3 1)), (.int (i3 1))] SI SJ (fun r49 SI50 SJ50 => (r49 = 0 → GoI E mt_235 22 [some (.ref 81), some (.int x1), some (.int x2), some (.int (x3 + (i3 1))), none, none] SI50 SJ50 Q) ∧ (¬ r49 = 0 → ((SJ50 81 30) > (((x1).toInt64 * (SJ50 81 33)) * (SJ50 81 31)) → GoI E mt_235 22 [some (.ref 81), some (.int x1), some (.int x2), some (.int (x3 + (i3 1))), none, none] SI50 SJ50 Q) ∧ (¬ (SJ50 81 30) > (((x1).toInt64 * (SJ50 81 33)) * (SJ50 81 31)) → GoI E mt_235 22 [some (.ref 81), some (.int x1), some (.int (x2 ||| ((i3 1) <<< (x3 &&& 31)))), some (.int (x3 + (i3 1))), none, none] SI50 SJ50 Q))))))))) : GoI E mt_235 22 [some (.ref 81), some (.int x1), some (.int x2), some (.int x3), none, none] SI SJ Q := by
  refine gj_goq gj_clT ok_235 [9, 18, 22, 94] ?_
  show ((i3 8) ≤ x3 → gj_Goes E om0 mt_235 129 [some (.ref 81), some (.int x1), some (.int x2), some (.int x3), none, none] [] SI SJ (QI Q)) ∧ (¬ (i3 8) ≤ x3 → (x3 < (i3 2) → gj_Goes E om0 mt_235 39 [some (.ref 81), some (.int x1), some (.int x2), some (.int x3), none, none] [] SI SJ (QI Q)) ∧ (¬ x3 < (i3 2) → (¬ x3 = (i3 7) → gj_Goes E om0 mt_235 43 [some (.ref 81), some (.int x1), some (.int x2), some (.int x3), none, none] [] SI SJ (QI Q)) ∧ (x3 = (i3 7) → gj_Goes E om0 mt_235 59 [some (.ref 81), some (.int x1), some (.int x2), some (.int x3), none, none] [(.int (i3 1))] SI SJ (QI Q))))
  refine ⟨fun c1 => ?_, fun c1 => ?_⟩
  · refine gj_goq gj_clT ok_235 [9, 18, 22, 94] ?_
    show QI Q (some (.int x2)) SI SJ
    exact ⟨_, rfl, (h.1 c1)⟩
  · refine ⟨fun c2 => ?_, fun c2 => ?_⟩
    · refine gj_goq gj_clT ok_235 [9, 18, 22, 94] ?_
      show gj_Goes E om0 mt_235 59 [some (.ref 81), some (.int x1), some (.int x2), some (.int x3), none, none] [(.int (i3 1))] SI SJ (QI Q)
      refine gj_goq gj_clT ok_235 [9, 18, 22, 94] ?_
      show (x3 ≤ 0 → gj_Goes E om0 mt_235 74 [some (.ref 81), some (.int x1), some (.int x2), some (.int x3), some (.int (i3 1)), none] [] SI SJ (QI Q)) ∧ (¬ x3 ≤ 0 → ((i3 4) ≤ x3 → gj_Goes E om0 mt_235 74 [some (.ref 81), some (.int x1), some (.int x2), some (.int x3), some (.int (i3 1)), none] [] SI SJ (QI Q)) ∧ (¬ (i3 4) ≤ x3 → gj_Goes E om0 mt_235 84 [some (.ref 81), some (.int x1), some (.int x2), some (.int x3), some (.int (i3 1)), none] [(.int (i3 1))] SI SJ (QI Q)))
      refine ⟨fun c3 => ?_, fun c3 => ?_⟩
      · refine gj_goq gj_clT ok_235 [9, 18, 22, 94] ?_
        show (x3 ≤ (i3 4) → gj_Goes E om0 mt_235 83 [some (.ref 81), some (.int x1), some (.int x2), some (.int x3), some (.int (i3 1)), none] [] SI SJ (QI Q)) ∧ (¬ x3 ≤ (i3 4) → gj_Goes E om0 mt_235 84 [some (.ref 81), some (.int x1), some (.int x2), some (.int x3), some (.int (i3 1)), none] [(.int (i3 (-1)))] SI SJ (QI Q))
        refine ⟨fun c4 => ?_, fun c4 => ?_⟩
        · refine gj_goq gj_clT ok_235 [9, 18, 22, 94] ?_
          show gj_Do E om0 (gj_mt 233) [(.ref 81), (.int (i3 1)), (.int (i3 0))] SI SJ _
          refine gj_Do.mono ((((h.2 c1).1 c2).1 c3).1 c4) (fun v_ SI2 SJ2 h_ => ?_)
          obtain ⟨r1, rfl, q5⟩ := h_
          show gj_Goes E om0 mt_235 94 [some (.ref 81), some (.int x1), some (.int x2), some (.int x3), some (.int (i3 1)), some (.int (i3 0))] [(.int r1)] SI2 SJ2 (QI Q)
          refine gj_goq gj_clT ok_235 [9, 18, 22, 94] ?_
          show (r1 = 0 → gj_Goes E om0 mt_235 123 [some (.ref 81), some (.int x1), some (.int x2), some (.int x3), some (.int (i3 1)), some (.int (i3 0))] [] SI2 SJ2 (QI Q)) ∧ (¬ r1 = 0 → (0 < (lg_cmp (SJ2 81 30) (((x1).toInt64 * (SJ2 81 33)) * (SJ2 81 31))) → gj_Goes E om0 mt_235 123 [some (.ref 81), some (.int x1), some (.int x2), some (.int x3), some (.int (i3 1)), some (.int (i3 0))] [] SI2 SJ2 (QI Q)) ∧ (¬ 0 < (lg_cmp (SJ2 81 30) (((x1).toInt64 * (SJ2 81 33)) * (SJ2 81 31))) → gj_Goes E om0 mt_235 22 [some (.ref 81), some (.int x1), some (.int (x2 ||| ((i3 1) <<< (x3 &&& 31)))), some (.int (x3 + (i3 1))), some (.int (i3 1)), some (.int (i3 0))] [] SI2 SJ2 (QI Q)))
          refine ⟨fun c6 => ?_, fun c6 => ?_⟩
          · refine gj_goq gj_clT ok_235 [9, 18, 22, 94] ?_
            show gj_Goes E om0 mt_235 22 [some (.ref 81), some (.int x1), some (.int x2), some (.int (x3 + (i3 1))), some (.int (i3 1)), some (.int (i3 0))] [] SI2 SJ2 (QI Q)
            exact gj_fh (q5.1 c6) (And.intro (Or.inr rfl) (And.intro (Or.inr rfl) (And.intro (Or.inr rfl) (And.intro (Or.inr rfl) (And.intro (Or.inl rfl) (And.intro (Or.inl rfl) trivial))))))
          · refine ⟨fun c7 => ?_, fun c7 => ?_⟩
            · refine gj_goq gj_clT ok_235 [9, 18, 22, 94] ?_
              show gj_Goes E om0 mt_235 22 [some (.ref 81), some (.int x1), some (.int x2), some (.int (x3 + (i3 1))), some (.int (i3 1)), some (.int (i3 0))] [] SI2 SJ2 (QI Q)
              exact gj_fh ((q5.2 c6).1 (lgc_gt.mp c7)) (And.intro (Or.inr rfl) (And.intro (Or.inr rfl) (And.intro (Or.inr rfl) (And.intro (Or.inr rfl) (And.intro (Or.inl rfl) (And.intro (Or.inl rfl) trivial))))))
            · exact gj_fh ((q5.2 c6).2 (fun z_ => c7 (lgc_gt.mpr z_))) (And.intro (Or.inr rfl) (And.intro (Or.inr rfl) (And.intro (Or.inr rfl) (And.intro (Or.inr rfl) (And.intro (Or.inl rfl) (And.intro (Or.inl rfl) trivial))))))
        · refine gj_goq gj_clT ok_235 [9, 18, 22, 94] ?_
          show gj_Do E om0 (gj_mt 233) [(.ref 81), (.int (i3 1)), (.int (i3 (-1)))] SI SJ _
          refine gj_Do.mono ((((h.2 c1).1 c2).1 c3).2 c4) (fun v_ SI4 SJ4 h_ => ?_)
          obtain ⟨r3, rfl, q8⟩ := h_
          show gj_Goes E om0 mt_235 94 [some (.ref 81), some (.int x1), some (.int x2), some (.int x3), some (.int (i3 1)), some (.int (i3 (-1)))] [(.int r3)] SI4 SJ4 (QI Q)
          refine gj_goq gj_clT ok_235 [9, 18, 22, 94] ?_
          show (r3 = 0 → gj_Goes E om0 mt_235 123 [some (.ref 81), some (.int x1), some (.int x2), some (.int x3), some (.int (i3 1)), some (.int (i3 (-1)))] [] SI4 SJ4 (QI Q)) ∧ (¬ r3 = 0 → (0 < (lg_cmp (SJ4 81 30) (((x1).toInt64 * (SJ4 81 33)) * (SJ4 81 31))) → gj_Goes E om0 mt_235 123 [some (.ref 81), some (.int x1), some (.int x2), some (.int x3), some (.int (i3 1)), some (.int (i3 (-1)))] [] SI4 SJ4 (QI Q)) ∧ (¬ 0 < (lg_cmp (SJ4 81 30) (((x1).toInt64 * (SJ4 81 33)) * (SJ4 81 31))) → gj_Goes E om0 mt_235 22 [some (.ref 81), some (.int x1), some (.int (x2 ||| ((i3 1) <<< (x3 &&& 31)))), some (.int (x3 + (i3 1))), some (.int (i3 1)), some (.int (i3 (-1)))] [] SI4 SJ4 (QI Q)))
          refine ⟨fun c9 => ?_, fun c9 => ?_⟩
          · refine gj_goq gj_clT ok_235 [9, 18, 22, 94] ?_
            show gj_Goes E om0 mt_235 22 [some (.ref 81), some (.int x1), some (.int x2), some (.int (x3 + (i3 1))), some (.int (i3 1)), some (.int (i3 (-1)))] [] SI4 SJ4 (QI Q)
            exact gj_fh (q8.1 c9) (And.intro (Or.inr rfl) (And.intro (Or.inr rfl) (And.intro (Or.inr rfl) (And.intro (Or.inr rfl) (And.intro (Or.inl rfl) (And.intro (Or.inl rfl) trivial))))))
          · refine ⟨fun c10 => ?_, fun c10 => ?_⟩
            · refine gj_goq gj_clT ok_235 [9, 18, 22, 94] ?_
              show gj_Goes E om0 mt_235 22 [some (.ref 81), some (.int x1), some (.int x2), some (.int (x3 + (i3 1))), some (.int (i3 1)), some (.int (i3 (-1)))] [] SI4 SJ4 (QI Q)
              exact gj_fh ((q8.2 c9).1 (lgc_gt.mp c10)) (And.intro (Or.inr rfl) (And.intro (Or.inr rfl) (And.intro (Or.inr rfl) (And.intro (Or.inr rfl) (And.intro (Or.inl rfl) (And.intro (Or.inl rfl) trivial))))))
            · exact gj_fh ((q8.2 c9).2 (fun z_ => c10 (lgc_gt.mpr z_))) (And.intro (Or.inr rfl) (And.intro (Or.inr rfl) (And.intro (Or.inr rfl) (And.intro (Or.inr rfl) (And.intro (Or.inl rfl) (And.intro (Or.inl rfl) trivial))))))
      · refine ⟨fun c11 => ?_, fun c11 => ?_⟩
        · refine gj_goq gj_clT ok_235 [9, 18, 22, 94] ?_
          show (x3 ≤ (i3 4) → gj_Goes E om0 mt_235 83 [some (.ref 81), some (.int x1), some (.int x2), some (.int x3), some (.int (i3 1)), none] [] SI SJ (QI Q)) ∧ (¬ x3 ≤ (i3 4) → gj_Goes E om0 mt_235 84 [some (.ref 81), some (.int x1), some (.int x2), some (.int x3), some (.int (i3 1)), none] [(.int (i3 (-1)))] SI SJ (QI Q))
          refine ⟨fun c12 => ?_, fun c12 => ?_⟩
          · refine gj_goq gj_clT ok_235 [9, 18, 22, 94] ?_
            show gj_Do E om0 (gj_mt 233) [(.ref 81), (.int (i3 1)), (.int (i3 0))] SI SJ _
            refine gj_Do.mono (((((h.2 c1).1 c2).2 c3).1 c11).1 c12) (fun v_ SI6 SJ6 h_ => ?_)
            obtain ⟨r5, rfl, q13⟩ := h_
            show gj_Goes E om0 mt_235 94 [some (.ref 81), some (.int x1), some (.int x2), some (.int x3), some (.int (i3 1)), some (.int (i3 0))] [(.int r5)] SI6 SJ6 (QI Q)
            refine gj_goq gj_clT ok_235 [9, 18, 22, 94] ?_
            show (r5 = 0 → gj_Goes E om0 mt_235 123 [some (.ref 81), some (.int x1), some (.int x2), some (.int x3), some (.int (i3 1)), some (.int (i3 0))] [] SI6 SJ6 (QI Q)) ∧ (¬ r5 = 0 → (0 < (lg_cmp (SJ6 81 30) (((x1).toInt64 * (SJ6 81 33)) * (SJ6 81 31))) → gj_Goes E om0 mt_235 123 [some (.ref 81), some (.int x1), some (.int x2), some (.int x3), some (.int (i3 1)), some (.int (i3 0))] [] SI6 SJ6 (QI Q)) ∧ (¬ 0 < (lg_cmp (SJ6 81 30) (((x1).toInt64 * (SJ6 81 33)) * (SJ6 81 31))) → gj_Goes E om0 mt_235 22 [some (.ref 81), some (.int x1), some (.int (x2 ||| ((i3 1) <<< (x3 &&& 31)))), some (.int (x3 + (i3 1))), some (.int (i3 1)), some (.int (i3 0))] [] SI6 SJ6 (QI Q)))
            refine ⟨fun c14 => ?_, fun c14 => ?_⟩
            · refine gj_goq gj_clT ok_235 [9, 18, 22, 94] ?_
              show gj_Goes E om0 mt_235 22 [some (.ref 81), some (.int x1), some (.int x2), some (.int (x3 + (i3 1))), some (.int (i3 1)), some (.int (i3 0))] [] SI6 SJ6 (QI Q)
              exact gj_fh (q13.1 c14) (And.intro (Or.inr rfl) (And.intro (Or.inr rfl) (And.intro (Or.inr rfl) (And.intro (Or.inr rfl) (And.intro (Or.inl rfl) (And.intro (Or.inl rfl) trivial))))))
            · refine ⟨fun c15 => ?_, fun c15 => ?_⟩
              · refine gj_goq gj_clT ok_235 [9, 18, 22, 94] ?_
                show gj_Goes E om0 mt_235 22 [some (.ref 81), some (.int x1), some (.int x2), some (.int (x3 + (i3 1))), some (.int (i3 1)), some (.int (i3 0))] [] SI6 SJ6 (QI Q)
                exact gj_fh ((q13.2 c14).1 (lgc_gt.mp c15)) (And.intro (Or.inr rfl) (And.intro (Or.inr rfl) (And.intro (Or.inr rfl) (And.intro (Or.inr rfl) (And.intro (Or.inl rfl) (And.intro (Or.inl rfl) trivial))))))
              · exact gj_fh ((q13.2 c14).2 (fun z_ => c15 (lgc_gt.mpr z_))) (And.intro (Or.inr rfl) (And.intro (Or.inr rfl) (And.intro (Or.inr rfl) (And.intro (Or.inr rfl) (And.intro (Or.inl rfl) (And.intro (Or.inl rfl) trivial))))))
          · refine gj_goq gj_clT ok_235 [9, 18, 22, 94] ?_
            show gj_Do E om0 (gj_mt 233) [(.ref 81), (.int (i3 1)), (.int (i3 (-1)))] SI SJ _
            refine gj_Do.mono (((((h.2 c1).1 c2).2 c3).1 c11).2 c12) (fun v_ SI8 SJ8 h_ => ?_)
            obtain ⟨r7, rfl, q16⟩ := h_
            show gj_Goes E om0 mt_235 94 [some (.ref 81), some (.int x1), some (.int x2), some (.int x3), some (.int (i3 1)), some (.int (i3 (-1)))] [(.int r7)] SI8 SJ8 (QI Q)
            refine gj_goq gj_clT ok_235 [9, 18, 22, 94] ?_
            show (r7 = 0 → gj_Goes E om0 mt_235 123 [some (.ref 81), some (.int x1), some (.int x2), some (.int x3), some (.int (i3 1)), some (.int (i3 (-1)))] [] SI8 SJ8 (QI Q)) ∧ (¬ r7 = 0 → (0 < (lg_cmp (SJ8 81 30) (((x1).toInt64 * (SJ8 81 33)) * (SJ8 81 31))) → gj_Goes E om0 mt_235 123 [some (.ref 81), some (.int x1), some (.int x2), some (.int x3), some (.int (i3 1)), some (.int (i3 (-1)))] [] SI8 SJ8 (QI Q)) ∧ (¬ 0 < (lg_cmp (SJ8 81 30) (((x1).toInt64 * (SJ8 81 33)) * (SJ8 81 31))) → gj_Goes E om0 mt_235 22 [some (.ref 81), some (.int x1), some (.int (x2 ||| ((i3 1) <<< (x3 &&& 31)))), some (.int (x3 + (i3 1))), some (.int (i3 1)), some (.int (i3 (-1)))] [] SI8 SJ8 (QI Q)))
            refine ⟨fun c17 => ?_, fun c17 => ?_⟩
            · refine gj_goq gj_clT ok_235 [9, 18, 22, 94] ?_
              show gj_Goes E om0 mt_235 22 [some (.ref 81), some (.int x1), some (.int x2), some (.int (x3 + (i3 1))), some (.int (i3 1)), some (.int (i3 (-1)))] [] SI8 SJ8 (QI Q)
              exact gj_fh (q16.1 c17) (And.intro (Or.inr rfl) (And.intro (Or.inr rfl) (And.intro (Or.inr rfl) (And.intro (Or.inr rfl) (And.intro (Or.inl rfl) (And.intro (Or.inl rfl) trivial))))))
            · refine ⟨fun c18 => ?_, fun c18 => ?_⟩
              · refine gj_goq gj_clT ok_235 [9, 18, 22, 94] ?_
                show gj_Goes E om0 mt_235 22 [some (.ref 81), some (.int x1), some (.int x2), some (.int (x3 + (i3 1))), some (.int (i3 1)), some (.int (i3 (-1)))] [] SI8 SJ8 (QI Q)
                exact gj_fh ((q16.2 c17).1 (lgc_gt.mp c18)) (And.intro (Or.inr rfl) (And.intro (Or.inr rfl) (And.intro (Or.inr rfl) (And.intro (Or.inr rfl) (And.intro (Or.inl rfl) (And.intro (Or.inl rfl) trivial))))))
              · exact gj_fh ((q16.2 c17).2 (fun z_ => c18 (lgc_gt.mpr z_))) (And.intro (Or.inr rfl) (And.intro (Or.inr rfl) (And.intro (Or.inr rfl) (And.intro (Or.inr rfl) (And.intro (Or.inl rfl) (And.intro (Or.inl rfl) trivial))))))
        · refine gj_goq gj_clT ok_235 [9, 18, 22, 94] ?_
          show gj_Do E om0 (gj_mt 233) [(.ref 81), (.int (i3 1)), (.int (i3 1))] SI SJ _
          refine gj_Do.mono ((((h.2 c1).1 c2).2 c3).2 c11) (fun v_ SI10 SJ10 h_ => ?_)
          obtain ⟨r9, rfl, q19⟩ := h_
          show gj_Goes E om0 mt_235 94 [some (.ref 81), some (.int x1), some (.int x2), some (.int x3), some (.int (i3 1)), some (.int (i3 1))] [(.int r9)] SI10 SJ10 (QI Q)
          refine gj_goq gj_clT ok_235 [9, 18, 22, 94] ?_
          show (r9 = 0 → gj_Goes E om0 mt_235 123 [some (.ref 81), some (.int x1), some (.int x2), some (.int x3), some (.int (i3 1)), some (.int (i3 1))] [] SI10 SJ10 (QI Q)) ∧ (¬ r9 = 0 → (0 < (lg_cmp (SJ10 81 30) (((x1).toInt64 * (SJ10 81 33)) * (SJ10 81 31))) → gj_Goes E om0 mt_235 123 [some (.ref 81), some (.int x1), some (.int x2), some (.int x3), some (.int (i3 1)), some (.int (i3 1))] [] SI10 SJ10 (QI Q)) ∧ (¬ 0 < (lg_cmp (SJ10 81 30) (((x1).toInt64 * (SJ10 81 33)) * (SJ10 81 31))) → gj_Goes E om0 mt_235 22 [some (.ref 81), some (.int x1), some (.int (x2 ||| ((i3 1) <<< (x3 &&& 31)))), some (.int (x3 + (i3 1))), some (.int (i3 1)), some (.int (i3 1))] [] SI10 SJ10 (QI Q)))
          refine ⟨fun c20 => ?_, fun c20 => ?_⟩
          · refine gj_goq gj_clT ok_235 [9, 18, 22, 94] ?_
            show gj_Goes E om0 mt_235 22 [some (.ref 81), some (.int x1), some (.int x2), some (.int (x3 + (i3 1))), some (.int (i3 1)), some (.int (i3 1))] [] SI10 SJ10 (QI Q)
            exact gj_fh (q19.1 c20) (And.intro (Or.inr rfl) (And.intro (Or.inr rfl) (And.intro (Or.inr rfl) (And.intro (Or.inr rfl) (And.intro (Or.inl rfl) (And.intro (Or.inl rfl) trivial))))))
          · refine ⟨fun c21 => ?_, fun c21 => ?_⟩
            · refine gj_goq gj_clT ok_235 [9, 18, 22, 94] ?_
              show gj_Goes E om0 mt_235 22 [some (.ref 81), some (.int x1), some (.int x2), some (.int (x3 + (i3 1))), some (.int (i3 1)), some (.int (i3 1))] [] SI10 SJ10 (QI Q)
              exact gj_fh ((q19.2 c20).1 (lgc_gt.mp c21)) (And.intro (Or.inr rfl) (And.intro (Or.inr rfl) (And.intro (Or.inr rfl) (And.intro (Or.inr rfl) (And.intro (Or.inl rfl) (And.intro (Or.inl rfl) trivial))))))
            · exact gj_fh ((q19.2 c20).2 (fun z_ => c21 (lgc_gt.mpr z_))) (And.intro (Or.inr rfl) (And.intro (Or.inr rfl) (And.intro (Or.inr rfl) (And.intro (Or.inr rfl) (And.intro (Or.inl rfl) (And.intro (Or.inl rfl) trivial))))))
    · refine ⟨fun c22 => ?_, fun c22 => ?_⟩
      · refine gj_goq gj_clT ok_235 [9, 18, 22, 94] ?_
        show (x3 ≤ (i3 2) → gj_Goes E om0 mt_235 58 [some (.ref 81), some (.int x1), some (.int x2), some (.int x3), none, none] [] SI SJ (QI Q)) ∧ (¬ x3 ≤ (i3 2) → ((i3 6) ≤ x3 → gj_Goes E om0 mt_235 58 [some (.ref 81), some (.int x1), some (.int x2), some (.int x3), none, none] [] SI SJ (QI Q)) ∧ (¬ (i3 6) ≤ x3 → gj_Goes E om0 mt_235 59 [some (.ref 81), some (.int x1), some (.int x2), some (.int x3), none, none] [(.int (i3 (-1)))] SI SJ (QI Q)))
        refine ⟨fun c23 => ?_, fun c23 => ?_⟩
        · refine gj_goq gj_clT ok_235 [9, 18, 22, 94] ?_
          show (x3 ≤ 0 → gj_Goes E om0 mt_235 74 [some (.ref 81), some (.int x1), some (.int x2), some (.int x3), some (.int (i3 0)), none] [] SI SJ (QI Q)) ∧ (¬ x3 ≤ 0 → ((i3 4) ≤ x3 → gj_Goes E om0 mt_235 74 [some (.ref 81), some (.int x1), some (.int x2), some (.int x3), some (.int (i3 0)), none] [] SI SJ (QI Q)) ∧ (¬ (i3 4) ≤ x3 → gj_Goes E om0 mt_235 84 [some (.ref 81), some (.int x1), some (.int x2), some (.int x3), some (.int (i3 0)), none] [(.int (i3 1))] SI SJ (QI Q)))
          refine ⟨fun c24 => ?_, fun c24 => ?_⟩
          · refine gj_goq gj_clT ok_235 [9, 18, 22, 94] ?_
            show (x3 ≤ (i3 4) → gj_Goes E om0 mt_235 83 [some (.ref 81), some (.int x1), some (.int x2), some (.int x3), some (.int (i3 0)), none] [] SI SJ (QI Q)) ∧ (¬ x3 ≤ (i3 4) → gj_Goes E om0 mt_235 84 [some (.ref 81), some (.int x1), some (.int x2), some (.int x3), some (.int (i3 0)), none] [(.int (i3 (-1)))] SI SJ (QI Q))
            refine ⟨fun c25 => ?_, fun c25 => ?_⟩
            · refine gj_goq gj_clT ok_235 [9, 18, 22, 94] ?_
              show gj_Do E om0 (gj_mt 233) [(.ref 81), (.int (i3 0)), (.int (i3 0))] SI SJ _
              refine gj_Do.mono ((((((h.2 c1).2 c2).1 c22).1 c23).1 c24).1 c25) (fun v_ SI12 SJ12 h_ => ?_)
              obtain ⟨r11, rfl, q26⟩ := h_
              show gj_Goes E om0 mt_235 94 [some (.ref 81), some (.int x1), some (.int x2), some (.int x3), some (.int (i3 0)), some (.int (i3 0))] [(.int r11)] SI12 SJ12 (QI Q)
              refine gj_goq gj_clT ok_235 [9, 18, 22, 94] ?_
              show (r11 = 0 → gj_Goes E om0 mt_235 123 [some (.ref 81), some (.int x1), some (.int x2), some (.int x3), some (.int (i3 0)), some (.int (i3 0))] [] SI12 SJ12 (QI Q)) ∧ (¬ r11 = 0 → (0 < (lg_cmp (SJ12 81 30) (((x1).toInt64 * (SJ12 81 33)) * (SJ12 81 31))) → gj_Goes E om0 mt_235 123 [some (.ref 81), some (.int x1), some (.int x2), some (.int x3), some (.int (i3 0)), some (.int (i3 0))] [] SI12 SJ12 (QI Q)) ∧ (¬ 0 < (lg_cmp (SJ12 81 30) (((x1).toInt64 * (SJ12 81 33)) * (SJ12 81 31))) → gj_Goes E om0 mt_235 22 [some (.ref 81), some (.int x1), some (.int (x2 ||| ((i3 1) <<< (x3 &&& 31)))), some (.int (x3 + (i3 1))), some (.int (i3 0)), some (.int (i3 0))] [] SI12 SJ12 (QI Q)))
              refine ⟨fun c27 => ?_, fun c27 => ?_⟩
              · refine gj_goq gj_clT ok_235 [9, 18, 22, 94] ?_
                show gj_Goes E om0 mt_235 22 [some (.ref 81), some (.int x1), some (.int x2), some (.int (x3 + (i3 1))), some (.int (i3 0)), some (.int (i3 0))] [] SI12 SJ12 (QI Q)
                exact gj_fh (q26.1 c27) (And.intro (Or.inr rfl) (And.intro (Or.inr rfl) (And.intro (Or.inr rfl) (And.intro (Or.inr rfl) (And.intro (Or.inl rfl) (And.intro (Or.inl rfl) trivial))))))
              · refine ⟨fun c28 => ?_, fun c28 => ?_⟩
                · refine gj_goq gj_clT ok_235 [9, 18, 22, 94] ?_
                  show gj_Goes E om0 mt_235 22 [some (.ref 81), some (.int x1), some (.int x2), some (.int (x3 + (i3 1))), some (.int (i3 0)), some (.int (i3 0))] [] SI12 SJ12 (QI Q)
                  exact gj_fh ((q26.2 c27).1 (lgc_gt.mp c28)) (And.intro (Or.inr rfl) (And.intro (Or.inr rfl) (And.intro (Or.inr rfl) (And.intro (Or.inr rfl) (And.intro (Or.inl rfl) (And.intro (Or.inl rfl) trivial))))))
                · exact gj_fh ((q26.2 c27).2 (fun z_ => c28 (lgc_gt.mpr z_))) (And.intro (Or.inr rfl) (And.intro (Or.inr rfl) (And.intro (Or.inr rfl) (And.intro (Or.inr rfl) (And.intro (Or.inl rfl) (And.intro (Or.inl rfl) trivial))))))
            · refine gj_goq gj_clT ok_235 [9, 18, 22, 94] ?_
              show gj_Do E om0 (gj_mt 233) [(.ref 81), (.int (i3 0)), (.int (i3 (-1)))] SI SJ _
              refine gj_Do.mono ((((((h.2 c1).2 c2).1 c22).1 c23).1 c24).2 c25) (fun v_ SI14 SJ14 h_ => ?_)
              obtain ⟨r13, rfl, q29⟩ := h_
              show gj_Goes E om0 mt_235 94 [some (.ref 81), some (.int x1), some (.int x2), some (.int x3), some (.int (i3 0)), some (.int (i3 (-1)))] [(.int r13)] SI14 SJ14 (QI Q)
              refine gj_goq gj_clT ok_235 [9, 18, 22, 94] ?_
              show (r13 = 0 → gj_Goes E om0 mt_235 123 [some (.ref 81), some (.int x1), some (.int x2), some (.int x3), some (.int (i3 0)), some (.int (i3 (-1)))] [] SI14 SJ14 (QI Q)) ∧ (¬ r13 = 0 → (0 < (lg_cmp (SJ14 81 30) (((x1).toInt64 * (SJ14 81 33)) * (SJ14 81 31))) → gj_Goes E om0 mt_235 123 [some (.ref 81), some (.int x1), some (.int x2), some (.int x3), some (.int (i3 0)), some (.int (i3 (-1)))] [] SI14 SJ14 (QI Q)) ∧ (¬ 0 < (lg_cmp (SJ14 81 30) (((x1).toInt64 * (SJ14 81 33)) * (SJ14 81 31))) → gj_Goes E om0 mt_235 22 [some (.ref 81), some (.int x1), some (.int (x2 ||| ((i3 1) <<< (x3 &&& 31)))), some (.int (x3 + (i3 1))), some (.int (i3 0)), some (.int (i3 (-1)))] [] SI14 SJ14 (QI Q)))
              refine ⟨fun c30 => ?_, fun c30 => ?_⟩
              · refine gj_goq gj_clT ok_235 [9, 18, 22, 94] ?_
                show gj_Goes E om0 mt_235 22 [some (.ref 81), some (.int x1), some (.int x2), some (.int (x3 + (i3 1))), some (.int (i3 0)), some (.int (i3 (-1)))] [] SI14 SJ14 (QI Q)
                exact gj_fh (q29.1 c30) (And.intro (Or.inr rfl) (And.intro (Or.inr rfl) (And.intro (Or.inr rfl) (And.intro (Or.inr rfl) (And.intro (Or.inl rfl) (And.intro (Or.inl rfl) trivial))))))
              · refine ⟨fun c31 => ?_, fun c31 => ?_⟩
                · refine gj_goq gj_clT ok_235 [9, 18, 22, 94] ?_
                  show gj_Goes E om0 mt_235 22 [some (.ref 81), some (.int x1), some (.int x2), some (.int (x3 + (i3 1))), some (.int (i3 0)), some (.int (i3 (-1)))] [] SI14 SJ14 (QI Q)
                  exact gj_fh ((q29.2 c30).1 (lgc_gt.mp c31)) (And.intro (Or.inr rfl) (And.intro (Or.inr rfl) (And.intro (Or.inr rfl) (And.intro (Or.inr rfl) (And.intro (Or.inl rfl) (And.intro (Or.inl rfl) trivial))))))
                · exact gj_fh ((q29.2 c30).2 (fun z_ => c31 (lgc_gt.mpr z_))) (And.intro (Or.inr rfl) (And.intro (Or.inr rfl) (And.intro (Or.inr rfl) (And.intro (Or.inr rfl) (And.intro (Or.inl rfl) (And.intro (Or.inl rfl) trivial))))))
          · refine ⟨fun c32 => ?_, fun c32 => ?_⟩
            · refine gj_goq gj_clT ok_235 [9, 18, 22, 94] ?_
              show (x3 ≤ (i3 4) → gj_Goes E om0 mt_235 83 [some (.ref 81), some (.int x1), some (.int x2), some (.int x3), some (.int (i3 0)), none] [] SI SJ (QI Q)) ∧ (¬ x3 ≤ (i3 4) → gj_Goes E om0 mt_235 84 [some (.ref 81), some (.int x1), some (.int x2), some (.int x3), some (.int (i3 0)), none] [(.int (i3 (-1)))] SI SJ (QI Q))
              refine ⟨fun c33 => ?_, fun c33 => ?_⟩
              · refine gj_goq gj_clT ok_235 [9, 18, 22, 94] ?_
                show gj_Do E om0 (gj_mt 233) [(.ref 81), (.int (i3 0)), (.int (i3 0))] SI SJ _
                refine gj_Do.mono (((((((h.2 c1).2 c2).1 c22).1 c23).2 c24).1 c32).1 c33) (fun v_ SI16 SJ16 h_ => ?_)
                obtain ⟨r15, rfl, q34⟩ := h_
                show gj_Goes E om0 mt_235 94 [some (.ref 81), some (.int x1), some (.int x2), some (.int x3), some (.int (i3 0)), some (.int (i3 0))] [(.int r15)] SI16 SJ16 (QI Q)
                refine gj_goq gj_clT ok_235 [9, 18, 22, 94] ?_
                show (r15 = 0 → gj_Goes E om0 mt_235 123 [some (.ref 81), some (.int x1), some (.int x2), some (.int x3), some (.int (i3 0)), some (.int (i3 0))] [] SI16 SJ16 (QI Q)) ∧ (¬ r15 = 0 → (0 < (lg_cmp (SJ16 81 30) (((x1).toInt64 * (SJ16 81 33)) * (SJ16 81 31))) → gj_Goes E om0 mt_235 123 [some (.ref 81), some (.int x1), some (.int x2), some (.int x3), some (.int (i3 0)), some (.int (i3 0))] [] SI16 SJ16 (QI Q)) ∧ (¬ 0 < (lg_cmp (SJ16 81 30) (((x1).toInt64 * (SJ16 81 33)) * (SJ16 81 31))) → gj_Goes E om0 mt_235 22 [some (.ref 81), some (.int x1), some (.int (x2 ||| ((i3 1) <<< (x3 &&& 31)))), some (.int (x3 + (i3 1))), some (.int (i3 0)), some (.int (i3 0))] [] SI16 SJ16 (QI Q)))
                refine ⟨fun c35 => ?_, fun c35 => ?_⟩
                · refine gj_goq gj_clT ok_235 [9, 18, 22, 94] ?_
                  show gj_Goes E om0 mt_235 22 [some (.ref 81), some (.int x1), some (.int x2), some (.int (x3 + (i3 1))), some (.int (i3 0)), some (.int (i3 0))] [] SI16 SJ16 (QI Q)
                  exact gj_fh (q34.1 c35) (And.intro (Or.inr rfl) (And.intro (Or.inr rfl) (And.intro (Or.inr rfl) (And.intro (Or.inr rfl) (And.intro (Or.inl rfl) (And.intro (Or.inl rfl) trivial))))))
                · refine ⟨fun c36 => ?_, fun c36 => ?_⟩
                  · refine gj_goq gj_clT ok_235 [9, 18, 22, 94] ?_
                    show gj_Goes E om0 mt_235 22 [some (.ref 81), some (.int x1), some (.int x2), some (.int (x3 + (i3 1))), some (.int (i3 0)), some (.int (i3 0))] [] SI16 SJ16 (QI Q)
                    exact gj_fh ((q34.2 c35).1 (lgc_gt.mp c36)) (And.intro (Or.inr rfl) (And.intro (Or.inr rfl) (And.intro (Or.inr rfl) (And.intro (Or.inr rfl) (And.intro (Or.inl rfl) (And.intro (Or.inl rfl) trivial))))))
                  · exact gj_fh ((q34.2 c35).2 (fun z_ => c36 (lgc_gt.mpr z_))) (And.intro (Or.inr rfl) (And.intro (Or.inr rfl) (And.intro (Or.inr rfl) (And.intro (Or.inr rfl) (And.intro (Or.inl rfl) (And.intro (Or.inl rfl) trivial))))))
              · refine gj_goq gj_clT ok_235 [9, 18, 22, 94] ?_
                show gj_Do E om0 (gj_mt 233) [(.ref 81), (.int (i3 0)), (.int (i3 (-1)))] SI SJ _
                refine gj_Do.mono (((((((h.2 c1).2 c2).1 c22).1 c23).2 c24).1 c32).2 c33) (fun v_ SI18 SJ18 h_ => ?_)
                obtain ⟨r17, rfl, q37⟩ := h_
                show gj_Goes E om0 mt_235 94 [some (.ref 81), some (.int x1), some (.int x2), some (.int x3), some (.int (i3 0)), some (.int (i3 (-1)))] [(.int r17)] SI18 SJ18 (QI Q)
                refine gj_goq gj_clT ok_235 [9, 18, 22, 94] ?_
                show (r17 = 0 → gj_Goes E om0 mt_235 123 [some (.ref 81), some (.int x1), some (.int x2), some (.int x3), some (.int (i3 0)), some (.int (i3 (-1)))] [] SI18 SJ18 (QI Q)) ∧ (¬ r17 = 0 → (0 < (lg_cmp (SJ18 81 30) (((x1).toInt64 * (SJ18 81 33)) * (SJ18 81 31))) → gj_Goes E om0 mt_235 123 [some (.ref 81), some (.int x1), some (.int x2), some (.int x3), some (.int (i3 0)), some (.int (i3 (-1)))] [] SI18 SJ18 (QI Q)) ∧ (¬ 0 < (lg_cmp (SJ18 81 30) (((x1).toInt64 * (SJ18 81 33)) * (SJ18 81 31))) → gj_Goes E om0 mt_235 22 [some (.ref 81), some (.int x1), some (.int (x2 ||| ((i3 1) <<< (x3 &&& 31)))), some (.int (x3 + (i3 1))), some (.int (i3 0)), some (.int (i3 (-1)))] [] SI18 SJ18 (QI Q)))
                refine ⟨fun c38 => ?_, fun c38 => ?_⟩
                · refine gj_goq gj_clT ok_235 [9, 18, 22, 94] ?_
                  show gj_Goes E om0 mt_235 22 [some (.ref 81), some (.int x1), some (.int x2), some (.int (x3 + (i3 1))), some (.int (i3 0)), some (.int (i3 (-1)))] [] SI18 SJ18 (QI Q)
                  exact gj_fh (q37.1 c38) (And.intro (Or.inr rfl) (And.intro (Or.inr rfl) (And.intro (Or.inr rfl) (And.intro (Or.inr rfl) (And.intro (Or.inl rfl) (And.intro (Or.inl rfl) trivial))))))
                · refine ⟨fun c39 => ?_, fun c39 => ?_⟩
                  · refine gj_goq gj_clT ok_235 [9, 18, 22, 94] ?_
                    show gj_Goes E om0 mt_235 22 [some (.ref 81), some (.int x1), some (.int x2), some (.int (x3 + (i3 1))), some (.int (i3 0)), some (.int (i3 (-1)))] [] SI18 SJ18 (QI Q)
                    exact gj_fh ((q37.2 c38).1 (lgc_gt.mp c39)) (And.intro (Or.inr rfl) (And.intro (Or.inr rfl) (And.intro (Or.inr rfl) (And.intro (Or.inr rfl) (And.intro (Or.inl rfl) (And.intro (Or.inl rfl) trivial))))))
                  · exact gj_fh ((q37.2 c38).2 (fun z_ => c39 (lgc_gt.mpr z_))) (And.intro (Or.inr rfl) (And.intro (Or.inr rfl) (And.intro (Or.inr rfl) (And.intro (Or.inr rfl) (And.intro (Or.inl rfl) (And.intro (Or.inl rfl) trivial))))))
            · refine gj_goq gj_clT ok_235 [9, 18, 22, 94] ?_
              show gj_Do E om0 (gj_mt 233) [(.ref 81), (.int (i3 0)), (.int (i3 1))] SI SJ _
              refine gj_Do.mono ((((((h.2 c1).2 c2).1 c22).1 c23).2 c24).2 c32) (fun v_ SI20 SJ20 h_ => ?_)
              obtain ⟨r19, rfl, q40⟩ := h_
              show gj_Goes E om0 mt_235 94 [some (.ref 81), some (.int x1), some (.int x2), some (.int x3), some (.int (i3 0)), some (.int (i3 1))] [(.int r19)] SI20 SJ20 (QI Q)
              refine gj_goq gj_clT ok_235 [9, 18, 22, 94] ?_
              show (r19 = 0 → gj_Goes E om0 mt_235 123 [some (.ref 81), some (.int x1), some (.int x2), some (.int x3), some (.int (i3 0)), some (.int (i3 1))] [] SI20 SJ20 (QI Q)) ∧ (¬ r19 = 0 → (0 < (lg_cmp (SJ20 81 30) (((x1).toInt64 * (SJ20 81 33)) * (SJ20 81 31))) → gj_Goes E om0 mt_235 123 [some (.ref 81), some (.int x1), some (.int x2), some (.int x3), some (.int (i3 0)), some (.int (i3 1))] [] SI20 SJ20 (QI Q)) ∧ (¬ 0 < (lg_cmp (SJ20 81 30) (((x1).toInt64 * (SJ20 81 33)) * (SJ20 81 31))) → gj_Goes E om0 mt_235 22 [some (.ref 81), some (.int x1), some (.int (x2 ||| ((i3 1) <<< (x3 &&& 31)))), some (.int (x3 + (i3 1))), some (.int (i3 0)), some (.int (i3 1))] [] SI20 SJ20 (QI Q)))
              refine ⟨fun c41 => ?_, fun c41 => ?_⟩
              · refine gj_goq gj_clT ok_235 [9, 18, 22, 94] ?_
                show gj_Goes E om0 mt_235 22 [some (.ref 81), some (.int x1), some (.int x2), some (.int (x3 + (i3 1))), some (.int (i3 0)), some (.int (i3 1))] [] SI20 SJ20 (QI Q)
                exact gj_fh (q40.1 c41) (And.intro (Or.inr rfl) (And.intro (Or.inr rfl) (And.intro (Or.inr rfl) (And.intro (Or.inr rfl) (And.intro (Or.inl rfl) (And.intro (Or.inl rfl) trivial))))))
              · refine ⟨fun c42 => ?_, fun c42 => ?_⟩
                · refine gj_goq gj_clT ok_235 [9, 18, 22, 94] ?_
                  show gj_Goes E om0 mt_235 22 [some (.ref 81), some (.int x1), some (.int x2), some (.int (x3 + (i3 1))), some (.int (i3 0)), some (.int (i3 1))] [] SI20 SJ20 (QI Q)
                  exact gj_fh ((q40.2 c41).1 (lgc_gt.mp c42)) (And.intro (Or.inr rfl) (And.intro (Or.inr rfl) (And.intro (Or.inr rfl) (And.intro (Or.inr rfl) (And.intro (Or.inl rfl) (And.intro (Or.inl rfl) trivial))))))
                · exact gj_fh ((q40.2 c41).2 (fun z_ => c42 (lgc_gt.mpr z_))) (And.intro (Or.inr rfl) (And.intro (Or.inr rfl) (And.intro (Or.inr rfl) (And.intro (Or.inr rfl) (And.intro (Or.inl rfl) (And.intro (Or.inl rfl) trivial))))))
        · refine ⟨fun c43 => ?_, fun c43 => ?_⟩
          · refine gj_goq gj_clT ok_235 [9, 18, 22, 94] ?_
            show (x3 ≤ 0 → gj_Goes E om0 mt_235 74 [some (.ref 81), some (.int x1), some (.int x2), some (.int x3), some (.int (i3 0)), none] [] SI SJ (QI Q)) ∧ (¬ x3 ≤ 0 → ((i3 4) ≤ x3 → gj_Goes E om0 mt_235 74 [some (.ref 81), some (.int x1), some (.int x2), some (.int x3), some (.int (i3 0)), none] [] SI SJ (QI Q)) ∧ (¬ (i3 4) ≤ x3 → gj_Goes E om0 mt_235 84 [some (.ref 81), some (.int x1), some (.int x2), some (.int x3), some (.int (i3 0)), none] [(.int (i3 1))] SI SJ (QI Q)))
            refine ⟨fun c44 => ?_, fun c44 => ?_⟩
            · refine gj_goq gj_clT ok_235 [9, 18, 22, 94] ?_
              show (x3 ≤ (i3 4) → gj_Goes E om0 mt_235 83 [some (.ref 81), some (.int x1), some (.int x2), some (.int x3), some (.int (i3 0)), none] [] SI SJ (QI Q)) ∧ (¬ x3 ≤ (i3 4) → gj_Goes E om0 mt_235 84 [some (.ref 81), some (.int x1), some (.int x2), some (.int x3), some (.int (i3 0)), none] [(.int (i3 (-1)))] SI SJ (QI Q))
              refine ⟨fun c45 => ?_, fun c45 => ?_⟩
              · refine gj_goq gj_clT ok_235 [9, 18, 22, 94] ?_
                show gj_Do E om0 (gj_mt 233) [(.ref 81), (.int (i3 0)), (.int (i3 0))] SI SJ _
                refine gj_Do.mono (((((((h.2 c1).2 c2).1 c22).2 c23).1 c43).1 c44).1 c45) (fun v_ SI22 SJ22 h_ => ?_)
                obtain ⟨r21, rfl, q46⟩ := h_
                show gj_Goes E om0 mt_235 94 [some (.ref 81), some (.int x1), some (.int x2), some (.int x3), some (.int (i3 0)), some (.int (i3 0))] [(.int r21)] SI22 SJ22 (QI Q)
                refine gj_goq gj_clT ok_235 [9, 18, 22, 94] ?_
                show (r21 = 0 → gj_Goes E om0 mt_235 123 [some (.ref 81), some (.int x1), some (.int x2), some (.int x3), some (.int (i3 0)), some (.int (i3 0))] [] SI22 SJ22 (QI Q)) ∧ (¬ r21 = 0 → (0 < (lg_cmp (SJ22 81 30) (((x1).toInt64 * (SJ22 81 33)) * (SJ22 81 31))) → gj_Goes E om0 mt_235 123 [some (.ref 81), some (.int x1), some (.int x2), some (.int x3), some (.int (i3 0)), some (.int (i3 0))] [] SI22 SJ22 (QI Q)) ∧ (¬ 0 < (lg_cmp (SJ22 81 30) (((x1).toInt64 * (SJ22 81 33)) * (SJ22 81 31))) → gj_Goes E om0 mt_235 22 [some (.ref 81), some (.int x1), some (.int (x2 ||| ((i3 1) <<< (x3 &&& 31)))), some (.int (x3 + (i3 1))), some (.int (i3 0)), some (.int (i3 0))] [] SI22 SJ22 (QI Q)))
                refine ⟨fun c47 => ?_, fun c47 => ?_⟩
                · refine gj_goq gj_clT ok_235 [9, 18, 22, 94] ?_
                  show gj_Goes E om0 mt_235 22 [some (.ref 81), some (.int x1), some (.int x2), some (.int (x3 + (i3 1))), some (.int (i3 0)), some (.int (i3 0))] [] SI22 SJ22 (QI Q)
                  exact gj_fh (q46.1 c47) (And.intro (Or.inr rfl) (And.intro (Or.inr rfl) (And.intro (Or.inr rfl) (And.intro (Or.inr rfl) (And.intro (Or.inl rfl) (And.intro (Or.inl rfl) trivial))))))
                · refine ⟨fun c48 => ?_, fun c48 => ?_⟩
                  · refine gj_goq gj_clT ok_235 [9, 18, 22, 94] ?_
                    show gj_Goes E om0 mt_235 22 [some (.ref 81), some (.int x1), some (.int x2), some (.int (x3 + (i3 1))), some (.int (i3 0)), some (.int (i3 0))] [] SI22 SJ22 (QI Q)
                    exact gj_fh ((q46.2 c47).1 (lgc_gt.mp c48)) (And.intro (Or.inr rfl) (And.intro (Or.inr rfl) (And.intro (Or.inr rfl) (And.intro (Or.inr rfl) (And.intro (Or.inl rfl) (And.intro (Or.inl rfl) trivial))))))
                  · exact gj_fh ((q46.2 c47).2 (fun z_ => c48 (lgc_gt.mpr z_))) (And.intro (Or.inr rfl) (And.intro (Or.inr rfl) (And.intro (Or.inr rfl) (And.intro (Or.inr rfl) (And.intro (Or.inl rfl) (And.intro (Or.inl rfl) trivial))))))
              · refine gj_goq gj_clT ok_235 [9, 18, 22, 94] ?_
                show gj_Do E om0 (gj_mt 233) [(.ref 81), (.int (i3 0)), (.int (i3 (-1)))] SI SJ _
                refine gj_Do.mono (((((((h.2 c1).2 c2).1 c22).2 c23).1 c43).1 c44).2 c45) (fun v_ SI24 SJ24 h_ => ?_)
                obtain ⟨r23, rfl, q49⟩ := h_
                show gj_Goes E om0 mt_235 94 [some (.ref 81), some (.int x1), some (.int x2), some (.int x3), some (.int (i3 0)), some (.int (i3 (-1)))] [(.int r23)] SI24 SJ24 (QI Q)
                refine gj_goq gj_clT ok_235 [9, 18, 22, 94] ?_
                show (r23 = 0 → gj_Goes E om0 mt_235 123 [some (.ref 81), some (.int x1), some (.int x2), some (.int x3), some (.int (i3 0)), some (.int (i3 (-1)))] [] SI24 SJ24 (QI Q)) ∧ (¬ r23 = 0 → (0 < (lg_cmp (SJ24 81 30) (((x1).toInt64 * (SJ24 81 33)) * (SJ24 81 31))) → gj_Goes E om0 mt_235 123 [some (.ref 81), some (.int x1), some (.int x2), some (.int x3), some (.int (i3 0)), some (.int (i3 (-1)))] [] SI24 SJ24 (QI Q)) ∧ (¬ 0 < (lg_cmp (SJ24 81 30) (((x1).toInt64 * (SJ24 81 33)) * (SJ24 81 31))) → gj_Goes E om0 mt_235 22 [some (.ref 81), some (.int x1), some (.int (x2 ||| ((i3 1) <<< (x3 &&& 31)))), some (.int (x3 + (i3 1))), some (.int (i3 0)), some (.int (i3 (-1)))] [] SI24 SJ24 (QI Q)))
                refine ⟨fun c50 => ?_, fun c50 => ?_⟩
                · refine gj_goq gj_clT ok_235 [9, 18, 22, 94] ?_
                  show gj_Goes E om0 mt_235 22 [some (.ref 81), some (.int x1), some (.int x2), some (.int (x3 + (i3 1))), some (.int (i3 0)), some (.int (i3 (-1)))] [] SI24 SJ24 (QI Q)
                  exact gj_fh (q49.1 c50) (And.intro (Or.inr rfl) (And.intro (Or.inr rfl) (And.intro (Or.inr rfl) (And.intro (Or.inr rfl) (And.intro (Or.inl rfl) (And.intro (Or.inl rfl) trivial))))))
                · refine ⟨fun c51 => ?_, fun c51 => ?_⟩
                  · refine gj_goq gj_clT ok_235 [9, 18, 22, 94] ?_
                    show gj_Goes E om0 mt_235 22 [some (.ref 81), some (.int x1), some (.int x2), some (.int (x3 + (i3 1))), some (.int (i3 0)), some (.int (i3 (-1)))] [] SI24 SJ24 (QI Q)
                    exact gj_fh ((q49.2 c50).1 (lgc_gt.mp c51)) (And.intro (Or.inr rfl) (And.intro (Or.inr rfl) (And.intro (Or.inr rfl) (And.intro (Or.inr rfl) (And.intro (Or.inl rfl) (And.intro (Or.inl rfl) trivial))))))
                  · exact gj_fh ((q49.2 c50).2 (fun z_ => c51 (lgc_gt.mpr z_))) (And.intro (Or.inr rfl) (And.intro (Or.inr rfl) (And.intro (Or.inr rfl) (And.intro (Or.inr rfl) (And.intro (Or.inl rfl) (And.intro (Or.inl rfl) trivial))))))
            · refine ⟨fun c52 => ?_, fun c52 => ?_⟩
              · refine gj_goq gj_clT ok_235 [9, 18, 22, 94] ?_
                show (x3 ≤ (i3 4) → gj_Goes E om0 mt_235 83 [some (.ref 81), some (.int x1), some (.int x2), some (.int x3), some (.int (i3 0)), none] [] SI SJ (QI Q)) ∧ (¬ x3 ≤ (i3 4) → gj_Goes E om0 mt_235 84 [some (.ref 81), some (.int x1), some (.int x2), some (.int x3), some (.int (i3 0)), none] [(.int (i3 (-1)))] SI SJ (QI Q))
                refine ⟨fun c53 => ?_, fun c53 => ?_⟩
                · refine gj_goq gj_clT ok_235 [9, 18, 22, 94] ?_
                  show gj_Do E om0 (gj_mt 233) [(.ref 81), (.int (i3 0)), (.int (i3 0))] SI SJ _
                  refine gj_Do.mono ((((((((h.2 c1).2 c2).1 c22).2 c23).1 c43).2 c44).1 c52).1 c53) (fun v_ SI26 SJ26 h_ => ?_)
                  obtain ⟨r25, rfl, q54⟩ := h_
                  show gj_Goes E om0 mt_235 94 [some (.ref 81), some (.int x1), some (.int x2), some (.int x3), some (.int (i3 0)), some (.int (i3 0))] [(.int r25)] SI26 SJ26 (QI Q)
                  refine gj_goq gj_clT ok_235 [9, 18, 22, 94] ?_
                  show (r25 = 0 → gj_Goes E om0 mt_235 123 [some (.ref 81), some (.int x1), some (.int x2), some (.int x3), some (.int (i3 0)), some (.int (i3 0))] [] SI26 SJ26 (QI Q)) ∧ (¬ r25 = 0 → (0 < (lg_cmp (SJ26 81 30) (((x1).toInt64 * (SJ26 81 33)) * (SJ26 81 31))) → gj_Goes E om0 mt_235 123 [some (.ref 81), some (.int x1), some (.int x2), some (.int x3), some (.int (i3 0)), some (.int (i3 0))] [] SI26 SJ26 (QI Q)) ∧ (¬ 0 < (lg_cmp (SJ26 81 30) (((x1).toInt64 * (SJ26 81 33)) * (SJ26 81 31))) → gj_Goes E om0 mt_235 22 [some (.ref 81), some (.int x1), some (.int (x2 ||| ((i3 1) <<< (x3 &&& 31)))), some (.int (x3 + (i3 1))), some (.int (i3 0)), some (.int (i3 0))] [] SI26 SJ26 (QI Q)))
                  refine ⟨fun c55 => ?_, fun c55 => ?_⟩
                  · refine gj_goq gj_clT ok_235 [9, 18, 22, 94] ?_
                    show gj_Goes E om0 mt_235 22 [some (.ref 81), some (.int x1), some (.int x2), some (.int (x3 + (i3 1))), some (.int (i3 0)), some (.int (i3 0))] [] SI26 SJ26 (QI Q)
                    exact gj_fh (q54.1 c55) (And.intro (Or.inr rfl) (And.intro (Or.inr rfl) (And.intro (Or.inr rfl) (And.intro (Or.inr rfl) (And.intro (Or.inl rfl) (And.intro (Or.inl rfl) trivial))))))
                  · refine ⟨fun c56 => ?_, fun c56 => ?_⟩
                    · refine gj_goq gj_clT ok_235 [9, 18, 22, 94] ?_
                      show gj_Goes E om0 mt_235 22 [some (.ref 81), some (.int x1), some (.int x2), some (.int (x3 + (i3 1))), some (.int (i3 0)), some (.int (i3 0))] [] SI26 SJ26 (QI Q)
                      exact gj_fh ((q54.2 c55).1 (lgc_gt.mp c56)) (And.intro (Or.inr rfl) (And.intro (Or.inr rfl) (And.intro (Or.inr rfl) (And.intro (Or.inr rfl) (And.intro (Or.inl rfl) (And.intro (Or.inl rfl) trivial))))))
                    · exact gj_fh ((q54.2 c55).2 (fun z_ => c56 (lgc_gt.mpr z_))) (And.intro (Or.inr rfl) (And.intro (Or.inr rfl) (And.intro (Or.inr rfl) (And.intro (Or.inr rfl) (And.intro (Or.inl rfl) (And.intro (Or.inl rfl) trivial))))))
                · refine gj_goq gj_clT ok_235 [9, 18, 22, 94] ?_
                  show gj_Do E om0 (gj_mt 233) [(.ref 81), (.int (i3 0)), (.int (i3 (-1)))] SI SJ _
                  refine gj_Do.mono ((((((((h.2 c1).2 c2).1 c22).2 c23).1 c43).2 c44).1 c52).2 c53) (fun v_ SI28 SJ28 h_ => ?_)
                  obtain ⟨r27, rfl, q57⟩ := h_
                  show gj_Goes E om0 mt_235 94 [some (.ref 81), some (.int x1), some (.int x2), some (.int x3), some (.int (i3 0)), some (.int (i3 (-1)))] [(.int r27)] SI28 SJ28 (QI Q)
                  refine gj_goq gj_clT ok_235 [9, 18, 22, 94] ?_
                  show (r27 = 0 → gj_Goes E om0 mt_235 123 [some (.ref 81), some (.int x1), some (.int x2), some (.int x3), some (.int (i3 0)), some (.int (i3 (-1)))] [] SI28 SJ28 (QI Q)) ∧ (¬ r27 = 0 → (0 < (lg_cmp (SJ28 81 30) (((x1).toInt64 * (SJ28 81 33)) * (SJ28 81 31))) → gj_Goes E om0 mt_235 123 [some (.ref 81), some (.int x1), some (.int x2), some (.int x3), some (.int (i3 0)), some (.int (i3 (-1)))] [] SI28 SJ28 (QI Q)) ∧ (¬ 0 < (lg_cmp (SJ28 81 30) (((x1).toInt64 * (SJ28 81 33)) * (SJ28 81 31))) → gj_Goes E om0 mt_235 22 [some (.ref 81), some (.int x1), some (.int (x2 ||| ((i3 1) <<< (x3 &&& 31)))), some (.int (x3 + (i3 1))), some (.int (i3 0)), some (.int (i3 (-1)))] [] SI28 SJ28 (QI Q)))
                  refine ⟨fun c58 => ?_, fun c58 => ?_⟩
                  · refine gj_goq gj_clT ok_235 [9, 18, 22, 94] ?_
                    show gj_Goes E om0 mt_235 22 [some (.ref 81), some (.int x1), some (.int x2), some (.int (x3 + (i3 1))), some (.int (i3 0)), some (.int (i3 (-1)))] [] SI28 SJ28 (QI Q)
                    exact gj_fh (q57.1 c58) (And.intro (Or.inr rfl) (And.intro (Or.inr rfl) (And.intro (Or.inr rfl) (And.intro (Or.inr rfl) (And.intro (Or.inl rfl) (And.intro (Or.inl rfl) trivial))))))
                  · refine ⟨fun c59 => ?_, fun c59 => ?_⟩
                    · refine gj_goq gj_clT ok_235 [9, 18, 22, 94] ?_
                      show gj_Goes E om0 mt_235 22 [some (.ref 81), some (.int x1), some (.int x2), some (.int (x3 + (i3 1))), some (.int (i3 0)), some (.int (i3 (-1)))] [] SI28 SJ28 (QI Q)
                      exact gj_fh ((q57.2 c58).1 (lgc_gt.mp c59)) (And.intro (Or.inr rfl) (And.intro (Or.inr rfl) (And.intro (Or.inr rfl) (And.intro (Or.inr rfl) (And.intro (Or.inl rfl) (And.intro (Or.inl rfl) trivial))))))
                    · exact gj_fh ((q57.2 c58).2 (fun z_ => c59 (lgc_gt.mpr z_))) (And.intro (Or.inr rfl) (And.intro (Or.inr rfl) (And.intro (Or.inr rfl) (And.intro (Or.inr rfl) (And.intro (Or.inl rfl) (And.intro (Or.inl rfl) trivial))))))
              · refine gj_goq gj_clT ok_235 [9, 18, 22, 94] ?_
                show gj_Do E om0 (gj_mt 233) [(.ref 81), (.int (i3 0)), (.int (i3 1))] SI SJ _
                refine gj_Do.mono (((((((h.2 c1).2 c2).1 c22).2 c23).1 c43).2 c44).2 c52) (fun v_ SI30 SJ30 h_ => ?_)
                obtain ⟨r29, rfl, q60⟩ := h_
                show gj_Goes E om0 mt_235 94 [some (.ref 81), some (.int x1), some (.int x2), some (.int x3), some (.int (i3 0)), some (.int (i3 1))] [(.int r29)] SI30 SJ30 (QI Q)
                refine gj_goq gj_clT ok_235 [9, 18, 22, 94] ?_
                show (r29 = 0 → gj_Goes E om0 mt_235 123 [some (.ref 81), some (.int x1), some (.int x2), some (.int x3), some (.int (i3 0)), some (.int (i3 1))] [] SI30 SJ30 (QI Q)) ∧ (¬ r29 = 0 → (0 < (lg_cmp (SJ30 81 30) (((x1).toInt64 * (SJ30 81 33)) * (SJ30 81 31))) → gj_Goes E om0 mt_235 123 [some (.ref 81), some (.int x1), some (.int x2), some (.int x3), some (.int (i3 0)), some (.int (i3 1))] [] SI30 SJ30 (QI Q)) ∧ (¬ 0 < (lg_cmp (SJ30 81 30) (((x1).toInt64 * (SJ30 81 33)) * (SJ30 81 31))) → gj_Goes E om0 mt_235 22 [some (.ref 81), some (.int x1), some (.int (x2 ||| ((i3 1) <<< (x3 &&& 31)))), some (.int (x3 + (i3 1))), some (.int (i3 0)), some (.int (i3 1))] [] SI30 SJ30 (QI Q)))
                refine ⟨fun c61 => ?_, fun c61 => ?_⟩
                · refine gj_goq gj_clT ok_235 [9, 18, 22, 94] ?_
                  show gj_Goes E om0 mt_235 22 [some (.ref 81), some (.int x1), some (.int x2), some (.int (x3 + (i3 1))), some (.int (i3 0)), some (.int (i3 1))] [] SI30 SJ30 (QI Q)
                  exact gj_fh (q60.1 c61) (And.intro (Or.inr rfl) (And.intro (Or.inr rfl) (And.intro (Or.inr rfl) (And.intro (Or.inr rfl) (And.intro (Or.inl rfl) (And.intro (Or.inl rfl) trivial))))))
                · refine ⟨fun c62 => ?_, fun c62 => ?_⟩
                  · refine gj_goq gj_clT ok_235 [9, 18, 22, 94] ?_
                    show gj_Goes E om0 mt_235 22 [some (.ref 81), some (.int x1), some (.int x2), some (.int (x3 + (i3 1))), some (.int (i3 0)), some (.int (i3 1))] [] SI30 SJ30 (QI Q)
                    exact gj_fh ((q60.2 c61).1 (lgc_gt.mp c62)) (And.intro (Or.inr rfl) (And.intro (Or.inr rfl) (And.intro (Or.inr rfl) (And.intro (Or.inr rfl) (And.intro (Or.inl rfl) (And.intro (Or.inl rfl) trivial))))))
                  · exact gj_fh ((q60.2 c61).2 (fun z_ => c62 (lgc_gt.mpr z_))) (And.intro (Or.inr rfl) (And.intro (Or.inr rfl) (And.intro (Or.inr rfl) (And.intro (Or.inr rfl) (And.intro (Or.inl rfl) (And.intro (Or.inl rfl) trivial))))))
          · refine gj_goq gj_clT ok_235 [9, 18, 22, 94] ?_
            show (x3 ≤ 0 → gj_Goes E om0 mt_235 74 [some (.ref 81), some (.int x1), some (.int x2), some (.int x3), some (.int (i3 (-1))), none] [] SI SJ (QI Q)) ∧ (¬ x3 ≤ 0 → ((i3 4) ≤ x3 → gj_Goes E om0 mt_235 74 [some (.ref 81), some (.int x1), some (.int x2), some (.int x3), some (.int (i3 (-1))), none] [] SI SJ (QI Q)) ∧ (¬ (i3 4) ≤ x3 → gj_Goes E om0 mt_235 84 [some (.ref 81), some (.int x1), some (.int x2), some (.int x3), some (.int (i3 (-1))), none] [(.int (i3 1))] SI SJ (QI Q)))
            refine ⟨fun c63 => ?_, fun c63 => ?_⟩
            · refine gj_goq gj_clT ok_235 [9, 18, 22, 94] ?_
              show (x3 ≤ (i3 4) → gj_Goes E om0 mt_235 83 [some (.ref 81), some (.int x1), some (.int x2), some (.int x3), some (.int (i3 (-1))), none] [] SI SJ (QI Q)) ∧ (¬ x3 ≤ (i3 4) → gj_Goes E om0 mt_235 84 [some (.ref 81), some (.int x1), some (.int x2), some (.int x3), some (.int (i3 (-1))), none] [(.int (i3 (-1)))] SI SJ (QI Q))
              refine ⟨fun c64 => ?_, fun c64 => ?_⟩
              · refine gj_goq gj_clT ok_235 [9, 18, 22, 94] ?_
                show gj_Do E om0 (gj_mt 233) [(.ref 81), (.int (i3 (-1))), (.int (i3 0))] SI SJ _
                refine gj_Do.mono (((((((h.2 c1).2 c2).1 c22).2 c23).2 c43).1 c63).1 c64) (fun v_ SI32 SJ32 h_ => ?_)
                obtain ⟨r31, rfl, q65⟩ := h_
                show gj_Goes E om0 mt_235 94 [some (.ref 81), some (.int x1), some (.int x2), some (.int x3), some (.int (i3 (-1))), some (.int (i3 0))] [(.int r31)] SI32 SJ32 (QI Q)
                refine gj_goq gj_clT ok_235 [9, 18, 22, 94] ?_
                show (r31 = 0 → gj_Goes E om0 mt_235 123 [some (.ref 81), some (.int x1), some (.int x2), some (.int x3), some (.int (i3 (-1))), some (.int (i3 0))] [] SI32 SJ32 (QI Q)) ∧ (¬ r31 = 0 → (0 < (lg_cmp (SJ32 81 30) (((x1).toInt64 * (SJ32 81 33)) * (SJ32 81 31))) → gj_Goes E om0 mt_235 123 [some (.ref 81), some (.int x1), some (.int x2), some (.int x3), some (.int (i3 (-1))), some (.int (i3 0))] [] SI32 SJ32 (QI Q)) ∧ (¬ 0 < (lg_cmp (SJ32 81 30) (((x1).toInt64 * (SJ32 81 33)) * (SJ32 81 31))) → gj_Goes E om0 mt_235 22 [some (.ref 81), some (.int x1), some (.int (x2 ||| ((i3 1) <<< (x3 &&& 31)))), some (.int (x3 + (i3 1))), some (.int (i3 (-1))), some (.int (i3 0))] [] SI32 SJ32 (QI Q)))
                refine ⟨fun c66 => ?_, fun c66 => ?_⟩
                · refine gj_goq gj_clT ok_235 [9, 18, 22, 94] ?_
                  show gj_Goes E om0 mt_235 22 [some (.ref 81), some (.int x1), some (.int x2), some (.int (x3 + (i3 1))), some (.int (i3 (-1))), some (.int (i3 0))] [] SI32 SJ32 (QI Q)
                  exact gj_fh (q65.1 c66) (And.intro (Or.inr rfl) (And.intro (Or.inr rfl) (And.intro (Or.inr rfl) (And.intro (Or.inr rfl) (And.intro (Or.inl rfl) (And.intro (Or.inl rfl) trivial))))))
                · refine ⟨fun c67 => ?_, fun c67 => ?_⟩
                  · refine gj_goq gj_clT ok_235 [9, 18, 22, 94] ?_
                    show gj_Goes E om0 mt_235 22 [some (.ref 81), some (.int x1), some (.int x2), some (.int (x3 + (i3 1))), some (.int (i3 (-1))), some (.int (i3 0))] [] SI32 SJ32 (QI Q)
                    exact gj_fh ((q65.2 c66).1 (lgc_gt.mp c67)) (And.intro (Or.inr rfl) (And.intro (Or.inr rfl) (And.intro (Or.inr rfl) (And.intro (Or.inr rfl) (And.intro (Or.inl rfl) (And.intro (Or.inl rfl) trivial))))))
                  · exact gj_fh ((q65.2 c66).2 (fun z_ => c67 (lgc_gt.mpr z_))) (And.intro (Or.inr rfl) (And.intro (Or.inr rfl) (And.intro (Or.inr rfl) (And.intro (Or.inr rfl) (And.intro (Or.inl rfl) (And.intro (Or.inl rfl) trivial))))))
              · refine gj_goq gj_clT ok_235 [9, 18, 22, 94] ?_
                show gj_Do E om0 (gj_mt 233) [(.ref 81), (.int (i3 (-1))), (.int (i3 (-1)))] SI SJ _
                refine gj_Do.mono (((((((h.2 c1).2 c2).1 c22).2 c23).2 c43).1 c63).2 c64) (fun v_ SI34 SJ34 h_ => ?_)
                obtain ⟨r33, rfl, q68⟩ := h_
                show gj_Goes E om0 mt_235 94 [some (.ref 81), some (.int x1), some (.int x2), some (.int x3), some (.int (i3 (-1))), some (.int (i3 (-1)))] [(.int r33)] SI34 SJ34 (QI Q)
                refine gj_goq gj_clT ok_235 [9, 18, 22, 94] ?_
                show (r33 = 0 → gj_Goes E om0 mt_235 123 [some (.ref 81), some (.int x1), some (.int x2), some (.int x3), some (.int (i3 (-1))), some (.int (i3 (-1)))] [] SI34 SJ34 (QI Q)) ∧ (¬ r33 = 0 → (0 < (lg_cmp (SJ34 81 30) (((x1).toInt64 * (SJ34 81 33)) * (SJ34 81 31))) → gj_Goes E om0 mt_235 123 [some (.ref 81), some (.int x1), some (.int x2), some (.int x3), some (.int (i3 (-1))), some (.int (i3 (-1)))] [] SI34 SJ34 (QI Q)) ∧ (¬ 0 < (lg_cmp (SJ34 81 30) (((x1).toInt64 * (SJ34 81 33)) * (SJ34 81 31))) → gj_Goes E om0 mt_235 22 [some (.ref 81), some (.int x1), some (.int (x2 ||| ((i3 1) <<< (x3 &&& 31)))), some (.int (x3 + (i3 1))), some (.int (i3 (-1))), some (.int (i3 (-1)))] [] SI34 SJ34 (QI Q)))
                refine ⟨fun c69 => ?_, fun c69 => ?_⟩
                · refine gj_goq gj_clT ok_235 [9, 18, 22, 94] ?_
                  show gj_Goes E om0 mt_235 22 [some (.ref 81), some (.int x1), some (.int x2), some (.int (x3 + (i3 1))), some (.int (i3 (-1))), some (.int (i3 (-1)))] [] SI34 SJ34 (QI Q)
                  exact gj_fh (q68.1 c69) (And.intro (Or.inr rfl) (And.intro (Or.inr rfl) (And.intro (Or.inr rfl) (And.intro (Or.inr rfl) (And.intro (Or.inl rfl) (And.intro (Or.inl rfl) trivial))))))
                · refine ⟨fun c70 => ?_, fun c70 => ?_⟩
                  · refine gj_goq gj_clT ok_235 [9, 18, 22, 94] ?_
                    show gj_Goes E om0 mt_235 22 [some (.ref 81), some (.int x1), some (.int x2), some (.int (x3 + (i3 1))), some (.int (i3 (-1))), some (.int (i3 (-1)))] [] SI34 SJ34 (QI Q)
                    exact gj_fh ((q68.2 c69).1 (lgc_gt.mp c70)) (And.intro (Or.inr rfl) (And.intro (Or.inr rfl) (And.intro (Or.inr rfl) (And.intro (Or.inr rfl) (And.intro (Or.inl rfl) (And.intro (Or.inl rfl) trivial))))))
                  · exact gj_fh ((q68.2 c69).2 (fun z_ => c70 (lgc_gt.mpr z_))) (And.intro (Or.inr rfl) (And.intro (Or.inr rfl) (And.intro (Or.inr rfl) (And.intro (Or.inr rfl) (And.intro (Or.inl rfl) (And.intro (Or.inl rfl) trivial))))))
            · refine ⟨fun c71 => ?_, fun c71 => ?_⟩
              · refine gj_goq gj_clT ok_235 [9, 18, 22, 94] ?_
                show (x3 ≤ (i3 4) → gj_Goes E om0 mt_235 83 [some (.ref 81), some (.int x1), some (.int x2), some (.int x3), some (.int (i3 (-1))), none] [] SI SJ (QI Q)) ∧ (¬ x3 ≤ (i3 4) → gj_Goes E om0 mt_235 84 [some (.ref 81), some (.int x1), some (.int x2), some (.int x3), some (.int (i3 (-1))), none] [(.int (i3 (-1)))] SI SJ (QI Q))
                refine ⟨fun c72 => ?_, fun c72 => ?_⟩
                · refine gj_goq gj_clT ok_235 [9, 18, 22, 94] ?_
                  show gj_Do E om0 (gj_mt 233) [(.ref 81), (.int (i3 (-1))), (.int (i3 0))] SI SJ _
                  refine gj_Do.mono ((((((((h.2 c1).2 c2).1 c22).2 c23).2 c43).2 c63).1 c71).1 c72) (fun v_ SI36 SJ36 h_ => ?_)
                  obtain ⟨r35, rfl, q73⟩ := h_
                  show gj_Goes E om0 mt_235 94 [some (.ref 81), some (.int x1), some (.int x2), some (.int x3), some (.int (i3 (-1))), some (.int (i3 0))] [(.int r35)] SI36 SJ36 (QI Q)
                  refine gj_goq gj_clT ok_235 [9, 18, 22, 94] ?_
                  show (r35 = 0 → gj_Goes E om0 mt_235 123 [some (.ref 81), some (.int x1), some (.int x2), some (.int x3), some (.int (i3 (-1))), some (.int (i3 0))] [] SI36 SJ36 (QI Q)) ∧ (¬ r35 = 0 → (0 < (lg_cmp (SJ36 81 30) (((x1).toInt64 * (SJ36 81 33)) * (SJ36 81 31))) → gj_Goes E om0 mt_235 123 [some (.ref 81), some (.int x1), some (.int x2), some (.int x3), some (.int (i3 (-1))), some (.int (i3 0))] [] SI36 SJ36 (QI Q)) ∧ (¬ 0 < (lg_cmp (SJ36 81 30) (((x1).toInt64 * (SJ36 81 33)) * (SJ36 81 31))) → gj_Goes E om0 mt_235 22 [some (.ref 81), some (.int x1), some (.int (x2 ||| ((i3 1) <<< (x3 &&& 31)))), some (.int (x3 + (i3 1))), some (.int (i3 (-1))), some (.int (i3 0))] [] SI36 SJ36 (QI Q)))
                  refine ⟨fun c74 => ?_, fun c74 => ?_⟩
                  · refine gj_goq gj_clT ok_235 [9, 18, 22, 94] ?_
                    show gj_Goes E om0 mt_235 22 [some (.ref 81), some (.int x1), some (.int x2), some (.int (x3 + (i3 1))), some (.int (i3 (-1))), some (.int (i3 0))] [] SI36 SJ36 (QI Q)
                    exact gj_fh (q73.1 c74) (And.intro (Or.inr rfl) (And.intro (Or.inr rfl) (And.intro (Or.inr rfl) (And.intro (Or.inr rfl) (And.intro (Or.inl rfl) (And.intro (Or.inl rfl) trivial))))))
                  · refine ⟨fun c75 => ?_, fun c75 => ?_⟩
                    · refine gj_goq gj_clT ok_235 [9, 18, 22, 94] ?_
                      show gj_Goes E om0 mt_235 22 [some (.ref 81), some (.int x1), some (.int x2), some (.int (x3 + (i3 1))), some (.int (i3 (-1))), some (.int (i3 0))] [] SI36 SJ36 (QI Q)
                      exact gj_fh ((q73.2 c74).1 (lgc_gt.mp c75)) (And.intro (Or.inr rfl) (And.intro (Or.inr rfl) (And.intro (Or.inr rfl) (And.intro (Or.inr rfl) (And.intro (Or.inl rfl) (And.intro (Or.inl rfl) trivial))))))
                    · exact gj_fh ((q73.2 c74).2 (fun z_ => c75 (lgc_gt.mpr z_))) (And.intro (Or.inr rfl) (And.intro (Or.inr rfl) (And.intro (Or.inr rfl) (And.intro (Or.inr rfl) (And.intro (Or.inl rfl) (And.intro (Or.inl rfl) trivial))))))
                · refine gj_goq gj_clT ok_235 [9, 18, 22, 94] ?_
                  show gj_Do E om0 (gj_mt 233) [(.ref 81), (.int (i3 (-1))), (.int (i3 (-1)))] SI SJ _
                  refine gj_Do.mono ((((((((h.2 c1).2 c2).1 c22).2 c23).2 c43).2 c63).1 c71).2 c72) (fun v_ SI38 SJ38 h_ => ?_)
                  obtain ⟨r37, rfl, q76⟩ := h_
                  show gj_Goes E om0 mt_235 94 [some (.ref 81), some (.int x1), some (.int x2), some (.int x3), some (.int (i3 (-1))), some (.int (i3 (-1)))] [(.int r37)] SI38 SJ38 (QI Q)
                  refine gj_goq gj_clT ok_235 [9, 18, 22, 94] ?_
                  show (r37 = 0 → gj_Goes E om0 mt_235 123 [some (.ref 81), some (.int x1), some (.int x2), some (.int x3), some (.int (i3 (-1))), some (.int (i3 (-1)))] [] SI38 SJ38 (QI Q)) ∧ (¬ r37 = 0 → (0 < (lg_cmp (SJ38 81 30) (((x1).toInt64 * (SJ38 81 33)) * (SJ38 81 31))) → gj_Goes E om0 mt_235 123 [some (.ref 81), some (.int x1), some (.int x2), some (.int x3), some (.int (i3 (-1))), some (.int (i3 (-1)))] [] SI38 SJ38 (QI Q)) ∧ (¬ 0 < (lg_cmp (SJ38 81 30) (((x1).toInt64 * (SJ38 81 33)) * (SJ38 81 31))) → gj_Goes E om0 mt_235 22 [some (.ref 81), some (.int x1), some (.int (x2 ||| ((i3 1) <<< (x3 &&& 31)))), some (.int (x3 + (i3 1))), some (.int (i3 (-1))), some (.int (i3 (-1)))] [] SI38 SJ38 (QI Q)))
                  refine ⟨fun c77 => ?_, fun c77 => ?_⟩
                  · refine gj_goq gj_clT ok_235 [9, 18, 22, 94] ?_
                    show gj_Goes E om0 mt_235 22 [some (.ref 81), some (.int x1), some (.int x2), some (.int (x3 + (i3 1))), some (.int (i3 (-1))), some (.int (i3 (-1)))] [] SI38 SJ38 (QI Q)
                    exact gj_fh (q76.1 c77) (And.intro (Or.inr rfl) (And.intro (Or.inr rfl) (And.intro (Or.inr rfl) (And.intro (Or.inr rfl) (And.intro (Or.inl rfl) (And.intro (Or.inl rfl) trivial))))))
                  · refine ⟨fun c78 => ?_, fun c78 => ?_⟩
                    · refine gj_goq gj_clT ok_235 [9, 18, 22, 94] ?_
                      show gj_Goes E om0 mt_235 22 [some (.ref 81), some (.int x1), some (.int x2), some (.int (x3 + (i3 1))), some (.int (i3 (-1))), some (.int (i3 (-1)))] [] SI38 SJ38 (QI Q)
                      exact gj_fh ((q76.2 c77).1 (lgc_gt.mp c78)) (And.intro (Or.inr rfl) (And.intro (Or.inr rfl) (And.intro (Or.inr rfl) (And.intro (Or.inr rfl) (And.intro (Or.inl rfl) (And.intro (Or.inl rfl) trivial))))))
                    · exact gj_fh ((q76.2 c77).2 (fun z_ => c78 (lgc_gt.mpr z_))) (And.intro (Or.inr rfl) (And.intro (Or.inr rfl) (And.intro (Or.inr rfl) (And.intro (Or.inr rfl) (And.intro (Or.inl rfl) (And.intro (Or.inl rfl) trivial))))))
              · refine gj_goq gj_clT ok_235 [9, 18, 22, 94] ?_
                show gj_Do E om0 (gj_mt 233) [(.ref 81), (.int (i3 (-1))), (.int (i3 1))] SI SJ _
                refine gj_Do.mono (((((((h.2 c1).2 c2).1 c22).2 c23).2 c43).2 c63).2 c71) (fun v_ SI40 SJ40 h_ => ?_)
                obtain ⟨r39, rfl, q79⟩ := h_
                show gj_Goes E om0 mt_235 94 [some (.ref 81), some (.int x1), some (.int x2), some (.int x3), some (.int (i3 (-1))), some (.int (i3 1))] [(.int r39)] SI40 SJ40 (QI Q)
                refine gj_goq gj_clT ok_235 [9, 18, 22, 94] ?_
                show (r39 = 0 → gj_Goes E om0 mt_235 123 [some (.ref 81), some (.int x1), some (.int x2), some (.int x3), some (.int (i3 (-1))), some (.int (i3 1))] [] SI40 SJ40 (QI Q)) ∧ (¬ r39 = 0 → (0 < (lg_cmp (SJ40 81 30) (((x1).toInt64 * (SJ40 81 33)) * (SJ40 81 31))) → gj_Goes E om0 mt_235 123 [some (.ref 81), some (.int x1), some (.int x2), some (.int x3), some (.int (i3 (-1))), some (.int (i3 1))] [] SI40 SJ40 (QI Q)) ∧ (¬ 0 < (lg_cmp (SJ40 81 30) (((x1).toInt64 * (SJ40 81 33)) * (SJ40 81 31))) → gj_Goes E om0 mt_235 22 [some (.ref 81), some (.int x1), some (.int (x2 ||| ((i3 1) <<< (x3 &&& 31)))), some (.int (x3 + (i3 1))), some (.int (i3 (-1))), some (.int (i3 1))] [] SI40 SJ40 (QI Q)))
                refine ⟨fun c80 => ?_, fun c80 => ?_⟩
                · refine gj_goq gj_clT ok_235 [9, 18, 22, 94] ?_
                  show gj_Goes E om0 mt_235 22 [some (.ref 81), some (.int x1), some (.int x2), some (.int (x3 + (i3 1))), some (.int (i3 (-1))), some (.int (i3 1))] [] SI40 SJ40 (QI Q)
                  exact gj_fh (q79.1 c80) (And.intro (Or.inr rfl) (And.intro (Or.inr rfl) (And.intro (Or.inr rfl) (And.intro (Or.inr rfl) (And.intro (Or.inl rfl) (And.intro (Or.inl rfl) trivial))))))
                · refine ⟨fun c81 => ?_, fun c81 => ?_⟩
                  · refine gj_goq gj_clT ok_235 [9, 18, 22, 94] ?_
                    show gj_Goes E om0 mt_235 22 [some (.ref 81), some (.int x1), some (.int x2), some (.int (x3 + (i3 1))), some (.int (i3 (-1))), some (.int (i3 1))] [] SI40 SJ40 (QI Q)
                    exact gj_fh ((q79.2 c80).1 (lgc_gt.mp c81)) (And.intro (Or.inr rfl) (And.intro (Or.inr rfl) (And.intro (Or.inr rfl) (And.intro (Or.inr rfl) (And.intro (Or.inl rfl) (And.intro (Or.inl rfl) trivial))))))
                  · exact gj_fh ((q79.2 c80).2 (fun z_ => c81 (lgc_gt.mpr z_))) (And.intro (Or.inr rfl) (And.intro (Or.inr rfl) (And.intro (Or.inr rfl) (And.intro (Or.inr rfl) (And.intro (Or.inl rfl) (And.intro (Or.inl rfl) trivial))))))
      · refine gj_goq gj_clT ok_235 [9, 18, 22, 94] ?_
        show (x3 ≤ 0 → gj_Goes E om0 mt_235 74 [some (.ref 81), some (.int x1), some (.int x2), some (.int x3), some (.int (i3 1)), none] [] SI SJ (QI Q)) ∧ (¬ x3 ≤ 0 → ((i3 4) ≤ x3 → gj_Goes E om0 mt_235 74 [some (.ref 81), some (.int x1), some (.int x2), some (.int x3), some (.int (i3 1)), none] [] SI SJ (QI Q)) ∧ (¬ (i3 4) ≤ x3 → gj_Goes E om0 mt_235 84 [some (.ref 81), some (.int x1), some (.int x2), some (.int x3), some (.int (i3 1)), none] [(.int (i3 1))] SI SJ (QI Q)))
        refine ⟨fun c82 => ?_, fun c82 => ?_⟩
        · refine gj_goq gj_clT ok_235 [9, 18, 22, 94] ?_
          show (x3 ≤ (i3 4) → gj_Goes E om0 mt_235 83 [some (.ref 81), some (.int x1), some (.int x2), some (.int x3), some (.int (i3 1)), none] [] SI SJ (QI Q)) ∧ (¬ x3 ≤ (i3 4) → gj_Goes E om0 mt_235 84 [some (.ref 81), some (.int x1), some (.int x2), some (.int x3), some (.int (i3 1)), none] [(.int (i3 (-1)))] SI SJ (QI Q))
          refine ⟨fun c83 => ?_, fun c83 => ?_⟩
          · refine gj_goq gj_clT ok_235 [9, 18, 22, 94] ?_
            show gj_Do E om0 (gj_mt 233) [(.ref 81), (.int (i3 1)), (.int (i3 0))] SI SJ _
            refine gj_Do.mono (((((h.2 c1).2 c2).2 c22).1 c82).1 c83) (fun v_ SI42 SJ42 h_ => ?_)
            obtain ⟨r41, rfl, q84⟩ := h_
            show gj_Goes E om0 mt_235 94 [some (.ref 81), some (.int x1), some (.int x2), some (.int x3), some (.int (i3 1)), some (.int (i3 0))] [(.int r41)] SI42 SJ42 (QI Q)
            refine gj_goq gj_clT ok_235 [9, 18, 22, 94] ?_
            show (r41 = 0 → gj_Goes E om0 mt_235 123 [some (.ref 81), some (.int x1), some (.int x2), some (.int x3), some (.int (i3 1)), some (.int (i3 0))] [] SI42 SJ42 (QI Q)) ∧ (¬ r41 = 0 → (0 < (lg_cmp (SJ42 81 30) (((x1).toInt64 * (SJ42 81 33)) * (SJ42 81 31))) → gj_Goes E om0 mt_235 123 [some (.ref 81), some (.int x1), some (.int x2), some (.int x3), some (.int (i3 1)), some (.int (i3 0))] [] SI42 SJ42 (QI Q)) ∧ (¬ 0 < (lg_cmp (SJ42 81 30) (((x1).toInt64 * (SJ42 81 33)) * (SJ42 81 31))) → gj_Goes E om0 mt_235 22 [some (.ref 81), some (.int x1), some (.int (x2 ||| ((i3 1) <<< (x3 &&& 31)))), some (.int (x3 + (i3 1))), some (.int (i3 1)), some (.int (i3 0))] [] SI42 SJ42 (QI Q)))
            refine ⟨fun c85 => ?_, fun c85 => ?_⟩
            · refine gj_goq gj_clT ok_235 [9, 18, 22, 94] ?_
              show gj_Goes E om0 mt_235 22 [some (.ref 81), some (.int x1), some (.int x2), some (.int (x3 + (i3 1))), some (.int (i3 1)), some (.int (i3 0))] [] SI42 SJ42 (QI Q)
              exact gj_fh (q84.1 c85) (And.intro (Or.inr rfl) (And.intro (Or.inr rfl) (And.intro (Or.inr rfl) (And.intro (Or.inr rfl) (And.intro (Or.inl rfl) (And.intro (Or.inl rfl) trivial))))))
            · refine ⟨fun c86 => ?_, fun c86 => ?_⟩
              · refine gj_goq gj_clT ok_235 [9, 18, 22, 94] ?_
                show gj_Goes E om0 mt_235 22 [some (.ref 81), some (.int x1), some (.int x2), some (.int (x3 + (i3 1))), some (.int (i3 1)), some (.int (i3 0))] [] SI42 SJ42 (QI Q)
                exact gj_fh ((q84.2 c85).1 (lgc_gt.mp c86)) (And.intro (Or.inr rfl) (And.intro (Or.inr rfl) (And.intro (Or.inr rfl) (And.intro (Or.inr rfl) (And.intro (Or.inl rfl) (And.intro (Or.inl rfl) trivial))))))
              · exact gj_fh ((q84.2 c85).2 (fun z_ => c86 (lgc_gt.mpr z_))) (And.intro (Or.inr rfl) (And.intro (Or.inr rfl) (And.intro (Or.inr rfl) (And.intro (Or.inr rfl) (And.intro (Or.inl rfl) (And.intro (Or.inl rfl) trivial))))))
          · refine gj_goq gj_clT ok_235 [9, 18, 22, 94] ?_
            show gj_Do E om0 (gj_mt 233) [(.ref 81), (.int (i3 1)), (.int (i3 (-1)))] SI SJ _
            refine gj_Do.mono (((((h.2 c1).2 c2).2 c22).1 c82).2 c83) (fun v_ SI44 SJ44 h_ => ?_)
            obtain ⟨r43, rfl, q87⟩ := h_
            show gj_Goes E om0 mt_235 94 [some (.ref 81), some (.int x1), some (.int x2), some (.int x3), some (.int (i3 1)), some (.int (i3 (-1)))] [(.int r43)] SI44 SJ44 (QI Q)
            refine gj_goq gj_clT ok_235 [9, 18, 22, 94] ?_
            show (r43 = 0 → gj_Goes E om0 mt_235 123 [some (.ref 81), some (.int x1), some (.int x2), some (.int x3), some (.int (i3 1)), some (.int (i3 (-1)))] [] SI44 SJ44 (QI Q)) ∧ (¬ r43 = 0 → (0 < (lg_cmp (SJ44 81 30) (((x1).toInt64 * (SJ44 81 33)) * (SJ44 81 31))) → gj_Goes E om0 mt_235 123 [some (.ref 81), some (.int x1), some (.int x2), some (.int x3), some (.int (i3 1)), some (.int (i3 (-1)))] [] SI44 SJ44 (QI Q)) ∧ (¬ 0 < (lg_cmp (SJ44 81 30) (((x1).toInt64 * (SJ44 81 33)) * (SJ44 81 31))) → gj_Goes E om0 mt_235 22 [some (.ref 81), some (.int x1), some (.int (x2 ||| ((i3 1) <<< (x3 &&& 31)))), some (.int (x3 + (i3 1))), some (.int (i3 1)), some (.int (i3 (-1)))] [] SI44 SJ44 (QI Q)))
            refine ⟨fun c88 => ?_, fun c88 => ?_⟩
            · refine gj_goq gj_clT ok_235 [9, 18, 22, 94] ?_
              show gj_Goes E om0 mt_235 22 [some (.ref 81), some (.int x1), some (.int x2), some (.int (x3 + (i3 1))), some (.int (i3 1)), some (.int (i3 (-1)))] [] SI44 SJ44 (QI Q)
              exact gj_fh (q87.1 c88) (And.intro (Or.inr rfl) (And.intro (Or.inr rfl) (And.intro (Or.inr rfl) (And.intro (Or.inr rfl) (And.intro (Or.inl rfl) (And.intro (Or.inl rfl) trivial))))))
            · refine ⟨fun c89 => ?_, fun c89 => ?_⟩
              · refine gj_goq gj_clT ok_235 [9, 18, 22, 94] ?_
                show gj_Goes E om0 mt_235 22 [some (.ref 81), some (.int x1), some (.int x2), some (.int (x3 + (i3 1))), some (.int (i3 1)), some (.int (i3 (-1)))] [] SI44 SJ44 (QI Q)
                exact gj_fh ((q87.2 c88).1 (lgc_gt.mp c89)) (And.intro (Or.inr rfl) (And.intro (Or.inr rfl) (And.intro (Or.inr rfl) (And.intro (Or.inr rfl) (And.intro (Or.inl rfl) (And.intro (Or.inl rfl) trivial))))))
              · exact gj_fh ((q87.2 c88).2 (fun z_ => c89 (lgc_gt.mpr z_))) (And.intro (Or.inr rfl) (And.intro (Or.inr rfl) (And.intro (Or.inr rfl) (And.intro (Or.inr rfl) (And.intro (Or.inl rfl) (And.intro (Or.inl rfl) trivial))))))
        · refine ⟨fun c90 => ?_, fun c90 => ?_⟩
          · refine gj_goq gj_clT ok_235 [9, 18, 22, 94] ?_
            show (x3 ≤ (i3 4) → gj_Goes E om0 mt_235 83 [some (.ref 81), some (.int x1), some (.int x2), some (.int x3), some (.int (i3 1)), none] [] SI SJ (QI Q)) ∧ (¬ x3 ≤ (i3 4) → gj_Goes E om0 mt_235 84 [some (.ref 81), some (.int x1), some (.int x2), some (.int x3), some (.int (i3 1)), none] [(.int (i3 (-1)))] SI SJ (QI Q))
            refine ⟨fun c91 => ?_, fun c91 => ?_⟩
            · refine gj_goq gj_clT ok_235 [9, 18, 22, 94] ?_
              show gj_Do E om0 (gj_mt 233) [(.ref 81), (.int (i3 1)), (.int (i3 0))] SI SJ _
              refine gj_Do.mono ((((((h.2 c1).2 c2).2 c22).2 c82).1 c90).1 c91) (fun v_ SI46 SJ46 h_ => ?_)
              obtain ⟨r45, rfl, q92⟩ := h_
              show gj_Goes E om0 mt_235 94 [some (.ref 81), some (.int x1), some (.int x2), some (.int x3), some (.int (i3 1)), some (.int (i3 0))] [(.int r45)] SI46 SJ46 (QI Q)
              refine gj_goq gj_clT ok_235 [9, 18, 22, 94] ?_
              show (r45 = 0 → gj_Goes E om0 mt_235 123 [some (.ref 81), some (.int x1), some (.int x2), some (.int x3), some (.int (i3 1)), some (.int (i3 0))] [] SI46 SJ46 (QI Q)) ∧ (¬ r45 = 0 → (0 < (lg_cmp (SJ46 81 30) (((x1).toInt64 * (SJ46 81 33)) * (SJ46 81 31))) → gj_Goes E om0 mt_235 123 [some (.ref 81), some (.int x1), some (.int x2), some (.int x3), some (.int (i3 1)), some (.int (i3 0))] [] SI46 SJ46 (QI Q)) ∧ (¬ 0 < (lg_cmp (SJ46 81 30) (((x1).toInt64 * (SJ46 81 33)) * (SJ46 81 31))) → gj_Goes E om0 mt_235 22 [some (.ref 81), some (.int x1), some (.int (x2 ||| ((i3 1) <<< (x3 &&& 31)))), some (.int (x3 + (i3 1))), some (.int (i3 1)), some (.int (i3 0))] [] SI46 SJ46 (QI Q)))
              refine ⟨fun c93 => ?_, fun c93 => ?_⟩
              · refine gj_goq gj_clT ok_235 [9, 18, 22, 94] ?_
                show gj_Goes E om0 mt_235 22 [some (.ref 81), some (.int x1), some (.int x2), some (.int (x3 + (i3 1))), some (.int (i3 1)), some (.int (i3 0))] [] SI46 SJ46 (QI Q)
                exact gj_fh (q92.1 c93) (And.intro (Or.inr rfl) (And.intro (Or.inr rfl) (And.intro (Or.inr rfl) (And.intro (Or.inr rfl) (And.intro (Or.inl rfl) (And.intro (Or.inl rfl) trivial))))))
              · refine ⟨fun c94 => ?_, fun c94 => ?_⟩
                · refine gj_goq gj_clT ok_235 [9, 18, 22, 94] ?_
                  show gj_Goes E om0 mt_235 22 [some (.ref 81), some (.int x1), some (.int x2), some (.int (x3 + (i3 1))), some (.int (i3 1)), some (.int (i3 0))] [] SI46 SJ46 (QI Q)
                  exact gj_fh ((q92.2 c93).1 (lgc_gt.mp c94)) (And.intro (Or.inr rfl) (And.intro (Or.inr rfl) (And.intro (Or.inr rfl) (And.intro (Or.inr rfl) (And.intro (Or.inl rfl) (And.intro (Or.inl rfl) trivial))))))
                · exact gj_fh ((q92.2 c93).2 (fun z_ => c94 (lgc_gt.mpr z_))) (And.intro (Or.inr rfl) (And.intro (Or.inr rfl) (And.intro (Or.inr rfl) (And.intro (Or.inr rfl) (And.intro (Or.inl rfl) (And.intro (Or.inl rfl) trivial))))))
            · refine gj_goq gj_clT ok_235 [9, 18, 22, 94] ?_
              show gj_Do E om0 (gj_mt 233) [(.ref 81), (.int (i3 1)), (.int (i3 (-1)))] SI SJ _
              refine gj_Do.mono ((((((h.2 c1).2 c2).2 c22).2 c82).1 c90).2 c91) (fun v_ SI48 SJ48 h_ => ?_)
              obtain ⟨r47, rfl, q95⟩ := h_
              show gj_Goes E om0 mt_235 94 [some (.ref 81), some (.int x1), some (.int x2), some (.int x3), some (.int (i3 1)), some (.int (i3 (-1)))] [(.int r47)] SI48 SJ48 (QI Q)
              refine gj_goq gj_clT ok_235 [9, 18, 22, 94] ?_
              show (r47 = 0 → gj_Goes E om0 mt_235 123 [some (.ref 81), some (.int x1), some (.int x2), some (.int x3), some (.int (i3 1)), some (.int (i3 (-1)))] [] SI48 SJ48 (QI Q)) ∧ (¬ r47 = 0 → (0 < (lg_cmp (SJ48 81 30) (((x1).toInt64 * (SJ48 81 33)) * (SJ48 81 31))) → gj_Goes E om0 mt_235 123 [some (.ref 81), some (.int x1), some (.int x2), some (.int x3), some (.int (i3 1)), some (.int (i3 (-1)))] [] SI48 SJ48 (QI Q)) ∧ (¬ 0 < (lg_cmp (SJ48 81 30) (((x1).toInt64 * (SJ48 81 33)) * (SJ48 81 31))) → gj_Goes E om0 mt_235 22 [some (.ref 81), some (.int x1), some (.int (x2 ||| ((i3 1) <<< (x3 &&& 31)))), some (.int (x3 + (i3 1))), some (.int (i3 1)), some (.int (i3 (-1)))] [] SI48 SJ48 (QI Q)))
              refine ⟨fun c96 => ?_, fun c96 => ?_⟩
              · refine gj_goq gj_clT ok_235 [9, 18, 22, 94] ?_
                show gj_Goes E om0 mt_235 22 [some (.ref 81), some (.int x1), some (.int x2), some (.int (x3 + (i3 1))), some (.int (i3 1)), some (.int (i3 (-1)))] [] SI48 SJ48 (QI Q)
                exact gj_fh (q95.1 c96) (And.intro (Or.inr rfl) (And.intro (Or.inr rfl) (And.intro (Or.inr rfl) (And.intro (Or.inr rfl) (And.intro (Or.inl rfl) (And.intro (Or.inl rfl) trivial))))))
              · refine ⟨fun c97 => ?_, fun c97 => ?_⟩
                · refine gj_goq gj_clT ok_235 [9, 18, 22, 94] ?_
                  show gj_Goes E om0 mt_235 22 [some (.ref 81), some (.int x1), some (.int x2), some (.int (x3 + (i3 1))), some (.int (i3 1)), some (.int (i3 (-1)))] [] SI48 SJ48 (QI Q)
                  exact gj_fh ((q95.2 c96).1 (lgc_gt.mp c97)) (And.intro (Or.inr rfl) (And.intro (Or.inr rfl) (And.intro (Or.inr rfl) (And.intro (Or.inr rfl) (And.intro (Or.inl rfl) (And.intro (Or.inl rfl) trivial))))))
                · exact gj_fh ((q95.2 c96).2 (fun z_ => c97 (lgc_gt.mpr z_))) (And.intro (Or.inr rfl) (And.intro (Or.inr rfl) (And.intro (Or.inr rfl) (And.intro (Or.inr rfl) (And.intro (Or.inl rfl) (And.intro (Or.inl rfl) trivial))))))
          · refine gj_goq gj_clT ok_235 [9, 18, 22, 94] ?_
            show gj_Do E om0 (gj_mt 233) [(.ref 81), (.int (i3 1)), (.int (i3 1))] SI SJ _
            refine gj_Do.mono (((((h.2 c1).2 c2).2 c22).2 c82).2 c90) (fun v_ SI50 SJ50 h_ => ?_)
            obtain ⟨r49, rfl, q98⟩ := h_
            show gj_Goes E om0 mt_235 94 [some (.ref 81), some (.int x1), some (.int x2), some (.int x3), some (.int (i3 1)), some (.int (i3 1))] [(.int r49)] SI50 SJ50 (QI Q)
            refine gj_goq gj_clT ok_235 [9, 18, 22, 94] ?_
            show (r49 = 0 → gj_Goes E om0 mt_235 123 [some (.ref 81), some (.int x1), some (.int x2), some (.int x3), some (.int (i3 1)), some (.int (i3 1))] [] SI50 SJ50 (QI Q)) ∧ (¬ r49 = 0 → (0 < (lg_cmp (SJ50 81 30) (((x1).toInt64 * (SJ50 81 33)) * (SJ50 81 31))) → gj_Goes E om0 mt_235 123 [some (.ref 81), some (.int x1), some (.int x2), some (.int x3), some (.int (i3 1)), some (.int (i3 1))] [] SI50 SJ50 (QI Q)) ∧ (¬ 0 < (lg_cmp (SJ50 81 30) (((x1).toInt64 * (SJ50 81 33)) * (SJ50 81 31))) → gj_Goes E om0 mt_235 22 [some (.ref 81), some (.int x1), some (.int (x2 ||| ((i3 1) <<< (x3 &&& 31)))), some (.int (x3 + (i3 1))), some (.int (i3 1)), some (.int (i3 1))] [] SI50 SJ50 (QI Q)))
            refine ⟨fun c99 => ?_, fun c99 => ?_⟩
            · refine gj_goq gj_clT ok_235 [9, 18, 22, 94] ?_
              show gj_Goes E om0 mt_235 22 [some (.ref 81), some (.int x1), some (.int x2), some (.int (x3 + (i3 1))), some (.int (i3 1)), some (.int (i3 1))] [] SI50 SJ50 (QI Q)
              exact gj_fh (q98.1 c99) (And.intro (Or.inr rfl) (And.intro (Or.inr rfl) (And.intro (Or.inr rfl) (And.intro (Or.inr rfl) (And.intro (Or.inl rfl) (And.intro (Or.inl rfl) trivial))))))
            · refine ⟨fun c100 => ?_, fun c100 => ?_⟩
              · refine gj_goq gj_clT ok_235 [9, 18, 22, 94] ?_
                show gj_Goes E om0 mt_235 22 [some (.ref 81), some (.int x1), some (.int x2), some (.int (x3 + (i3 1))), some (.int (i3 1)), some (.int (i3 1))] [] SI50 SJ50 (QI Q)
                exact gj_fh ((q98.2 c99).1 (lgc_gt.mp c100)) (And.intro (Or.inr rfl) (And.intro (Or.inr rfl) (And.intro (Or.inr rfl) (And.intro (Or.inr rfl) (And.intro (Or.inl rfl) (And.intro (Or.inl rfl) trivial))))))
              · exact gj_fh ((q98.2 c99).2 (fun z_ => c100 (lgc_gt.mpr z_))) (And.intro (Or.inr rfl) (And.intro (Or.inr rfl) (And.intro (Or.inr rfl) (And.intro (Or.inr rfl) (And.intro (Or.inl rfl) (And.intro (Or.inl rfl) trivial))))))
set_option maxRecDepth 20000 in
/-- GraspJudgeModel.drawn -/
theorem st_236 {E : gj_E} {Q : Int32 → gj_I → gj_J → Prop} (a1 : Int32) (SI : gj_I) (SJ : gj_J) (h : ¬ a1 = 0 ∧ (Q (((((i3 25173) * (SI 82 34)) + (i3 13849)) - (((i3 25173) * (SI 82 34)) + (i3 13849)) / (i3 65536) * (i3 65536)) - ((((i3 25173) * (SI 82 34)) + (i3 13849)) - (((i3 25173) * (SI 82 34)) + (i3 13849)) / (i3 65536) * (i3 65536)) / a1 * a1) (gj_u2 SI 82 34 ((((i3 25173) * (SI 82 34)) + (i3 13849)) - (((i3 25173) * (SI 82 34)) + (i3 13849)) / (i3 65536) * (i3 65536))) SJ)) : DoI E 236 [(.ref 81), (.int a1)] SI SJ Q := by
  refine gj_start (M := mt_236) ok_236 (Nat.le_of_ble_eq_true rfl) ?_
  refine gj_goq gj_clT ok_236 [] ?_
  show vp_in (i3 34) 135 ∧ (¬ (i3 65536) = 0 ∧ (vp_in (i3 34) 135 ∧ (vp_in (i3 34) 135 ∧ (¬ a1 = 0 ∧ (QI Q (some (.int (((((i3 25173) * (SI 82 34)) + (i3 13849)) - (((i3 25173) * (SI 82 34)) + (i3 13849)) / (i3 65536) * (i3 65536)) - ((((i3 25173) * (SI 82 34)) + (i3 13849)) - (((i3 25173) * (SI 82 34)) + (i3 13849)) / (i3 65536) * (i3 65536)) / a1 * a1))) (gj_u2 SI 82 34 ((((i3 25173) * (SI 82 34)) + (i3 13849)) - (((i3 25173) * (SI 82 34)) + (i3 13849)) / (i3 65536) * (i3 65536))) SJ)))))
  refine ⟨(gj_vin (by decide)), ?_⟩
  refine ⟨(by decide), ?_⟩
  refine ⟨(gj_vin (by decide)), ?_⟩
  refine ⟨(gj_vin (by decide)), ?_⟩
  have k1 := h.1
  refine ⟨k1, ?_⟩
  exact ⟨_, rfl, h.2⟩
set_option maxRecDepth 20000 in
/-- GraspJudgeModel.storm -/
theorem st_237 {E : gj_E} {Q : Int32 → gj_I → gj_J → Prop} (a1 : Int32) (a2 : Int32) (SI : gj_I) (SJ : gj_J) (h : DoI E 155 [(.long (a1).toInt64), (.long (i6 1)), (.long (i6 60))] SI SJ (fun r1 SI2 SJ2 => (r1 = 0 → Q (i3 (-1)) SI2 SJ2) ∧ (¬ r1 = 0 → DoI E 155 [(.long (a2).toInt64), (.long (i6 0)), (.long (i6 10000))] SI2 SJ2 (fun r3 SI4 SJ4 => (¬ r3 = 0 → DoV E 184 [(.ref 81)] SI4 SJ4 (fun SI6 SJ6 => GoI E mt_237 44 [some (.ref 81), some (.int a1), some (.int a2), some (.int (SI6 82 34)), some (.int (i3 0)), some (.int (i3 0)), none, none, none] SI6 SJ6 Q)) ∧ (r3 = 0 → Q (i3 (-1)) SI4 SJ4))))) : DoI E 237 [(.ref 81), (.int a1), (.int a2)] SI SJ Q := by
  refine gj_start (M := mt_237) ok_237 (Nat.le_of_ble_eq_true rfl) ?_
  refine gj_goq gj_clT ok_237 [9, 21, 30, 44, 56, 67, 78, 96, 104] ?_
  show gj_Do E om0 (gj_mt 155) [(.long (a1).toInt64), (.long (i6 1)), (.long (i6 60))] SI SJ _
  refine gj_Do.mono h (fun v_ SI2 SJ2 h_ => ?_)
  obtain ⟨r1, rfl, q1⟩ := h_
  show gj_Goes E om0 mt_237 9 [some (.ref 81), some (.int a1), some (.int a2), none, none, none, none, none, none] [(.int r1)] SI2 SJ2 (QI Q)
  refine gj_goq gj_clT ok_237 [9, 21, 30, 44, 56, 67, 78, 96, 104] ?_
  show (r1 = 0 → gj_Goes E om0 mt_237 24 [some (.ref 81), some (.int a1), some (.int a2), none, none, none, none, none, none] [] SI2 SJ2 (QI Q)) ∧ (¬ r1 = 0 → gj_Do E om0 (gj_mt 155) [(.long (a2).toInt64), (.long (i6 0)), (.long (i6 10000))] SI2 SJ2 _)
  refine ⟨fun c2 => ?_, fun c2 => ?_⟩
  · refine gj_goq gj_clT ok_237 [9, 21, 30, 44, 56, 67, 78, 96, 104] ?_
    show QI Q (some (.int (i3 (-1)))) SI2 SJ2
    exact ⟨_, rfl, (q1.1 c2)⟩
  · refine gj_Do.mono (q1.2 c2) (fun v_ SI4 SJ4 h_ => ?_)
    obtain ⟨r3, rfl, q3⟩ := h_
    show gj_Goes E om0 mt_237 21 [some (.ref 81), some (.int a1), some (.int a2), none, none, none, none, none, none] [(.int r3)] SI4 SJ4 (QI Q)
    refine gj_goq gj_clT ok_237 [9, 21, 30, 44, 56, 67, 78, 96, 104] ?_
    show (¬ r3 = 0 → gj_Goes E om0 mt_237 26 [some (.ref 81), some (.int a1), some (.int a2), none, none, none, none, none, none] [] SI4 SJ4 (QI Q)) ∧ (r3 = 0 → QI Q (some (.int (i3 (-1)))) SI4 SJ4)
    refine ⟨fun c4 => ?_, fun c4 => ?_⟩
    · refine gj_goq gj_clT ok_237 [9, 21, 30, 44, 56, 67, 78, 96, 104] ?_
      show gj_Do E om0 (gj_mt 184) [(.ref 81)] SI4 SJ4 _
      refine gj_Do.mono (q3.1 c4) (fun v_ SI6 SJ6 h_ => ?_)
      obtain ⟨rfl, q5⟩ := h_
      show gj_Goes E om0 mt_237 30 [some (.ref 81), some (.int a1), some (.int a2), none, none, none, none, none, none] [] SI6 SJ6 (QI Q)
      refine gj_goq gj_clT ok_237 [9, 21, 30, 44, 56, 67, 78, 96, 104] ?_
      show vp_in (i3 34) 135 ∧ (gj_Goes E om0 mt_237 44 [some (.ref 81), some (.int a1), some (.int a2), some (.int (SI6 82 34)), some (.int (i3 0)), some (.int (i3 0)), none, none, none] [] SI6 SJ6 (QI Q))
      refine ⟨(gj_vin (by decide)), ?_⟩
      exact q5
    · exact ⟨_, rfl, (q3.2 c4)⟩
set_option maxRecDepth 20000 in
theorem lp_237_44 {E : gj_E} {Q : Int32 → gj_I → gj_J → Prop} (x1 : Int32) (x2 : Int32) (x3 : Int32) (x4 : Int32) (x5 : Int32) (SI : gj_I) (SJ : gj_J) (h : (x1 ≤ x5 → Q x4 (gj_u2 SI 82 34 x3) SJ) ∧ (¬ x1 ≤ x5 → DoI E 236 [(.ref 81), (.int (i3 21))] SI SJ (fun r1 SI2 SJ2 => DoI E 236 [(.ref 81), (.int (i3 21))] SI2 SJ2 (fun r3 SI4 SJ4 => DoI E 236 [(.ref 81), (.int (i3 101))] SI4 SJ4 (fun r5 SI6 SJ6 => DoI E 227 [(.ref 81), (.long (r1 - (i3 10)).toInt64), (.long (r3 - (i3 10)).toInt64), (.long (r5 - (i3 50)).toInt64)] SI6 SJ6 (fun r7 SI8 SJ8 => (r7 = 0 → GoI E mt_237 44 [some (.ref 81), some (.int x1), some (.int x2), some (.int x3), some (.int x4), some (.int (x5 + (i3 1))), none, none, none] SI8 SJ8 Q) ∧ (¬ r7 = 0 → DoI E 232 [(.ref 81), (.int x2)] SI8 SJ8 (fun r9 SI10 SJ10 => (r9 = 0 → GoI E mt_237 44 [some (.ref 81), some (.int x1), some (.int x2), some (.int x3), some (.int x4), some (.int (x5 + (i3 1))), none, none, none] SI10 SJ10 Q) ∧ (¬ r9 = 0 → GoI E mt_237 44 [some (.ref 81), some (.int x1), some (.int x2), some (.int x3), some (.int (x4 + (i3 1))), some (.int (x5 + (i3 1))), none, none, none] SI10 SJ10 Q))))))))) : GoI E mt_237 44 [some (.ref 81), some (.int x1), some (.int x2), some (.int x3), some (.int x4), some (.int x5), none, none, none] SI SJ Q := by
  refine gj_goq gj_clT ok_237 [9, 21, 30, 44, 56, 67, 78, 96, 104] ?_
  show (x1 ≤ x5 → gj_Goes E om0 mt_237 119 [some (.ref 81), some (.int x1), some (.int x2), some (.int x3), some (.int x4), some (.int x5), none, none, none] [] SI SJ (QI Q)) ∧ (¬ x1 ≤ x5 → gj_Do E om0 (gj_mt 236) [(.ref 81), (.int (i3 21))] SI SJ _)
  refine ⟨fun c1 => ?_, fun c1 => ?_⟩
  · refine gj_goq gj_clT ok_237 [9, 21, 30, 44, 56, 67, 78, 96, 104] ?_
    show vp_in (i3 34) 135 ∧ (QI Q (some (.int x4)) (gj_u2 SI 82 34 x3) SJ)
    refine ⟨(gj_vin (by decide)), ?_⟩
    exact ⟨_, rfl, (h.1 c1)⟩
  · refine gj_Do.mono (h.2 c1) (fun v_ SI2 SJ2 h_ => ?_)
    obtain ⟨r1, rfl, q2⟩ := h_
    show gj_Goes E om0 mt_237 56 [some (.ref 81), some (.int x1), some (.int x2), some (.int x3), some (.int x4), some (.int x5), none, none, none] [(.int r1)] SI2 SJ2 (QI Q)
    refine gj_goq gj_clT ok_237 [9, 21, 30, 44, 56, 67, 78, 96, 104] ?_
    show gj_Do E om0 (gj_mt 236) [(.ref 81), (.int (i3 21))] SI2 SJ2 _
    refine gj_Do.mono q2 (fun v_ SI4 SJ4 h_ => ?_)
    obtain ⟨r3, rfl, q3⟩ := h_
    show gj_Goes E om0 mt_237 67 [some (.ref 81), some (.int x1), some (.int x2), some (.int x3), some (.int x4), some (.int x5), some (.int (r1 - (i3 10))), none, none] [(.int r3)] SI4 SJ4 (QI Q)
    refine gj_goq gj_clT ok_237 [9, 21, 30, 44, 56, 67, 78, 96, 104] ?_
    show gj_Do E om0 (gj_mt 236) [(.ref 81), (.int (i3 101))] SI4 SJ4 _
    refine gj_Do.mono q3 (fun v_ SI6 SJ6 h_ => ?_)
    obtain ⟨r5, rfl, q4⟩ := h_
    show gj_Goes E om0 mt_237 78 [some (.ref 81), some (.int x1), some (.int x2), some (.int x3), some (.int x4), some (.int x5), some (.int (r1 - (i3 10))), some (.int (r3 - (i3 10))), none] [(.int r5)] SI6 SJ6 (QI Q)
    refine gj_goq gj_clT ok_237 [9, 21, 30, 44, 56, 67, 78, 96, 104] ?_
    show gj_Do E om0 (gj_mt 227) [(.ref 81), (.long (r1 - (i3 10)).toInt64), (.long (r3 - (i3 10)).toInt64), (.long (r5 - (i3 50)).toInt64)] SI6 SJ6 _
    refine gj_Do.mono q4 (fun v_ SI8 SJ8 h_ => ?_)
    obtain ⟨r7, rfl, q5⟩ := h_
    show gj_Goes E om0 mt_237 96 [some (.ref 81), some (.int x1), some (.int x2), some (.int x3), some (.int x4), some (.int x5), some (.int (r1 - (i3 10))), some (.int (r3 - (i3 10))), some (.int (r5 - (i3 50)))] [(.int r7)] SI8 SJ8 (QI Q)
    refine gj_goq gj_clT ok_237 [9, 21, 30, 44, 56, 67, 78, 96, 104] ?_
    show (r7 = 0 → gj_Goes E om0 mt_237 113 [some (.ref 81), some (.int x1), some (.int x2), some (.int x3), some (.int x4), some (.int x5), some (.int (r1 - (i3 10))), some (.int (r3 - (i3 10))), some (.int (r5 - (i3 50)))] [] SI8 SJ8 (QI Q)) ∧ (¬ r7 = 0 → gj_Do E om0 (gj_mt 232) [(.ref 81), (.int x2)] SI8 SJ8 _)
    refine ⟨fun c6 => ?_, fun c6 => ?_⟩
    · refine gj_goq gj_clT ok_237 [9, 21, 30, 44, 56, 67, 78, 96, 104] ?_
      show gj_Goes E om0 mt_237 44 [some (.ref 81), some (.int x1), some (.int x2), some (.int x3), some (.int x4), some (.int (x5 + (i3 1))), some (.int (r1 - (i3 10))), some (.int (r3 - (i3 10))), some (.int (r5 - (i3 50)))] [] SI8 SJ8 (QI Q)
      exact gj_fh (q5.1 c6) (And.intro (Or.inr rfl) (And.intro (Or.inr rfl) (And.intro (Or.inr rfl) (And.intro (Or.inr rfl) (And.intro (Or.inr rfl) (And.intro (Or.inr rfl) (And.intro (Or.inl rfl) (And.intro (Or.inl rfl) (And.intro (Or.inl rfl) trivial)))))))))
    · refine gj_Do.mono (q5.2 c6) (fun v_ SI10 SJ10 h_ => ?_)
      obtain ⟨r9, rfl, q7⟩ := h_
      show gj_Goes E om0 mt_237 104 [some (.ref 81), some (.int x1), some (.int x2), some (.int x3), some (.int x4), some (.int x5), some (.int (r1 - (i3 10))), some (.int (r3 - (i3 10))), some (.int (r5 - (i3 50)))] [(.int r9)] SI10 SJ10 (QI Q)
      refine gj_goq gj_clT ok_237 [9, 21, 30, 44, 56, 67, 78, 96, 104] ?_
      show (r9 = 0 → gj_Goes E om0 mt_237 113 [some (.ref 81), some (.int x1), some (.int x2), some (.int x3), some (.int x4), some (.int x5), some (.int (r1 - (i3 10))), some (.int (r3 - (i3 10))), some (.int (r5 - (i3 50)))] [] SI10 SJ10 (QI Q)) ∧ (¬ r9 = 0 → gj_Goes E om0 mt_237 44 [some (.ref 81), some (.int x1), some (.int x2), some (.int x3), some (.int (x4 + (i3 1))), some (.int (x5 + (i3 1))), some (.int (r1 - (i3 10))), some (.int (r3 - (i3 10))), some (.int (r5 - (i3 50)))] [] SI10 SJ10 (QI Q))
      refine ⟨fun c8 => ?_, fun c8 => ?_⟩
      · refine gj_goq gj_clT ok_237 [9, 21, 30, 44, 56, 67, 78, 96, 104] ?_
        show gj_Goes E om0 mt_237 44 [some (.ref 81), some (.int x1), some (.int x2), some (.int x3), some (.int x4), some (.int (x5 + (i3 1))), some (.int (r1 - (i3 10))), some (.int (r3 - (i3 10))), some (.int (r5 - (i3 50)))] [] SI10 SJ10 (QI Q)
        exact gj_fh (q7.1 c8) (And.intro (Or.inr rfl) (And.intro (Or.inr rfl) (And.intro (Or.inr rfl) (And.intro (Or.inr rfl) (And.intro (Or.inr rfl) (And.intro (Or.inr rfl) (And.intro (Or.inl rfl) (And.intro (Or.inl rfl) (And.intro (Or.inl rfl) trivial)))))))))
      · exact gj_fh (q7.2 c8) (And.intro (Or.inr rfl) (And.intro (Or.inr rfl) (And.intro (Or.inr rfl) (And.intro (Or.inr rfl) (And.intro (Or.inr rfl) (And.intro (Or.inr rfl) (And.intro (Or.inl rfl) (And.intro (Or.inl rfl) (And.intro (Or.inl rfl) trivial)))))))))
set_option maxRecDepth 20000 in
/-- GraspJudgeModel.seed -/
theorem st_238 {E : gj_E} {Q : Int32 → gj_I → gj_J → Prop} (a1 : Int32) (SI : gj_I) (SJ : gj_J) (h : DoI E 155 [(.long (a1).toInt64), (.long (i6 0)), (.long (i6 65535))] SI SJ (fun r1 SI2 SJ2 => (¬ r1 = 0 → Q (i3 1) (gj_u2 SI2 82 34 a1) SJ2) ∧ (r1 = 0 → Q (i3 0) SI2 SJ2))) : DoI E 238 [(.ref 81), (.int a1)] SI SJ Q := by
  refine gj_start (M := mt_238) ok_238 (Nat.le_of_ble_eq_true rfl) ?_
  refine gj_goq gj_clT ok_238 [9] ?_
  show gj_Do E om0 (gj_mt 155) [(.long (a1).toInt64), (.long (i6 0)), (.long (i6 65535))] SI SJ _
  refine gj_Do.mono h (fun v_ SI2 SJ2 h_ => ?_)
  obtain ⟨r1, rfl, q1⟩ := h_
  show gj_Goes E om0 mt_238 9 [some (.ref 81), some (.int a1)] [(.int r1)] SI2 SJ2 (QI Q)
  refine gj_goq gj_clT ok_238 [9] ?_
  show (¬ r1 = 0 → gj_Goes E om0 mt_238 14 [some (.ref 81), some (.int a1)] [] SI2 SJ2 (QI Q)) ∧ (r1 = 0 → ((i3 0) = 0 ∨ (i3 0) = 1) ∧ (QI Q (some (.int (i3 0))) SI2 SJ2))
  refine ⟨fun c2 => ?_, fun c2 => ?_⟩
  · refine gj_goq gj_clT ok_238 [9] ?_
    show vp_in (i3 34) 135 ∧ (((i3 1) = 0 ∨ (i3 1) = 1) ∧ (QI Q (some (.int (i3 1))) (gj_u2 SI2 82 34 a1) SJ2))
    refine ⟨(gj_vin (by decide)), ?_⟩
    refine ⟨(Or.inr rfl), ?_⟩
    exact ⟨_, rfl, (q1.1 c2)⟩
  · refine ⟨(Or.inl rfl), ?_⟩
    exact ⟨_, rfl, (q1.2 c2)⟩
set_option maxRecDepth 20000 in
/-- GraspJudgeModel.load -/
theorem st_239 {E : gj_E} {Q : Int64 → gj_I → gj_J → Prop} (a1 : Int32) (SI : gj_I) (SJ : gj_J) (h : DoI E 155 [(.long (a1).toInt64), (.long (i6 0)), (.long (i6 5))] SI SJ (fun r1 SI2 SJ2 => (¬ r1 = 0 → DoV E 184 [(.ref 81)] SI2 SJ2 (fun SI4 SJ4 => GoL E mt_239 43 [some (.ref 81), some (.int a1), some (.int (i3 0)), some (.long (i6 (-2))), none, some (.long (i6 (-2))), none, some (.long (i6 0)), none, some (.long (i6 0)), none, some (.long (i6 0)), none, some (.int (i3 0)), none] SI4 SJ4 Q)) ∧ (r1 = 0 → Q (i6 (-9000000000000000000)) SI2 SJ2))) : DoL E 239 [(.ref 81), (.int a1)] SI SJ Q := by
  refine gj_start (M := mt_239) ok_239 (Nat.le_of_ble_eq_true rfl) ?_
  refine gj_goq gj_clT ok_239 [9, 20, 43, 139, 255] ?_
  show gj_Do E om0 (gj_mt 155) [(.long (a1).toInt64), (.long (i6 0)), (.long (i6 5))] SI SJ _
  refine gj_Do.mono h (fun v_ SI2 SJ2 h_ => ?_)
  obtain ⟨r1, rfl, q1⟩ := h_
  show gj_Goes E om0 mt_239 9 [some (.ref 81), some (.int a1), none, none, none, none, none, none, none, none, none, none, none, none, none] [(.int r1)] SI2 SJ2 (QL Q)
  refine gj_goq gj_clT ok_239 [9, 20, 43, 139, 255] ?_
  show (¬ r1 = 0 → gj_Goes E om0 mt_239 16 [some (.ref 81), some (.int a1), none, none, none, none, none, none, none, none, none, none, none, none, none] [] SI2 SJ2 (QL Q)) ∧ (r1 = 0 → QL Q (some (.long (i6 (-9000000000000000000)))) SI2 SJ2)
  refine ⟨fun c2 => ?_, fun c2 => ?_⟩
  · refine gj_goq gj_clT ok_239 [9, 20, 43, 139, 255] ?_
    show gj_Do E om0 (gj_mt 184) [(.ref 81)] SI2 SJ2 _
    refine gj_Do.mono (q1.1 c2) (fun v_ SI4 SJ4 h_ => ?_)
    obtain ⟨rfl, q3⟩ := h_
    show gj_Goes E om0 mt_239 20 [some (.ref 81), some (.int a1), none, none, none, none, none, none, none, none, none, none, none, none, none] [] SI4 SJ4 (QL Q)
    refine gj_goq gj_clT ok_239 [9, 20, 43, 139, 255] ?_
    show gj_Goes E om0 mt_239 43 [some (.ref 81), some (.int a1), some (.int (i3 0)), some (.long (i6 (-2))), none, some (.long (i6 (-2))), none, some (.long (i6 0)), none, some (.long (i6 0)), none, some (.long (i6 0)), none, some (.int (i3 0)), none] [] SI4 SJ4 (QL Q)
    exact q3
  · exact ⟨_, rfl, (q1.2 c2)⟩
set_option maxRecDepth 20000 in
theorem lp_239_43 {E : gj_E} {Q : Int64 → gj_I → gj_J → Prop} (x1 : Int32) (x2 : Int32) (x3 : Int64) (x5 : Int64) (x7 : Int64) (x9 : Int64) (x11 : Int64) (x13 : Int32) (SI : gj_I) (SJ : gj_J) (h : ((SI 82 116) ≤ x13 → (x1 = (i3 0) → Q (SI 82 116).toInt64 SI SJ) ∧ (x1 = (i3 1) → Q (x2).toInt64 SI SJ) ∧ (x1 = (i3 2) → Q x3 SI SJ) ∧ (x1 = (i3 3) → Q x5 SI SJ) ∧ (x1.toInt < 0 ∨ 3 < x1.toInt → DoI E 227 [(.ref 81), (.long x7), (.long x9), (.long x11)] SI SJ (fun r1 SI2 SJ2 => (¬ r1 = 0 → (¬ x1 = (i3 4) → Q (SJ2 81 31) SI2 SJ2) ∧ (x1 = (i3 4) → Q (SJ2 81 30) SI2 SJ2)) ∧ (r1 = 0 → Q (i6 (-2)) SI2 SJ2)))) ∧ (¬ (SI 82 116) ≤ x13 → vp_in ((i3 117) + ((i3 3) * x13)) 135 ∧ (vp_in (((i3 117) + ((i3 3) * x13)) + (i3 1)) 135 ∧ (vp_in (((i3 117) + ((i3 3) * x13)) + (i3 2)) 135 ∧ (DoI E 227 [(.ref 81), (.long (SI 82 (gj_n ((i3 117) + ((i3 3) * x13)))).toInt64), (.long (SI 82 (gj_n (((i3 117) + ((i3 3) * x13)) + (i3 1)))).toInt64), (.long (SI 82 (gj_n (((i3 117) + ((i3 3) * x13)) + (i3 2)))).toInt64)] SI SJ (fun r3 SI4 SJ4 => (¬ r3 = 0 → (x5 ≤ (i6 0) → GoL E mt_239 43 [some (.ref 81), some (.int x1), some (.int (x2 ||| ((i3 1) <<< (x13 &&& 31)))), some (.long (SJ4 81 30)), none, some (.long (SJ4 81 31)), none, some (.long (x7 + (SI 82 (gj_n ((i3 117) + ((i3 3) * x13)))).toInt64)), none, some (.long (x9 + (SI 82 (gj_n (((i3 117) + ((i3 3) * x13)) + (i3 1)))).toInt64)), none, some (.long (x11 + (SI 82 (gj_n (((i3 117) + ((i3 3) * x13)) + (i3 2)))).toInt64)), none, some (.int (x13 + (i3 1))), none] SI4 SJ4 Q) ∧ (¬ x5 ≤ (i6 0) → (((SJ4 81 30) * x5) > (x3 * (SJ4 81 31)) → GoL E mt_239 43 [some (.ref 81), some (.int x1), some (.int (x2 ||| ((i3 1) <<< (x13 &&& 31)))), some (.long (SJ4 81 30)), none, some (.long (SJ4 81 31)), none, some (.long (x7 + (SI 82 (gj_n ((i3 117) + ((i3 3) * x13)))).toInt64)), none, some (.long (x9 + (SI 82 (gj_n (((i3 117) + ((i3 3) * x13)) + (i3 1)))).toInt64)), none, some (.long (x11 + (SI 82 (gj_n (((i3 117) + ((i3 3) * x13)) + (i3 2)))).toInt64)), none, some (.int (x13 + (i3 1))), none] SI4 SJ4 Q) ∧ (¬ ((SJ4 81 30) * x5) > (x3 * (SJ4 81 31)) → GoL E mt_239 43 [some (.ref 81), some (.int x1), some (.int (x2 ||| ((i3 1) <<< (x13 &&& 31)))), some (.long x3), none, some (.long x5), none, some (.long (x7 + (SI 82 (gj_n ((i3 117) + ((i3 3) * x13)))).toInt64)), none, some (.long (x9 + (SI 82 (gj_n (((i3 117) + ((i3 3) * x13)) + (i3 1)))).toInt64)), none, some (.long (x11 + (SI 82 (gj_n (((i3 117) + ((i3 3) * x13)) + (i3 2)))).toInt64)), none, some (.int (x13 + (i3 1))), none] SI4 SJ4 Q))) ∧ (r3 = 0 → GoL E mt_239 43 [some (.ref 81), some (.int x1), some (.int x2), some (.long x3), none, some (.long x5), none, some (.long (x7 + (SI 82 (gj_n ((i3 117) + ((i3 3) * x13)))).toInt64)), none, some (.long (x9 + (SI 82 (gj_n (((i3 117) + ((i3 3) * x13)) + (i3 1)))).toInt64)), none, some (.long (x11 + (SI 82 (gj_n (((i3 117) + ((i3 3) * x13)) + (i3 2)))).toInt64)), none, some (.int (x13 + (i3 1))), none] SI4 SJ4 Q))))))) : GoL E mt_239 43 [some (.ref 81), some (.int x1), some (.int x2), some (.long x3), none, some (.long x5), none, some (.long x7), none, some (.long x9), none, some (.long x11), none, some (.int x13), none] SI SJ Q := by
  refine gj_goq gj_clT ok_239 [9, 20, 43, 139, 255] ?_
  show vp_in (i3 116) 135 ∧ (((SI 82 116) ≤ x13 → gj_Goes E om0 mt_239 196 [some (.ref 81), some (.int x1), some (.int x2), some (.long x3), none, some (.long x5), none, some (.long x7), none, some (.long x9), none, some (.long x11), none, some (.int x13), none] [] SI SJ (QL Q)) ∧ (¬ (SI 82 116) ≤ x13 → vp_in ((i3 117) + ((i3 3) * x13)) 135 ∧ (vp_in (((i3 117) + ((i3 3) * x13)) + (i3 1)) 135 ∧ (vp_in (((i3 117) + ((i3 3) * x13)) + (i3 2)) 135 ∧ (vp_in ((i3 117) + ((i3 3) * x13)) 135 ∧ (vp_in (((i3 117) + ((i3 3) * x13)) + (i3 1)) 135 ∧ (vp_in (((i3 117) + ((i3 3) * x13)) + (i3 2)) 135 ∧ (gj_Do E om0 (gj_mt 227) [(.ref 81), (.long (SI 82 (gj_n ((i3 117) + ((i3 3) * x13)))).toInt64), (.long (SI 82 (gj_n (((i3 117) + ((i3 3) * x13)) + (i3 1)))).toInt64), (.long (SI 82 (gj_n (((i3 117) + ((i3 3) * x13)) + (i3 2)))).toInt64)] SI SJ _))))))))
  refine ⟨(gj_vin (by decide)), ?_⟩
  refine ⟨fun c1 => ?_, fun c1 => ?_⟩
  · refine gj_goq gj_clT ok_239 [9, 20, 43, 139, 255] ?_
    show ((x1 = Int32.ofInt (0) → gj_Goes E om0 mt_239 228 [some (.ref 81), some (.int x1), some (.int x2), some (.long x3), none, some (.long x5), none, some (.long x7), none, some (.long x9), none, some (.long x11), none, some (.int x13), none] [] SI SJ (QL Q)) ∧ (x1 = Int32.ofInt (1) → gj_Goes E om0 mt_239 237 [some (.ref 81), some (.int x1), some (.int x2), some (.long x3), none, some (.long x5), none, some (.long x7), none, some (.long x9), none, some (.long x11), none, some (.int x13), none] [] SI SJ (QL Q)) ∧ (x1 = Int32.ofInt (2) → gj_Goes E om0 mt_239 240 [some (.ref 81), some (.int x1), some (.int x2), some (.long x3), none, some (.long x5), none, some (.long x7), none, some (.long x9), none, some (.long x11), none, some (.int x13), none] [] SI SJ (QL Q)) ∧ (x1 = Int32.ofInt (3) → gj_Goes E om0 mt_239 242 [some (.ref 81), some (.int x1), some (.int x2), some (.long x3), none, some (.long x5), none, some (.long x7), none, some (.long x9), none, some (.long x11), none, some (.int x13), none] [] SI SJ (QL Q)) ∧ True) ∧ (x1.toInt < 0 ∨ 3 < x1.toInt → gj_Goes E om0 mt_239 245 [some (.ref 81), some (.int x1), some (.int x2), some (.long x3), none, some (.long x5), none, some (.long x7), none, some (.long x9), none, some (.long x11), none, some (.int x13), none] [] SI SJ (QL Q))
    refine ⟨⟨fun c2 => ?_, ⟨fun c2 => ?_, ⟨fun c2 => ?_, ⟨fun c2 => ?_, trivial⟩⟩⟩⟩, fun c2 => ?_⟩
    · refine gj_goq gj_clT ok_239 [9, 20, 43, 139, 255] ?_
      show vp_in (i3 116) 135 ∧ (QL Q (some (.long (SI 82 116).toInt64)) SI SJ)
      refine ⟨(gj_vin (by decide)), ?_⟩
      exact ⟨_, rfl, ((h.1 c1).1 c2)⟩
    · refine gj_goq gj_clT ok_239 [9, 20, 43, 139, 255] ?_
      show QL Q (some (.long (x2).toInt64)) SI SJ
      exact ⟨_, rfl, ((h.1 c1).2.1 c2)⟩
    · refine gj_goq gj_clT ok_239 [9, 20, 43, 139, 255] ?_
      show QL Q (some (.long x3)) SI SJ
      exact ⟨_, rfl, ((h.1 c1).2.2.1 c2)⟩
    · refine gj_goq gj_clT ok_239 [9, 20, 43, 139, 255] ?_
      show QL Q (some (.long x5)) SI SJ
      exact ⟨_, rfl, ((h.1 c1).2.2.2.1 c2)⟩
    · refine gj_goq gj_clT ok_239 [9, 20, 43, 139, 255] ?_
      show gj_Do E om0 (gj_mt 227) [(.ref 81), (.long x7), (.long x9), (.long x11)] SI SJ _
      refine gj_Do.mono ((h.1 c1).2.2.2.2 c2) (fun v_ SI2 SJ2 h_ => ?_)
      obtain ⟨r1, rfl, q3⟩ := h_
      show gj_Goes E om0 mt_239 255 [some (.ref 81), some (.int x1), some (.int x2), some (.long x3), none, some (.long x5), none, some (.long x7), none, some (.long x9), none, some (.long x11), none, some (.int x13), none] [(.int r1)] SI2 SJ2 (QL Q)
      refine gj_goq gj_clT ok_239 [9, 20, 43, 139, 255] ?_
      show (¬ r1 = 0 → gj_Goes E om0 mt_239 264 [some (.ref 81), some (.int x1), some (.int x2), some (.long x3), none, some (.long x5), none, some (.long x7), none, some (.long x9), none, some (.long x11), none, some (.int x13), none] [] SI2 SJ2 (QL Q)) ∧ (r1 = 0 → gj_Goes E om0 mt_239 280 [some (.ref 81), some (.int x1), some (.int x2), some (.long x3), none, some (.long x5), none, some (.long x7), none, some (.long x9), none, some (.long x11), none, some (.int x13), none] [(.long (i6 (-2)))] SI2 SJ2 (QL Q))
      refine ⟨fun c4 => ?_, fun c4 => ?_⟩
      · refine gj_goq gj_clT ok_239 [9, 20, 43, 139, 255] ?_
        show (¬ x1 = (i3 4) → gj_Goes E om0 mt_239 276 [some (.ref 81), some (.int x1), some (.int x2), some (.long x3), none, some (.long x5), none, some (.long x7), none, some (.long x9), none, some (.long x11), none, some (.int x13), none] [] SI2 SJ2 (QL Q)) ∧ (x1 = (i3 4) → gj_Goes E om0 mt_239 280 [some (.ref 81), some (.int x1), some (.int x2), some (.long x3), none, some (.long x5), none, some (.long x7), none, some (.long x9), none, some (.long x11), none, some (.int x13), none] [(.long (SJ2 81 30))] SI2 SJ2 (QL Q))
        refine ⟨fun c5 => ?_, fun c5 => ?_⟩
        · refine gj_goq gj_clT ok_239 [9, 20, 43, 139, 255] ?_
          show QL Q (some (.long (SJ2 81 31))) SI2 SJ2
          exact ⟨_, rfl, ((q3.1 c4).1 c5)⟩
        · refine gj_goq gj_clT ok_239 [9, 20, 43, 139, 255] ?_
          show QL Q (some (.long (SJ2 81 30))) SI2 SJ2
          exact ⟨_, rfl, ((q3.1 c4).2 c5)⟩
      · refine gj_goq gj_clT ok_239 [9, 20, 43, 139, 255] ?_
        show QL Q (some (.long (i6 (-2)))) SI2 SJ2
        exact ⟨_, rfl, (q3.2 c4)⟩
  · have k6 := (h.2 c1).1
    refine ⟨k6, ?_⟩
    have k7 := (h.2 c1).2.1
    refine ⟨k7, ?_⟩
    have k8 := (h.2 c1).2.2.1
    refine ⟨k8, ?_⟩
    refine ⟨k6, ?_⟩
    refine ⟨k7, ?_⟩
    refine ⟨k8, ?_⟩
    refine gj_Do.mono (h.2 c1).2.2.2 (fun v_ SI4 SJ4 h_ => ?_)
    obtain ⟨r3, rfl, q9⟩ := h_
    show gj_Goes E om0 mt_239 139 [some (.ref 81), some (.int x1), some (.int x2), some (.long x3), none, some (.long x5), none, some (.long (x7 + (SI 82 (gj_n ((i3 117) + ((i3 3) * x13)))).toInt64)), none, some (.long (x9 + (SI 82 (gj_n (((i3 117) + ((i3 3) * x13)) + (i3 1)))).toInt64)), none, some (.long (x11 + (SI 82 (gj_n (((i3 117) + ((i3 3) * x13)) + (i3 2)))).toInt64)), none, some (.int x13), some (.int ((i3 117) + ((i3 3) * x13)))] [(.int r3)] SI4 SJ4 (QL Q)
    refine gj_goq gj_clT ok_239 [9, 20, 43, 139, 255] ?_
    show (¬ r3 = 0 → gj_Goes E om0 mt_239 145 [some (.ref 81), some (.int x1), some (.int x2), some (.long x3), none, some (.long x5), none, some (.long (x7 + (SI 82 (gj_n ((i3 117) + ((i3 3) * x13)))).toInt64)), none, some (.long (x9 + (SI 82 (gj_n (((i3 117) + ((i3 3) * x13)) + (i3 1)))).toInt64)), none, some (.long (x11 + (SI 82 (gj_n (((i3 117) + ((i3 3) * x13)) + (i3 2)))).toInt64)), none, some (.int x13), some (.int ((i3 117) + ((i3 3) * x13)))] [] SI4 SJ4 (QL Q)) ∧ (r3 = 0 → gj_Goes E om0 mt_239 190 [some (.ref 81), some (.int x1), some (.int x2), some (.long x3), none, some (.long x5), none, some (.long (x7 + (SI 82 (gj_n ((i3 117) + ((i3 3) * x13)))).toInt64)), none, some (.long (x9 + (SI 82 (gj_n (((i3 117) + ((i3 3) * x13)) + (i3 1)))).toInt64)), none, some (.long (x11 + (SI 82 (gj_n (((i3 117) + ((i3 3) * x13)) + (i3 2)))).toInt64)), none, some (.int x13), some (.int ((i3 117) + ((i3 3) * x13)))] [] SI4 SJ4 (QL Q))
    refine ⟨fun c10 => ?_, fun c10 => ?_⟩
    · refine gj_goq gj_clT ok_239 [9, 20, 43, 139, 255] ?_
      show ((lg_cmp x5 (i6 0)) ≤ 0 → gj_Goes E om0 mt_239 179 [some (.ref 81), some (.int x1), some (.int (x2 ||| ((i3 1) <<< (x13 &&& 31)))), some (.long x3), none, some (.long x5), none, some (.long (x7 + (SI 82 (gj_n ((i3 117) + ((i3 3) * x13)))).toInt64)), none, some (.long (x9 + (SI 82 (gj_n (((i3 117) + ((i3 3) * x13)) + (i3 1)))).toInt64)), none, some (.long (x11 + (SI 82 (gj_n (((i3 117) + ((i3 3) * x13)) + (i3 2)))).toInt64)), none, some (.int x13), some (.int ((i3 117) + ((i3 3) * x13)))] [] SI4 SJ4 (QL Q)) ∧ (¬ (lg_cmp x5 (i6 0)) ≤ 0 → (0 < (lg_cmp ((SJ4 81 30) * x5) (x3 * (SJ4 81 31))) → gj_Goes E om0 mt_239 179 [some (.ref 81), some (.int x1), some (.int (x2 ||| ((i3 1) <<< (x13 &&& 31)))), some (.long x3), none, some (.long x5), none, some (.long (x7 + (SI 82 (gj_n ((i3 117) + ((i3 3) * x13)))).toInt64)), none, some (.long (x9 + (SI 82 (gj_n (((i3 117) + ((i3 3) * x13)) + (i3 1)))).toInt64)), none, some (.long (x11 + (SI 82 (gj_n (((i3 117) + ((i3 3) * x13)) + (i3 2)))).toInt64)), none, some (.int x13), some (.int ((i3 117) + ((i3 3) * x13)))] [] SI4 SJ4 (QL Q)) ∧ (¬ 0 < (lg_cmp ((SJ4 81 30) * x5) (x3 * (SJ4 81 31))) → gj_Goes E om0 mt_239 190 [some (.ref 81), some (.int x1), some (.int (x2 ||| ((i3 1) <<< (x13 &&& 31)))), some (.long x3), none, some (.long x5), none, some (.long (x7 + (SI 82 (gj_n ((i3 117) + ((i3 3) * x13)))).toInt64)), none, some (.long (x9 + (SI 82 (gj_n (((i3 117) + ((i3 3) * x13)) + (i3 1)))).toInt64)), none, some (.long (x11 + (SI 82 (gj_n (((i3 117) + ((i3 3) * x13)) + (i3 2)))).toInt64)), none, some (.int x13), some (.int ((i3 117) + ((i3 3) * x13)))] [] SI4 SJ4 (QL Q)))
      refine ⟨fun c11 => ?_, fun c11 => ?_⟩
      · refine gj_goq gj_clT ok_239 [9, 20, 43, 139, 255] ?_
        show gj_Goes E om0 mt_239 43 [some (.ref 81), some (.int x1), some (.int (x2 ||| ((i3 1) <<< (x13 &&& 31)))), some (.long (SJ4 81 30)), none, some (.long (SJ4 81 31)), none, some (.long (x7 + (SI 82 (gj_n ((i3 117) + ((i3 3) * x13)))).toInt64)), none, some (.long (x9 + (SI 82 (gj_n (((i3 117) + ((i3 3) * x13)) + (i3 1)))).toInt64)), none, some (.long (x11 + (SI 82 (gj_n (((i3 117) + ((i3 3) * x13)) + (i3 2)))).toInt64)), none, some (.int (x13 + (i3 1))), some (.int ((i3 117) + ((i3 3) * x13)))] [] SI4 SJ4 (QL Q)
        exact gj_fh ((q9.1 c10).1 (lgc_le.mp c11)) (And.intro (Or.inr rfl) (And.intro (Or.inr rfl) (And.intro (Or.inr rfl) (And.intro (Or.inr rfl) (And.intro (Or.inl rfl) (And.intro (Or.inr rfl) (And.intro (Or.inl rfl) (And.intro (Or.inr rfl) (And.intro (Or.inl rfl) (And.intro (Or.inr rfl) (And.intro (Or.inl rfl) (And.intro (Or.inr rfl) (And.intro (Or.inl rfl) (And.intro (Or.inr rfl) (And.intro (Or.inl rfl) trivial)))))))))))))))
      · refine ⟨fun c12 => ?_, fun c12 => ?_⟩
        · refine gj_goq gj_clT ok_239 [9, 20, 43, 139, 255] ?_
          show gj_Goes E om0 mt_239 43 [some (.ref 81), some (.int x1), some (.int (x2 ||| ((i3 1) <<< (x13 &&& 31)))), some (.long (SJ4 81 30)), none, some (.long (SJ4 81 31)), none, some (.long (x7 + (SI 82 (gj_n ((i3 117) + ((i3 3) * x13)))).toInt64)), none, some (.long (x9 + (SI 82 (gj_n (((i3 117) + ((i3 3) * x13)) + (i3 1)))).toInt64)), none, some (.long (x11 + (SI 82 (gj_n (((i3 117) + ((i3 3) * x13)) + (i3 2)))).toInt64)), none, some (.int (x13 + (i3 1))), some (.int ((i3 117) + ((i3 3) * x13)))] [] SI4 SJ4 (QL Q)
          exact gj_fh (((q9.1 c10).2 (fun z_ => c11 (lgc_le.mpr z_))).1 (lgc_gt.mp c12)) (And.intro (Or.inr rfl) (And.intro (Or.inr rfl) (And.intro (Or.inr rfl) (And.intro (Or.inr rfl) (And.intro (Or.inl rfl) (And.intro (Or.inr rfl) (And.intro (Or.inl rfl) (And.intro (Or.inr rfl) (And.intro (Or.inl rfl) (And.intro (Or.inr rfl) (And.intro (Or.inl rfl) (And.intro (Or.inr rfl) (And.intro (Or.inl rfl) (And.intro (Or.inr rfl) (And.intro (Or.inl rfl) trivial)))))))))))))))
        · refine gj_goq gj_clT ok_239 [9, 20, 43, 139, 255] ?_
          show gj_Goes E om0 mt_239 43 [some (.ref 81), some (.int x1), some (.int (x2 ||| ((i3 1) <<< (x13 &&& 31)))), some (.long x3), none, some (.long x5), none, some (.long (x7 + (SI 82 (gj_n ((i3 117) + ((i3 3) * x13)))).toInt64)), none, some (.long (x9 + (SI 82 (gj_n (((i3 117) + ((i3 3) * x13)) + (i3 1)))).toInt64)), none, some (.long (x11 + (SI 82 (gj_n (((i3 117) + ((i3 3) * x13)) + (i3 2)))).toInt64)), none, some (.int (x13 + (i3 1))), some (.int ((i3 117) + ((i3 3) * x13)))] [] SI4 SJ4 (QL Q)
          exact gj_fh (((q9.1 c10).2 (fun z_ => c11 (lgc_le.mpr z_))).2 (fun z_ => c12 (lgc_gt.mpr z_))) (And.intro (Or.inr rfl) (And.intro (Or.inr rfl) (And.intro (Or.inr rfl) (And.intro (Or.inr rfl) (And.intro (Or.inl rfl) (And.intro (Or.inr rfl) (And.intro (Or.inl rfl) (And.intro (Or.inr rfl) (And.intro (Or.inl rfl) (And.intro (Or.inr rfl) (And.intro (Or.inl rfl) (And.intro (Or.inr rfl) (And.intro (Or.inl rfl) (And.intro (Or.inr rfl) (And.intro (Or.inl rfl) trivial)))))))))))))))
    · refine gj_goq gj_clT ok_239 [9, 20, 43, 139, 255] ?_
      show gj_Goes E om0 mt_239 43 [some (.ref 81), some (.int x1), some (.int x2), some (.long x3), none, some (.long x5), none, some (.long (x7 + (SI 82 (gj_n ((i3 117) + ((i3 3) * x13)))).toInt64)), none, some (.long (x9 + (SI 82 (gj_n (((i3 117) + ((i3 3) * x13)) + (i3 1)))).toInt64)), none, some (.long (x11 + (SI 82 (gj_n (((i3 117) + ((i3 3) * x13)) + (i3 2)))).toInt64)), none, some (.int (x13 + (i3 1))), some (.int ((i3 117) + ((i3 3) * x13)))] [] SI4 SJ4 (QL Q)
      exact gj_fh (q9.2 c10) (And.intro (Or.inr rfl) (And.intro (Or.inr rfl) (And.intro (Or.inr rfl) (And.intro (Or.inr rfl) (And.intro (Or.inl rfl) (And.intro (Or.inr rfl) (And.intro (Or.inl rfl) (And.intro (Or.inr rfl) (And.intro (Or.inl rfl) (And.intro (Or.inr rfl) (And.intro (Or.inl rfl) (And.intro (Or.inr rfl) (And.intro (Or.inl rfl) (And.intro (Or.inr rfl) (And.intro (Or.inl rfl) trivial)))))))))))))))
set_option maxRecDepth 20000 in
/-- GraspJudgeModel.findsFree -/
theorem st_240 {E : gj_E} {Q : Int32 → gj_I → gj_J → Prop} (SI : gj_I) (SJ : gj_J) (h : DoV E 184 [(.ref 81)] SI SJ (fun SI2 SJ2 => DoI E 185 [(.ref 81)] SI2 SJ2 (fun r3 SI4 SJ4 => DoI E 193 [(.ref 81), (.int r3)] SI4 SJ4 (fun r5 SI6 SJ6 => ((i3 3) ≤ r5 → GoI E mt_240 27 [some (.ref 81), none, some (.int (i3 0)), none] SI6 SJ6 Q) ∧ (¬ (i3 3) ≤ r5 → DoV E 243 [(.ref 81), (.int r5)] SI6 SJ6 (fun SI8 SJ8 => Q (i3 1) SI8 SJ8)))))) : DoI E 240 [(.ref 81)] SI SJ Q := by
  refine gj_start (M := mt_240) ok_240 (Nat.le_of_ble_eq_true rfl) ?_
  refine gj_goq gj_clT ok_240 [4, 9, 12, 23, 27, 39, 53] ?_
  show gj_Do E om0 (gj_mt 184) [(.ref 81)] SI SJ _
  refine gj_Do.mono h (fun v_ SI2 SJ2 h_ => ?_)
  obtain ⟨rfl, q1⟩ := h_
  show gj_Goes E om0 mt_240 4 [some (.ref 81), none, none, none] [] SI2 SJ2 (QI Q)
  refine gj_goq gj_clT ok_240 [4, 9, 12, 23, 27, 39, 53] ?_
  show gj_Do E om0 (gj_mt 185) [(.ref 81)] SI2 SJ2 _
  refine gj_Do.mono q1 (fun v_ SI4 SJ4 h_ => ?_)
  obtain ⟨r3, rfl, q2⟩ := h_
  show gj_Goes E om0 mt_240 9 [some (.ref 81), none, none, none] [(.int r3), (.ref 81)] SI4 SJ4 (QI Q)
  refine gj_goq gj_clT ok_240 [4, 9, 12, 23, 27, 39, 53] ?_
  show gj_Do E om0 (gj_mt 193) [(.ref 81), (.int r3)] SI4 SJ4 _
  refine gj_Do.mono q2 (fun v_ SI6 SJ6 h_ => ?_)
  obtain ⟨r5, rfl, q3⟩ := h_
  show gj_Goes E om0 mt_240 12 [some (.ref 81), none, none, none] [(.int r5)] SI6 SJ6 (QI Q)
  refine gj_goq gj_clT ok_240 [4, 9, 12, 23, 27, 39, 53] ?_
  show ((i3 3) ≤ r5 → gj_Goes E om0 mt_240 25 [some (.ref 81), some (.int r5), none, none] [] SI6 SJ6 (QI Q)) ∧ (¬ (i3 3) ≤ r5 → gj_Do E om0 (gj_mt 243) [(.ref 81), (.int r5)] SI6 SJ6 _)
  refine ⟨fun c4 => ?_, fun c4 => ?_⟩
  · refine gj_goq gj_clT ok_240 [4, 9, 12, 23, 27, 39, 53] ?_
    show gj_Goes E om0 mt_240 27 [some (.ref 81), some (.int r5), some (.int (i3 0)), none] [] SI6 SJ6 (QI Q)
    exact gj_fh (q3.1 c4) (And.intro (Or.inr rfl) (And.intro (Or.inl rfl) (And.intro (Or.inr rfl) (And.intro (Or.inl rfl) trivial))))
  · refine gj_Do.mono (q3.2 c4) (fun v_ SI8 SJ8 h_ => ?_)
    obtain ⟨rfl, q5⟩ := h_
    show gj_Goes E om0 mt_240 23 [some (.ref 81), some (.int r5), none, none] [] SI8 SJ8 (QI Q)
    refine gj_goq gj_clT ok_240 [4, 9, 12, 23, 27, 39, 53] ?_
    show ((i3 1) = 0 ∨ (i3 1) = 1) ∧ (QI Q (some (.int (i3 1))) SI8 SJ8)
    refine ⟨(Or.inr rfl), ?_⟩
    exact ⟨_, rfl, q5⟩
set_option maxRecDepth 20000 in
theorem lp_240_27 {E : gj_E} {Q : Int32 → gj_I → gj_J → Prop} (x2 : Int32) (SI : gj_I) (SJ : gj_J) (h : ((SI 81 8) ≤ x2 → Q (i3 0) SI SJ) ∧ (¬ (SI 81 8) ≤ x2 → GoI E mt_240 39 [some (.ref 81), none, some (.int x2), some (.int (x2 + (i3 1)))] SI SJ Q)) : GoI E mt_240 27 [some (.ref 81), none, some (.int x2), none] SI SJ Q := by
  refine gj_goq gj_clT ok_240 [4, 9, 12, 23, 27, 39, 53] ?_
  show ((SI 81 8) ≤ x2 → gj_Goes E om0 mt_240 70 [some (.ref 81), none, some (.int x2), none] [] SI SJ (QI Q)) ∧ (¬ (SI 81 8) ≤ x2 → gj_Goes E om0 mt_240 39 [some (.ref 81), none, some (.int x2), some (.int (x2 + (i3 1)))] [] SI SJ (QI Q))
  refine ⟨fun c1 => ?_, fun c1 => ?_⟩
  · refine gj_goq gj_clT ok_240 [4, 9, 12, 23, 27, 39, 53] ?_
    show ((i3 0) = 0 ∨ (i3 0) = 1) ∧ (QI Q (some (.int (i3 0))) SI SJ)
    refine ⟨(Or.inl rfl), ?_⟩
    exact ⟨_, rfl, (h.1 c1)⟩
  · exact (h.2 c1)
set_option maxRecDepth 20000 in
theorem lp_240_39 {E : gj_E} {Q : Int32 → gj_I → gj_J → Prop} (x2 : Int32) (x3 : Int32) (SI : gj_I) (SJ : gj_J) (h : ((SI 81 8) ≤ x3 → GoI E mt_240 27 [some (.ref 81), none, some (.int (x2 + (i3 1))), none] SI SJ Q) ∧ (¬ (SI 81 8) ≤ x3 → DoI E 241 [(.ref 81), (.int x2), (.int x3)] SI SJ (fun r1 SI2 SJ2 => (r1 = 0 → GoI E mt_240 39 [some (.ref 81), none, some (.int x2), some (.int (x3 + (i3 1)))] SI2 SJ2 Q) ∧ (¬ r1 = 0 → Q (i3 1) SI2 SJ2)))) : GoI E mt_240 39 [some (.ref 81), none, some (.int x2), some (.int x3)] SI SJ Q := by
  refine gj_goq gj_clT ok_240 [4, 9, 12, 23, 27, 39, 53] ?_
  show ((SI 81 8) ≤ x3 → gj_Goes E om0 mt_240 64 [some (.ref 81), none, some (.int x2), some (.int x3)] [] SI SJ (QI Q)) ∧ (¬ (SI 81 8) ≤ x3 → gj_Do E om0 (gj_mt 241) [(.ref 81), (.int x2), (.int x3)] SI SJ _)
  refine ⟨fun c1 => ?_, fun c1 => ?_⟩
  · refine gj_goq gj_clT ok_240 [4, 9, 12, 23, 27, 39, 53] ?_
    show gj_Goes E om0 mt_240 27 [some (.ref 81), none, some (.int (x2 + (i3 1))), some (.int x3)] [] SI SJ (QI Q)
    exact gj_fh (h.1 c1) (And.intro (Or.inr rfl) (And.intro (Or.inl rfl) (And.intro (Or.inr rfl) (And.intro (Or.inl rfl) trivial))))
  · refine gj_Do.mono (h.2 c1) (fun v_ SI2 SJ2 h_ => ?_)
    obtain ⟨r1, rfl, q2⟩ := h_
    show gj_Goes E om0 mt_240 53 [some (.ref 81), none, some (.int x2), some (.int x3)] [(.int r1)] SI2 SJ2 (QI Q)
    refine gj_goq gj_clT ok_240 [4, 9, 12, 23, 27, 39, 53] ?_
    show (r1 = 0 → gj_Goes E om0 mt_240 58 [some (.ref 81), none, some (.int x2), some (.int x3)] [] SI2 SJ2 (QI Q)) ∧ (¬ r1 = 0 → ((i3 1) = 0 ∨ (i3 1) = 1) ∧ (QI Q (some (.int (i3 1))) SI2 SJ2))
    refine ⟨fun c3 => ?_, fun c3 => ?_⟩
    · refine gj_goq gj_clT ok_240 [4, 9, 12, 23, 27, 39, 53] ?_
      show gj_Goes E om0 mt_240 39 [some (.ref 81), none, some (.int x2), some (.int (x3 + (i3 1)))] [] SI2 SJ2 (QI Q)
      exact (q2.1 c3)
    · refine ⟨(Or.inr rfl), ?_⟩
      exact ⟨_, rfl, (q2.2 c3)⟩
set_option maxRecDepth 20000 in
/-- GraspJudgeModel.freesBy -/
theorem st_241 {E : gj_E} {Q : Int32 → gj_I → gj_J → Prop} (a1 : Int32) (a2 : Int32) (SI : gj_I) (SJ : gj_J) (h : DoV E 187 [(.ref 81), (.int a1), (.int a2)] SI SJ (fun SI2 SJ2 => DoI E 188 [(.ref 81)] SI2 SJ2 (fun r3 SI4 SJ4 => (r3 = 0 → DoV E 189 [(.ref 81)] SI4 SJ4 (fun SI6 SJ6 => DoI E 185 [(.ref 81)] SI6 SJ6 (fun r7 SI8 SJ8 => DoI E 192 [(.ref 81), (.int r7)] SI8 SJ8 (fun r9 SI10 SJ10 => (r9 = 0 → DoV E 190 [(.ref 81)] SI10 SJ10 (fun SI12 SJ12 => DoI E 185 [(.ref 81)] SI12 SJ12 (fun r13 SI14 SJ14 => DoI E 192 [(.ref 81), (.int r13)] SI14 SJ14 (fun r15 SI16 SJ16 => (r15 = 0 ∨ r15 = 1) ∧ (Q r15 SI16 SJ16))))) ∧ (¬ r9 = 0 → Q (i3 1) SI10 SJ10))))) ∧ (¬ r3 = 0 → Q (i3 0) SI4 SJ4)))) : DoI E 241 [(.ref 81), (.int a1), (.int a2)] SI SJ Q := by
  refine gj_start (M := mt_241) ok_241 (Nat.le_of_ble_eq_true rfl) ?_
  refine gj_goq gj_clT ok_241 [6, 10, 19, 24, 27, 36, 41, 44] ?_
  show gj_Do E om0 (gj_mt 187) [(.ref 81), (.int a1), (.int a2)] SI SJ _
  refine gj_Do.mono h (fun v_ SI2 SJ2 h_ => ?_)
  obtain ⟨rfl, q1⟩ := h_
  show gj_Goes E om0 mt_241 6 [some (.ref 81), some (.int a1), some (.int a2)] [] SI2 SJ2 (QI Q)
  refine gj_goq gj_clT ok_241 [6, 10, 19, 24, 27, 36, 41, 44] ?_
  show gj_Do E om0 (gj_mt 188) [(.ref 81)] SI2 SJ2 _
  refine gj_Do.mono q1 (fun v_ SI4 SJ4 h_ => ?_)
  obtain ⟨r3, rfl, q2⟩ := h_
  show gj_Goes E om0 mt_241 10 [some (.ref 81), some (.int a1), some (.int a2)] [(.int r3)] SI4 SJ4 (QI Q)
  refine gj_goq gj_clT ok_241 [6, 10, 19, 24, 27, 36, 41, 44] ?_
  show (r3 = 0 → gj_Goes E om0 mt_241 15 [some (.ref 81), some (.int a1), some (.int a2)] [] SI4 SJ4 (QI Q)) ∧ (¬ r3 = 0 → ((i3 0) = 0 ∨ (i3 0) = 1) ∧ (QI Q (some (.int (i3 0))) SI4 SJ4))
  refine ⟨fun c3 => ?_, fun c3 => ?_⟩
  · refine gj_goq gj_clT ok_241 [6, 10, 19, 24, 27, 36, 41, 44] ?_
    show gj_Do E om0 (gj_mt 189) [(.ref 81)] SI4 SJ4 _
    refine gj_Do.mono (q2.1 c3) (fun v_ SI6 SJ6 h_ => ?_)
    obtain ⟨rfl, q4⟩ := h_
    show gj_Goes E om0 mt_241 19 [some (.ref 81), some (.int a1), some (.int a2)] [] SI6 SJ6 (QI Q)
    refine gj_goq gj_clT ok_241 [6, 10, 19, 24, 27, 36, 41, 44] ?_
    show gj_Do E om0 (gj_mt 185) [(.ref 81)] SI6 SJ6 _
    refine gj_Do.mono q4 (fun v_ SI8 SJ8 h_ => ?_)
    obtain ⟨r7, rfl, q5⟩ := h_
    show gj_Goes E om0 mt_241 24 [some (.ref 81), some (.int a1), some (.int a2)] [(.int r7), (.ref 81)] SI8 SJ8 (QI Q)
    refine gj_goq gj_clT ok_241 [6, 10, 19, 24, 27, 36, 41, 44] ?_
    show gj_Do E om0 (gj_mt 192) [(.ref 81), (.int r7)] SI8 SJ8 _
    refine gj_Do.mono q5 (fun v_ SI10 SJ10 h_ => ?_)
    obtain ⟨r9, rfl, q6⟩ := h_
    show gj_Goes E om0 mt_241 27 [some (.ref 81), some (.int a1), some (.int a2)] [(.int r9)] SI10 SJ10 (QI Q)
    refine gj_goq gj_clT ok_241 [6, 10, 19, 24, 27, 36, 41, 44] ?_
    show (r9 = 0 → gj_Goes E om0 mt_241 32 [some (.ref 81), some (.int a1), some (.int a2)] [] SI10 SJ10 (QI Q)) ∧ (¬ r9 = 0 → ((i3 1) = 0 ∨ (i3 1) = 1) ∧ (QI Q (some (.int (i3 1))) SI10 SJ10))
    refine ⟨fun c7 => ?_, fun c7 => ?_⟩
    · refine gj_goq gj_clT ok_241 [6, 10, 19, 24, 27, 36, 41, 44] ?_
      show gj_Do E om0 (gj_mt 190) [(.ref 81)] SI10 SJ10 _
      refine gj_Do.mono (q6.1 c7) (fun v_ SI12 SJ12 h_ => ?_)
      obtain ⟨rfl, q8⟩ := h_
      show gj_Goes E om0 mt_241 36 [some (.ref 81), some (.int a1), some (.int a2)] [] SI12 SJ12 (QI Q)
      refine gj_goq gj_clT ok_241 [6, 10, 19, 24, 27, 36, 41, 44] ?_
      show gj_Do E om0 (gj_mt 185) [(.ref 81)] SI12 SJ12 _
      refine gj_Do.mono q8 (fun v_ SI14 SJ14 h_ => ?_)
      obtain ⟨r13, rfl, q9⟩ := h_
      show gj_Goes E om0 mt_241 41 [some (.ref 81), some (.int a1), some (.int a2)] [(.int r13), (.ref 81)] SI14 SJ14 (QI Q)
      refine gj_goq gj_clT ok_241 [6, 10, 19, 24, 27, 36, 41, 44] ?_
      show gj_Do E om0 (gj_mt 192) [(.ref 81), (.int r13)] SI14 SJ14 _
      refine gj_Do.mono q9 (fun v_ SI16 SJ16 h_ => ?_)
      obtain ⟨r15, rfl, q10⟩ := h_
      show gj_Goes E om0 mt_241 44 [some (.ref 81), some (.int a1), some (.int a2)] [(.int r15)] SI16 SJ16 (QI Q)
      refine gj_goq gj_clT ok_241 [6, 10, 19, 24, 27, 36, 41, 44] ?_
      show (r15 = 0 ∨ r15 = 1) ∧ (QI Q (some (.int r15)) SI16 SJ16)
      have k11 := q10.1
      refine ⟨k11, ?_⟩
      exact ⟨_, rfl, q10.2⟩
    · refine ⟨(Or.inr rfl), ?_⟩
      exact ⟨_, rfl, (q6.2 c7)⟩
  · refine ⟨(Or.inl rfl), ?_⟩
    exact ⟨_, rfl, (q2.2 c3)⟩
set_option maxRecDepth 20000 in
/-- GraspJudgeModel.isAcross -/
theorem st_242 {E : gj_E} {Q : Int32 → gj_I → gj_J → Prop} (SI : gj_I) (SJ : gj_J) (h : GoI E mt_242 2 [some (.ref 81), some (.int (i3 0))] SI SJ Q) : DoI E 242 [(.ref 81)] SI SJ Q := by
  refine gj_start (M := mt_242) ok_242 (Nat.le_of_ble_eq_true rfl) ?_
  refine gj_goq gj_clT ok_242 [2, 15] ?_
  show gj_Goes E om0 mt_242 2 [some (.ref 81), some (.int (i3 0))] [] SI SJ (QI Q)
  exact h
set_option maxRecDepth 20000 in
theorem lp_242_2 {E : gj_E} {Q : Int32 → gj_I → gj_J → Prop} (x1 : Int32) (SI : gj_I) (SJ : gj_J) (h : ((SI 81 8) ≤ x1 → Q (i3 1) SI SJ) ∧ (¬ (SI 81 8) ≤ x1 → DoL E 191 [(.ref 81), (.int x1)] SI SJ (fun r1 SI2 SJ2 => (r1 = (i6 0) → GoI E mt_242 2 [some (.ref 81), some (.int (x1 + (i3 1)))] SI2 SJ2 Q) ∧ (¬ r1 = (i6 0) → Q (i3 0) SI2 SJ2)))) : GoI E mt_242 2 [some (.ref 81), some (.int x1)] SI SJ Q := by
  refine gj_goq gj_clT ok_242 [2, 15] ?_
  show ((SI 81 8) ≤ x1 → gj_Goes E om0 mt_242 28 [some (.ref 81), some (.int x1)] [] SI SJ (QI Q)) ∧ (¬ (SI 81 8) ≤ x1 → gj_Do E om0 (gj_mt 191) [(.ref 81), (.int x1)] SI SJ _)
  refine ⟨fun c1 => ?_, fun c1 => ?_⟩
  · refine gj_goq gj_clT ok_242 [2, 15] ?_
    show ((i3 1) = 0 ∨ (i3 1) = 1) ∧ (QI Q (some (.int (i3 1))) SI SJ)
    refine ⟨(Or.inr rfl), ?_⟩
    exact ⟨_, rfl, (h.1 c1)⟩
  · refine gj_Do.mono (h.2 c1) (fun v_ SI2 SJ2 h_ => ?_)
    obtain ⟨r1, rfl, q2⟩ := h_
    show gj_Goes E om0 mt_242 15 [some (.ref 81), some (.int x1)] [(.long r1)] SI2 SJ2 (QI Q)
    refine gj_goq gj_clT ok_242 [2, 15] ?_
    show ((lg_cmp r1 (i6 0)) = 0 → gj_Goes E om0 mt_242 22 [some (.ref 81), some (.int x1)] [] SI2 SJ2 (QI Q)) ∧ (¬ (lg_cmp r1 (i6 0)) = 0 → ((i3 0) = 0 ∨ (i3 0) = 1) ∧ (QI Q (some (.int (i3 0))) SI2 SJ2))
    refine ⟨fun c3 => ?_, fun c3 => ?_⟩
    · refine gj_goq gj_clT ok_242 [2, 15] ?_
      show gj_Goes E om0 mt_242 2 [some (.ref 81), some (.int (x1 + (i3 1)))] [] SI2 SJ2 (QI Q)
      exact (q2.1 (lgc_eq.mp c3))
    · refine ⟨(Or.inl rfl), ?_⟩
      exact ⟨_, rfl, (q2.2 (fun z_ => c3 (lgc_eq.mpr z_)))⟩
set_option maxRecDepth 20000 in
/-- GraspJudgeModel.findsAcross -/
theorem st_243 {E : gj_E} {Q : gj_I → gj_J → Prop} (a1 : Int32) (SI : gj_I) (SJ : gj_J) (h : DoI E 242 [(.ref 81)] SI (gj_w2 (gj_w2 (gj_w2 SJ 81 9 (i6 1)) 81 10 (i6 0)) 81 11 (i6 0)) (fun r1 SI2 SJ2 => (r1 = 0 → (¬ a1 = (i3 2) → DoV E 189 [(.ref 81)] SI2 (gj_w2 (gj_w2 SJ2 81 9 (-(SJ2 86 0))) 81 10 (SJ2 85 0)) (fun SI4 SJ4 => ((SJ4 81 11) = (i6 0) → ((SJ4 81 10) = (i6 0) → ((SJ4 81 9) ≥ (i6 0) → Q SI4 SJ4) ∧ (¬ (SJ4 81 9) ≥ (i6 0) → DoV E 190 [(.ref 81)] SI4 SJ4 (fun SI6 SJ6 => Q SI6 SJ6))) ∧ (¬ (SJ4 81 10) = (i6 0) → ((SJ4 81 10) ≥ (i6 0) → Q SI4 SJ4) ∧ (¬ (SJ4 81 10) ≥ (i6 0) → DoV E 190 [(.ref 81)] SI4 SJ4 (fun SI8 SJ8 => Q SI8 SJ8)))) ∧ (¬ (SJ4 81 11) = (i6 0) → ((SJ4 81 11) ≥ (i6 0) → Q SI4 SJ4) ∧ (¬ (SJ4 81 11) ≥ (i6 0) → DoV E 190 [(.ref 81)] SI4 SJ4 (fun SI10 SJ10 => Q SI10 SJ10))))) ∧ (a1 = (i3 2) → DoV E 244 [(.ref 81)] SI2 SJ2 (fun SI12 SJ12 => DoV E 189 [(.ref 81)] SI12 SJ12 (fun SI14 SJ14 => ((SJ14 81 11) = (i6 0) → ((SJ14 81 10) = (i6 0) → ((SJ14 81 9) ≥ (i6 0) → Q SI14 SJ14) ∧ (¬ (SJ14 81 9) ≥ (i6 0) → DoV E 190 [(.ref 81)] SI14 SJ14 (fun SI16 SJ16 => Q SI16 SJ16))) ∧ (¬ (SJ14 81 10) = (i6 0) → ((SJ14 81 10) ≥ (i6 0) → Q SI14 SJ14) ∧ (¬ (SJ14 81 10) ≥ (i6 0) → DoV E 190 [(.ref 81)] SI14 SJ14 (fun SI18 SJ18 => Q SI18 SJ18)))) ∧ (¬ (SJ14 81 11) = (i6 0) → ((SJ14 81 11) ≥ (i6 0) → Q SI14 SJ14) ∧ (¬ (SJ14 81 11) ≥ (i6 0) → DoV E 190 [(.ref 81)] SI14 SJ14 (fun SI20 SJ20 => Q SI20 SJ20))))))) ∧ (¬ r1 = 0 → Q SI2 SJ2))) : DoV E 243 [(.ref 81), (.int a1)] SI SJ Q := by
  refine gj_start (M := mt_243) ok_243 (Nat.le_of_ble_eq_true rfl) ?_
  refine gj_goq gj_clT ok_243 [19, 32, 60, 115] ?_
  show gj_Do E om0 (gj_mt 242) [(.ref 81)] SI (gj_w2 (gj_w2 (gj_w2 SJ 81 9 (i6 1)) 81 10 (i6 0)) 81 11 (i6 0)) _
  refine gj_Do.mono h (fun v_ SI2 SJ2 h_ => ?_)
  obtain ⟨r1, rfl, q1⟩ := h_
  show gj_Goes E om0 mt_243 19 [some (.ref 81), some (.int a1)] [(.int r1)] SI2 SJ2 (QV Q)
  refine gj_goq gj_clT ok_243 [19, 32, 60, 115] ?_
  show (r1 = 0 → gj_Goes E om0 mt_243 23 [some (.ref 81), some (.int a1)] [] SI2 SJ2 (QV Q)) ∧ (¬ r1 = 0 → QV Q none SI2 SJ2)
  refine ⟨fun c2 => ?_, fun c2 => ?_⟩
  · refine gj_goq gj_clT ok_243 [19, 32, 60, 115] ?_
    show (¬ a1 = (i3 2) → gj_Goes E om0 mt_243 35 [some (.ref 81), some (.int a1)] [] SI2 SJ2 (QV Q)) ∧ (a1 = (i3 2) → gj_Do E om0 (gj_mt 244) [(.ref 81)] SI2 SJ2 _)
    refine ⟨fun c3 => ?_, fun c3 => ?_⟩
    · refine gj_goq gj_clT ok_243 [19, 32, 60, 115] ?_
      show vp_in (i3 0) 16 ∧ (vp_in (i3 0) 16 ∧ (gj_Do E om0 (gj_mt 189) [(.ref 81)] SI2 (gj_w2 (gj_w2 SJ2 81 9 (-(SJ2 86 0))) 81 10 (SJ2 85 0)) _))
      refine ⟨(gj_vin (by decide)), ?_⟩
      refine ⟨(gj_vin (by decide)), ?_⟩
      refine gj_Do.mono ((q1.1 c2).1 c3) (fun v_ SI4 SJ4 h_ => ?_)
      obtain ⟨rfl, q4⟩ := h_
      show gj_Goes E om0 mt_243 60 [some (.ref 81), some (.int a1)] [] SI4 SJ4 (QV Q)
      refine gj_goq gj_clT ok_243 [19, 32, 60, 115] ?_
      show ((lg_cmp (SJ4 81 11) (i6 0)) = 0 → gj_Goes E om0 mt_243 81 [some (.ref 81), some (.int a1)] [] SI4 SJ4 (QV Q)) ∧ (¬ (lg_cmp (SJ4 81 11) (i6 0)) = 0 → (0 ≤ (lg_cmp (SJ4 81 11) (i6 0)) → gj_Goes E om0 mt_243 115 [some (.ref 81), some (.int a1)] [] SI4 SJ4 (QV Q)) ∧ (¬ 0 ≤ (lg_cmp (SJ4 81 11) (i6 0)) → gj_Goes E om0 mt_243 111 [some (.ref 81), some (.int a1)] [] SI4 SJ4 (QV Q)))
      refine ⟨fun c5 => ?_, fun c5 => ?_⟩
      · refine gj_goq gj_clT ok_243 [19, 32, 60, 115] ?_
        show ((lg_cmp (SJ4 81 10) (i6 0)) = 0 → gj_Goes E om0 mt_243 102 [some (.ref 81), some (.int a1)] [] SI4 SJ4 (QV Q)) ∧ (¬ (lg_cmp (SJ4 81 10) (i6 0)) = 0 → (0 ≤ (lg_cmp (SJ4 81 10) (i6 0)) → gj_Goes E om0 mt_243 115 [some (.ref 81), some (.int a1)] [] SI4 SJ4 (QV Q)) ∧ (¬ 0 ≤ (lg_cmp (SJ4 81 10) (i6 0)) → gj_Goes E om0 mt_243 111 [some (.ref 81), some (.int a1)] [] SI4 SJ4 (QV Q)))
        refine ⟨fun c6 => ?_, fun c6 => ?_⟩
        · refine gj_goq gj_clT ok_243 [19, 32, 60, 115] ?_
          show (0 ≤ (lg_cmp (SJ4 81 9) (i6 0)) → gj_Goes E om0 mt_243 115 [some (.ref 81), some (.int a1)] [] SI4 SJ4 (QV Q)) ∧ (¬ 0 ≤ (lg_cmp (SJ4 81 9) (i6 0)) → gj_Do E om0 (gj_mt 190) [(.ref 81)] SI4 SJ4 _)
          refine ⟨fun c7 => ?_, fun c7 => ?_⟩
          · refine gj_goq gj_clT ok_243 [19, 32, 60, 115] ?_
            show QV Q none SI4 SJ4
            exact ⟨rfl, (((q4.1 (lgc_eq.mp c5)).1 (lgc_eq.mp c6)).1 (lgc_ge.mp c7))⟩
          · refine gj_Do.mono (((q4.1 (lgc_eq.mp c5)).1 (lgc_eq.mp c6)).2 (fun z_ => c7 (lgc_ge.mpr z_))) (fun v_ SI6 SJ6 h_ => ?_)
            obtain ⟨rfl, q8⟩ := h_
            show gj_Goes E om0 mt_243 115 [some (.ref 81), some (.int a1)] [] SI6 SJ6 (QV Q)
            refine gj_goq gj_clT ok_243 [19, 32, 60, 115] ?_
            show QV Q none SI6 SJ6
            exact ⟨rfl, q8⟩
        · refine ⟨fun c9 => ?_, fun c9 => ?_⟩
          · refine gj_goq gj_clT ok_243 [19, 32, 60, 115] ?_
            show QV Q none SI4 SJ4
            exact ⟨rfl, (((q4.1 (lgc_eq.mp c5)).2 (fun z_ => c6 (lgc_eq.mpr z_))).1 (lgc_ge.mp c9))⟩
          · refine gj_goq gj_clT ok_243 [19, 32, 60, 115] ?_
            show gj_Do E om0 (gj_mt 190) [(.ref 81)] SI4 SJ4 _
            refine gj_Do.mono (((q4.1 (lgc_eq.mp c5)).2 (fun z_ => c6 (lgc_eq.mpr z_))).2 (fun z_ => c9 (lgc_ge.mpr z_))) (fun v_ SI8 SJ8 h_ => ?_)
            obtain ⟨rfl, q10⟩ := h_
            show gj_Goes E om0 mt_243 115 [some (.ref 81), some (.int a1)] [] SI8 SJ8 (QV Q)
            refine gj_goq gj_clT ok_243 [19, 32, 60, 115] ?_
            show QV Q none SI8 SJ8
            exact ⟨rfl, q10⟩
      · refine ⟨fun c11 => ?_, fun c11 => ?_⟩
        · refine gj_goq gj_clT ok_243 [19, 32, 60, 115] ?_
          show QV Q none SI4 SJ4
          exact ⟨rfl, ((q4.2 (fun z_ => c5 (lgc_eq.mpr z_))).1 (lgc_ge.mp c11))⟩
        · refine gj_goq gj_clT ok_243 [19, 32, 60, 115] ?_
          show gj_Do E om0 (gj_mt 190) [(.ref 81)] SI4 SJ4 _
          refine gj_Do.mono ((q4.2 (fun z_ => c5 (lgc_eq.mpr z_))).2 (fun z_ => c11 (lgc_ge.mpr z_))) (fun v_ SI10 SJ10 h_ => ?_)
          obtain ⟨rfl, q12⟩ := h_
          show gj_Goes E om0 mt_243 115 [some (.ref 81), some (.int a1)] [] SI10 SJ10 (QV Q)
          refine gj_goq gj_clT ok_243 [19, 32, 60, 115] ?_
          show QV Q none SI10 SJ10
          exact ⟨rfl, q12⟩
    · refine gj_Do.mono ((q1.1 c2).2 c3) (fun v_ SI12 SJ12 h_ => ?_)
      obtain ⟨rfl, q13⟩ := h_
      show gj_Goes E om0 mt_243 32 [some (.ref 81), some (.int a1)] [] SI12 SJ12 (QV Q)
      refine gj_goq gj_clT ok_243 [19, 32, 60, 115] ?_
      show gj_Goes E om0 mt_243 56 [some (.ref 81), some (.int a1)] [] SI12 SJ12 (QV Q)
      refine gj_goq gj_clT ok_243 [19, 32, 60, 115] ?_
      show gj_Do E om0 (gj_mt 189) [(.ref 81)] SI12 SJ12 _
      refine gj_Do.mono q13 (fun v_ SI14 SJ14 h_ => ?_)
      obtain ⟨rfl, q14⟩ := h_
      show gj_Goes E om0 mt_243 60 [some (.ref 81), some (.int a1)] [] SI14 SJ14 (QV Q)
      refine gj_goq gj_clT ok_243 [19, 32, 60, 115] ?_
      show ((lg_cmp (SJ14 81 11) (i6 0)) = 0 → gj_Goes E om0 mt_243 81 [some (.ref 81), some (.int a1)] [] SI14 SJ14 (QV Q)) ∧ (¬ (lg_cmp (SJ14 81 11) (i6 0)) = 0 → (0 ≤ (lg_cmp (SJ14 81 11) (i6 0)) → gj_Goes E om0 mt_243 115 [some (.ref 81), some (.int a1)] [] SI14 SJ14 (QV Q)) ∧ (¬ 0 ≤ (lg_cmp (SJ14 81 11) (i6 0)) → gj_Goes E om0 mt_243 111 [some (.ref 81), some (.int a1)] [] SI14 SJ14 (QV Q)))
      refine ⟨fun c15 => ?_, fun c15 => ?_⟩
      · refine gj_goq gj_clT ok_243 [19, 32, 60, 115] ?_
        show ((lg_cmp (SJ14 81 10) (i6 0)) = 0 → gj_Goes E om0 mt_243 102 [some (.ref 81), some (.int a1)] [] SI14 SJ14 (QV Q)) ∧ (¬ (lg_cmp (SJ14 81 10) (i6 0)) = 0 → (0 ≤ (lg_cmp (SJ14 81 10) (i6 0)) → gj_Goes E om0 mt_243 115 [some (.ref 81), some (.int a1)] [] SI14 SJ14 (QV Q)) ∧ (¬ 0 ≤ (lg_cmp (SJ14 81 10) (i6 0)) → gj_Goes E om0 mt_243 111 [some (.ref 81), some (.int a1)] [] SI14 SJ14 (QV Q)))
        refine ⟨fun c16 => ?_, fun c16 => ?_⟩
        · refine gj_goq gj_clT ok_243 [19, 32, 60, 115] ?_
          show (0 ≤ (lg_cmp (SJ14 81 9) (i6 0)) → gj_Goes E om0 mt_243 115 [some (.ref 81), some (.int a1)] [] SI14 SJ14 (QV Q)) ∧ (¬ 0 ≤ (lg_cmp (SJ14 81 9) (i6 0)) → gj_Do E om0 (gj_mt 190) [(.ref 81)] SI14 SJ14 _)
          refine ⟨fun c17 => ?_, fun c17 => ?_⟩
          · refine gj_goq gj_clT ok_243 [19, 32, 60, 115] ?_
            show QV Q none SI14 SJ14
            exact ⟨rfl, (((q14.1 (lgc_eq.mp c15)).1 (lgc_eq.mp c16)).1 (lgc_ge.mp c17))⟩
          · refine gj_Do.mono (((q14.1 (lgc_eq.mp c15)).1 (lgc_eq.mp c16)).2 (fun z_ => c17 (lgc_ge.mpr z_))) (fun v_ SI16 SJ16 h_ => ?_)
            obtain ⟨rfl, q18⟩ := h_
            show gj_Goes E om0 mt_243 115 [some (.ref 81), some (.int a1)] [] SI16 SJ16 (QV Q)
            refine gj_goq gj_clT ok_243 [19, 32, 60, 115] ?_
            show QV Q none SI16 SJ16
            exact ⟨rfl, q18⟩
        · refine ⟨fun c19 => ?_, fun c19 => ?_⟩
          · refine gj_goq gj_clT ok_243 [19, 32, 60, 115] ?_
            show QV Q none SI14 SJ14
            exact ⟨rfl, (((q14.1 (lgc_eq.mp c15)).2 (fun z_ => c16 (lgc_eq.mpr z_))).1 (lgc_ge.mp c19))⟩
          · refine gj_goq gj_clT ok_243 [19, 32, 60, 115] ?_
            show gj_Do E om0 (gj_mt 190) [(.ref 81)] SI14 SJ14 _
            refine gj_Do.mono (((q14.1 (lgc_eq.mp c15)).2 (fun z_ => c16 (lgc_eq.mpr z_))).2 (fun z_ => c19 (lgc_ge.mpr z_))) (fun v_ SI18 SJ18 h_ => ?_)
            obtain ⟨rfl, q20⟩ := h_
            show gj_Goes E om0 mt_243 115 [some (.ref 81), some (.int a1)] [] SI18 SJ18 (QV Q)
            refine gj_goq gj_clT ok_243 [19, 32, 60, 115] ?_
            show QV Q none SI18 SJ18
            exact ⟨rfl, q20⟩
      · refine ⟨fun c21 => ?_, fun c21 => ?_⟩
        · refine gj_goq gj_clT ok_243 [19, 32, 60, 115] ?_
          show QV Q none SI14 SJ14
          exact ⟨rfl, ((q14.2 (fun z_ => c15 (lgc_eq.mpr z_))).1 (lgc_ge.mp c21))⟩
        · refine gj_goq gj_clT ok_243 [19, 32, 60, 115] ?_
          show gj_Do E om0 (gj_mt 190) [(.ref 81)] SI14 SJ14 _
          refine gj_Do.mono ((q14.2 (fun z_ => c15 (lgc_eq.mpr z_))).2 (fun z_ => c21 (lgc_ge.mpr z_))) (fun v_ SI20 SJ20 h_ => ?_)
          obtain ⟨rfl, q22⟩ := h_
          show gj_Goes E om0 mt_243 115 [some (.ref 81), some (.int a1)] [] SI20 SJ20 (QV Q)
          refine gj_goq gj_clT ok_243 [19, 32, 60, 115] ?_
          show QV Q none SI20 SJ20
          exact ⟨rfl, q22⟩
  · exact ⟨rfl, (q1.2 c2)⟩
set_option maxRecDepth 20000 in
/-- GraspJudgeModel.crossesAny -/
theorem st_244 {E : gj_E} {Q : gj_I → gj_J → Prop} (SI : gj_I) (SJ : gj_J) (h : GoV E mt_244 2 [some (.ref 81), some (.int (i3 0)), none] SI SJ Q) : DoV E 244 [(.ref 81)] SI SJ Q := by
  refine gj_start (M := mt_244) ok_244 (Nat.le_of_ble_eq_true rfl) ?_
  refine gj_goq gj_clT ok_244 [2, 14, 28, 32] ?_
  show gj_Goes E om0 mt_244 2 [some (.ref 81), some (.int (i3 0)), none] [] SI SJ (QV Q)
  exact h
set_option maxRecDepth 20000 in
theorem lp_244_2 {E : gj_E} {Q : gj_I → gj_J → Prop} (x1 : Int32) (SI : gj_I) (SJ : gj_J) (h : ((SI 81 8) ≤ x1 → Q SI SJ) ∧ (¬ (SI 81 8) ≤ x1 → GoV E mt_244 14 [some (.ref 81), some (.int x1), some (.int (x1 + (i3 1)))] SI SJ Q)) : GoV E mt_244 2 [some (.ref 81), some (.int x1), none] SI SJ Q := by
  refine gj_goq gj_clT ok_244 [2, 14, 28, 32] ?_
  show ((SI 81 8) ≤ x1 → gj_Goes E om0 mt_244 48 [some (.ref 81), some (.int x1), none] [] SI SJ (QV Q)) ∧ (¬ (SI 81 8) ≤ x1 → gj_Goes E om0 mt_244 14 [some (.ref 81), some (.int x1), some (.int (x1 + (i3 1)))] [] SI SJ (QV Q))
  refine ⟨fun c1 => ?_, fun c1 => ?_⟩
  · refine gj_goq gj_clT ok_244 [2, 14, 28, 32] ?_
    show QV Q none SI SJ
    exact ⟨rfl, (h.1 c1)⟩
  · exact (h.2 c1)
set_option maxRecDepth 20000 in
theorem lp_244_14 {E : gj_E} {Q : gj_I → gj_J → Prop} (x1 : Int32) (x2 : Int32) (SI : gj_I) (SJ : gj_J) (h : ((SI 81 8) ≤ x2 → GoV E mt_244 2 [some (.ref 81), some (.int (x1 + (i3 1))), none] SI SJ Q) ∧ (¬ (SI 81 8) ≤ x2 → DoV E 187 [(.ref 81), (.int x1), (.int x2)] SI SJ (fun SI2 SJ2 => DoI E 188 [(.ref 81)] SI2 SJ2 (fun r3 SI4 SJ4 => (¬ r3 = 0 → GoV E mt_244 14 [some (.ref 81), some (.int x1), some (.int (x2 + (i3 1)))] SI4 SJ4 Q) ∧ (r3 = 0 → Q SI4 SJ4))))) : GoV E mt_244 14 [some (.ref 81), some (.int x1), some (.int x2)] SI SJ Q := by
  refine gj_goq gj_clT ok_244 [2, 14, 28, 32] ?_
  show ((SI 81 8) ≤ x2 → gj_Goes E om0 mt_244 42 [some (.ref 81), some (.int x1), some (.int x2)] [] SI SJ (QV Q)) ∧ (¬ (SI 81 8) ≤ x2 → gj_Do E om0 (gj_mt 187) [(.ref 81), (.int x1), (.int x2)] SI SJ _)
  refine ⟨fun c1 => ?_, fun c1 => ?_⟩
  · refine gj_goq gj_clT ok_244 [2, 14, 28, 32] ?_
    show gj_Goes E om0 mt_244 2 [some (.ref 81), some (.int (x1 + (i3 1))), some (.int x2)] [] SI SJ (QV Q)
    exact gj_fh (h.1 c1) (And.intro (Or.inr rfl) (And.intro (Or.inr rfl) (And.intro (Or.inl rfl) trivial)))
  · refine gj_Do.mono (h.2 c1) (fun v_ SI2 SJ2 h_ => ?_)
    obtain ⟨rfl, q2⟩ := h_
    show gj_Goes E om0 mt_244 28 [some (.ref 81), some (.int x1), some (.int x2)] [] SI2 SJ2 (QV Q)
    refine gj_goq gj_clT ok_244 [2, 14, 28, 32] ?_
    show gj_Do E om0 (gj_mt 188) [(.ref 81)] SI2 SJ2 _
    refine gj_Do.mono q2 (fun v_ SI4 SJ4 h_ => ?_)
    obtain ⟨r3, rfl, q3⟩ := h_
    show gj_Goes E om0 mt_244 32 [some (.ref 81), some (.int x1), some (.int x2)] [(.int r3)] SI4 SJ4 (QV Q)
    refine gj_goq gj_clT ok_244 [2, 14, 28, 32] ?_
    show (¬ r3 = 0 → gj_Goes E om0 mt_244 36 [some (.ref 81), some (.int x1), some (.int x2)] [] SI4 SJ4 (QV Q)) ∧ (r3 = 0 → QV Q none SI4 SJ4)
    refine ⟨fun c4 => ?_, fun c4 => ?_⟩
    · refine gj_goq gj_clT ok_244 [2, 14, 28, 32] ?_
      show gj_Goes E om0 mt_244 14 [some (.ref 81), some (.int x1), some (.int (x2 + (i3 1)))] [] SI4 SJ4 (QV Q)
      exact (q3.1 c4)
    · exact ⟨rfl, (q3.2 c4)⟩
set_option maxRecDepth 20000 in
/-- GraspJudgeModel.free -/
theorem st_245 {E : gj_E} {Q : Int64 → gj_I → gj_J → Prop} (a1 : Int32) (SI : gj_I) (SJ : gj_J) (h : DoI E 155 [(.long (a1).toInt64), (.long (i6 0)), (.long (i6 2))] SI SJ (fun r1 SI2 SJ2 => (r1 = 0 → Q (i6 (-9000000000000000000)) SI2 SJ2) ∧ (¬ r1 = 0 → DoI E 240 [(.ref 81)] SI2 SJ2 (fun r3 SI4 SJ4 => (¬ r3 = 0 → (¬ a1 = 0 → (¬ a1 = (i3 1) → Q (SJ4 81 11) SI4 SJ4) ∧ (a1 = (i3 1) → Q (SJ4 81 10) SI4 SJ4)) ∧ (a1 = 0 → Q (SJ4 81 9) SI4 SJ4)) ∧ (r3 = 0 → Q (i6 (-9000000000000000000)) SI4 SJ4))))) : DoL E 245 [(.ref 81), (.int a1)] SI SJ Q := by
  refine gj_start (M := mt_245) ok_245 (Nat.le_of_ble_eq_true rfl) ?_
  refine gj_goq gj_clT ok_245 [9, 16] ?_
  show gj_Do E om0 (gj_mt 155) [(.long (a1).toInt64), (.long (i6 0)), (.long (i6 2))] SI SJ _
  refine gj_Do.mono h (fun v_ SI2 SJ2 h_ => ?_)
  obtain ⟨r1, rfl, q1⟩ := h_
  show gj_Goes E om0 mt_245 9 [some (.ref 81), some (.int a1)] [(.int r1)] SI2 SJ2 (QL Q)
  refine gj_goq gj_clT ok_245 [9, 16] ?_
  show (r1 = 0 → gj_Goes E om0 mt_245 19 [some (.ref 81), some (.int a1)] [] SI2 SJ2 (QL Q)) ∧ (¬ r1 = 0 → gj_Do E om0 (gj_mt 240) [(.ref 81)] SI2 SJ2 _)
  refine ⟨fun c2 => ?_, fun c2 => ?_⟩
  · refine gj_goq gj_clT ok_245 [9, 16] ?_
    show QL Q (some (.long (i6 (-9000000000000000000)))) SI2 SJ2
    exact ⟨_, rfl, (q1.1 c2)⟩
  · refine gj_Do.mono (q1.2 c2) (fun v_ SI4 SJ4 h_ => ?_)
    obtain ⟨r3, rfl, q3⟩ := h_
    show gj_Goes E om0 mt_245 16 [some (.ref 81), some (.int a1)] [(.int r3)] SI4 SJ4 (QL Q)
    refine gj_goq gj_clT ok_245 [9, 16] ?_
    show (¬ r3 = 0 → gj_Goes E om0 mt_245 23 [some (.ref 81), some (.int a1)] [] SI4 SJ4 (QL Q)) ∧ (r3 = 0 → QL Q (some (.long (i6 (-9000000000000000000)))) SI4 SJ4)
    refine ⟨fun c4 => ?_, fun c4 => ?_⟩
    · refine gj_goq gj_clT ok_245 [9, 16] ?_
      show (¬ a1 = 0 → gj_Goes E om0 mt_245 34 [some (.ref 81), some (.int a1)] [] SI4 SJ4 (QL Q)) ∧ (a1 = 0 → gj_Goes E om0 mt_245 50 [some (.ref 81), some (.int a1)] [(.long (SJ4 81 9))] SI4 SJ4 (QL Q))
      refine ⟨fun c5 => ?_, fun c5 => ?_⟩
      · refine gj_goq gj_clT ok_245 [9, 16] ?_
        show (¬ a1 = (i3 1) → gj_Goes E om0 mt_245 46 [some (.ref 81), some (.int a1)] [] SI4 SJ4 (QL Q)) ∧ (a1 = (i3 1) → gj_Goes E om0 mt_245 50 [some (.ref 81), some (.int a1)] [(.long (SJ4 81 10))] SI4 SJ4 (QL Q))
        refine ⟨fun c6 => ?_, fun c6 => ?_⟩
        · refine gj_goq gj_clT ok_245 [9, 16] ?_
          show QL Q (some (.long (SJ4 81 11))) SI4 SJ4
          exact ⟨_, rfl, (((q3.1 c4).1 c5).1 c6)⟩
        · refine gj_goq gj_clT ok_245 [9, 16] ?_
          show QL Q (some (.long (SJ4 81 10))) SI4 SJ4
          exact ⟨_, rfl, (((q3.1 c4).1 c5).2 c6)⟩
      · refine gj_goq gj_clT ok_245 [9, 16] ?_
        show QL Q (some (.long (SJ4 81 9))) SI4 SJ4
        exact ⟨_, rfl, ((q3.1 c4).2 c5)⟩
    · exact ⟨_, rfl, (q3.2 c4)⟩
set_option maxRecDepth 20000 in
/-- GraspJudgeModel.against -/
theorem st_246 {E : gj_E} {Q : Int32 → gj_I → gj_J → Prop} (a1 : Int32) (SI : gj_I) (SJ : gj_J) (h : vp_in a1 70 ∧ (((SJ 97 (gj_n a1)) = (SJ 81 9) → ((SJ 98 (gj_n a1)) = (SJ 81 10) → (¬ (SJ 99 (gj_n a1)) = (SJ 81 11) → ((SJ 99 (gj_n a1)) ≥ (SJ 81 11) → Q (i3 1) SI SJ) ∧ (¬ (SJ 99 (gj_n a1)) ≥ (SJ 81 11) → Q (i3 (-1)) SI SJ)) ∧ ((SJ 99 (gj_n a1)) = (SJ 81 11) → Q (i3 0) SI SJ)) ∧ (¬ (SJ 98 (gj_n a1)) = (SJ 81 10) → ((SJ 98 (gj_n a1)) ≥ (SJ 81 10) → Q (i3 1) SI SJ) ∧ (¬ (SJ 98 (gj_n a1)) ≥ (SJ 81 10) → Q (i3 (-1)) SI SJ))) ∧ (¬ (SJ 97 (gj_n a1)) = (SJ 81 9) → ((SJ 97 (gj_n a1)) ≥ (SJ 81 9) → Q (i3 1) SI SJ) ∧ (¬ (SJ 97 (gj_n a1)) ≥ (SJ 81 9) → Q (i3 (-1)) SI SJ)))) : DoI E 246 [(.ref 81), (.int a1)] SI SJ Q := by
  refine gj_start (M := mt_246) ok_246 (Nat.le_of_ble_eq_true rfl) ?_
  refine gj_goq gj_clT ok_246 [] ?_
  show vp_in a1 70 ∧ (((lg_cmp (SJ 97 (gj_n a1)) (SJ 81 9)) = 0 → gj_Goes E om0 mt_246 34 [some (.ref 81), some (.int a1)] [] SI SJ (QI Q)) ∧ (¬ (lg_cmp (SJ 97 (gj_n a1)) (SJ 81 9)) = 0 → vp_in a1 70 ∧ ((0 ≤ (lg_cmp (SJ 97 (gj_n a1)) (SJ 81 9)) → gj_Goes E om0 mt_246 32 [some (.ref 81), some (.int a1)] [] SI SJ (QI Q)) ∧ (¬ 0 ≤ (lg_cmp (SJ 97 (gj_n a1)) (SJ 81 9)) → gj_Goes E om0 mt_246 33 [some (.ref 81), some (.int a1)] [(.int (i3 (-1)))] SI SJ (QI Q)))))
  have k1 := h.1
  refine ⟨k1, ?_⟩
  refine ⟨fun c2 => ?_, fun c2 => ?_⟩
  · refine gj_goq gj_clT ok_246 [] ?_
    show vp_in a1 70 ∧ (((lg_cmp (SJ 98 (gj_n a1)) (SJ 81 10)) = 0 → gj_Goes E om0 mt_246 68 [some (.ref 81), some (.int a1)] [] SI SJ (QI Q)) ∧ (¬ (lg_cmp (SJ 98 (gj_n a1)) (SJ 81 10)) = 0 → vp_in a1 70 ∧ ((0 ≤ (lg_cmp (SJ 98 (gj_n a1)) (SJ 81 10)) → gj_Goes E om0 mt_246 66 [some (.ref 81), some (.int a1)] [] SI SJ (QI Q)) ∧ (¬ 0 ≤ (lg_cmp (SJ 98 (gj_n a1)) (SJ 81 10)) → gj_Goes E om0 mt_246 67 [some (.ref 81), some (.int a1)] [(.int (i3 (-1)))] SI SJ (QI Q)))))
    refine ⟨k1, ?_⟩
    refine ⟨fun c3 => ?_, fun c3 => ?_⟩
    · refine gj_goq gj_clT ok_246 [] ?_
      show vp_in a1 70 ∧ ((¬ (lg_cmp (SJ 99 (gj_n a1)) (SJ 81 11)) = 0 → gj_Goes E om0 mt_246 86 [some (.ref 81), some (.int a1)] [] SI SJ (QI Q)) ∧ ((lg_cmp (SJ 99 (gj_n a1)) (SJ 81 11)) = 0 → gj_Goes E om0 mt_246 105 [some (.ref 81), some (.int a1)] [(.int (i3 0))] SI SJ (QI Q)))
      refine ⟨k1, ?_⟩
      refine ⟨fun c4 => ?_, fun c4 => ?_⟩
      · refine gj_goq gj_clT ok_246 [] ?_
        show vp_in a1 70 ∧ ((0 ≤ (lg_cmp (SJ 99 (gj_n a1)) (SJ 81 11)) → gj_Goes E om0 mt_246 104 [some (.ref 81), some (.int a1)] [] SI SJ (QI Q)) ∧ (¬ 0 ≤ (lg_cmp (SJ 99 (gj_n a1)) (SJ 81 11)) → gj_Goes E om0 mt_246 105 [some (.ref 81), some (.int a1)] [(.int (i3 (-1)))] SI SJ (QI Q)))
        refine ⟨k1, ?_⟩
        refine ⟨fun c5 => ?_, fun c5 => ?_⟩
        · refine gj_goq gj_clT ok_246 [] ?_
          show QI Q (some (.int (i3 1))) SI SJ
          exact ⟨_, rfl, ((((h.2.1 (lgc_eq.mp c2)).1 (lgc_eq.mp c3)).1 (fun z_ => c4 (lgc_eq.mpr z_))).1 (lgc_ge.mp c5))⟩
        · refine gj_goq gj_clT ok_246 [] ?_
          show QI Q (some (.int (i3 (-1)))) SI SJ
          exact ⟨_, rfl, ((((h.2.1 (lgc_eq.mp c2)).1 (lgc_eq.mp c3)).1 (fun z_ => c4 (lgc_eq.mpr z_))).2 (fun z_ => c5 (lgc_ge.mpr z_)))⟩
      · refine gj_goq gj_clT ok_246 [] ?_
        show QI Q (some (.int (i3 0))) SI SJ
        exact ⟨_, rfl, (((h.2.1 (lgc_eq.mp c2)).1 (lgc_eq.mp c3)).2 (lgc_eq.mp c4))⟩
    · refine ⟨k1, ?_⟩
      refine ⟨fun c6 => ?_, fun c6 => ?_⟩
      · refine gj_goq gj_clT ok_246 [] ?_
        show QI Q (some (.int (i3 1))) SI SJ
        exact ⟨_, rfl, (((h.2.1 (lgc_eq.mp c2)).2 (fun z_ => c3 (lgc_eq.mpr z_))).1 (lgc_ge.mp c6))⟩
      · refine gj_goq gj_clT ok_246 [] ?_
        show QI Q (some (.int (i3 (-1)))) SI SJ
        exact ⟨_, rfl, (((h.2.1 (lgc_eq.mp c2)).2 (fun z_ => c3 (lgc_eq.mpr z_))).2 (fun z_ => c6 (lgc_ge.mpr z_)))⟩
  · refine ⟨k1, ?_⟩
    refine ⟨fun c7 => ?_, fun c7 => ?_⟩
    · refine gj_goq gj_clT ok_246 [] ?_
      show QI Q (some (.int (i3 1))) SI SJ
      exact ⟨_, rfl, ((h.2.2 (fun z_ => c2 (lgc_eq.mpr z_))).1 (lgc_ge.mp c7))⟩
    · refine gj_goq gj_clT ok_246 [] ?_
      show QI Q (some (.int (i3 (-1)))) SI SJ
      exact ⟨_, rfl, ((h.2.2 (fun z_ => c2 (lgc_eq.mpr z_))).2 (fun z_ => c7 (lgc_ge.mpr z_)))⟩
set_option maxRecDepth 20000 in
/-- GraspJudgeModel.comesFree -/
theorem st_247 {E : gj_E} {Q : gj_I → gj_J → Prop} (SI : gj_I) (SJ : gj_J) (h : GoV E mt_247 2 [some (.ref 81), some (.int (i3 0)), none] SI SJ Q) : DoV E 247 [(.ref 81)] SI SJ Q := by
  refine gj_start (M := mt_247) ok_247 (Nat.le_of_ble_eq_true rfl) ?_
  refine gj_goq gj_clT ok_247 [2, 15, 38, 47] ?_
  show gj_Goes E om0 mt_247 2 [some (.ref 81), some (.int (i3 0)), none] [] SI SJ (QV Q)
  exact h
set_option maxRecDepth 20000 in
theorem lp_247_2 {E : gj_E} {Q : gj_I → gj_J → Prop} (x1 : Int32) (SI : gj_I) (SJ : gj_J) (h : ((SI 81 37) ≤ x1 → ((SI 81 37) ≤ x1 → GoV E mt_247 47 [some (.ref 81), some (.int x1), some (.int (SI 81 37))] SI SJ Q) ∧ (¬ (SI 81 37) ≤ x1 → DoI E 246 [(.ref 81), (.int x1)] SI SJ (fun r1 SI2 SJ2 => (¬ r1 = 0 → GoV E mt_247 47 [some (.ref 81), some (.int x1), some (.int (SI2 81 37))] SI2 SJ2 Q) ∧ (r1 = 0 → Q SI2 SJ2)))) ∧ (¬ (SI 81 37) ≤ x1 → DoI E 246 [(.ref 81), (.int x1)] SI SJ (fun r3 SI4 SJ4 => (0 ≤ r3 → ((SI4 81 37) ≤ x1 → GoV E mt_247 47 [some (.ref 81), some (.int x1), some (.int (SI4 81 37))] SI4 SJ4 Q) ∧ (¬ (SI4 81 37) ≤ x1 → DoI E 246 [(.ref 81), (.int x1)] SI4 SJ4 (fun r5 SI6 SJ6 => (¬ r5 = 0 → GoV E mt_247 47 [some (.ref 81), some (.int x1), some (.int (SI6 81 37))] SI6 SJ6 Q) ∧ (r5 = 0 → Q SI6 SJ6)))) ∧ (¬ 0 ≤ r3 → GoV E mt_247 2 [some (.ref 81), some (.int (x1 + (i3 1))), none] SI4 SJ4 Q)))) : GoV E mt_247 2 [some (.ref 81), some (.int x1), none] SI SJ Q := by
  refine gj_goq gj_clT ok_247 [2, 15, 38, 47] ?_
  show ((SI 81 37) ≤ x1 → gj_Goes E om0 mt_247 25 [some (.ref 81), some (.int x1), none] [] SI SJ (QV Q)) ∧ (¬ (SI 81 37) ≤ x1 → gj_Do E om0 (gj_mt 246) [(.ref 81), (.int x1)] SI SJ _)
  refine ⟨fun c1 => ?_, fun c1 => ?_⟩
  · refine gj_goq gj_clT ok_247 [2, 15, 38, 47] ?_
    show ((SI 81 37) ≤ x1 → gj_Goes E om0 mt_247 42 [some (.ref 81), some (.int x1), none] [] SI SJ (QV Q)) ∧ (¬ (SI 81 37) ≤ x1 → gj_Do E om0 (gj_mt 246) [(.ref 81), (.int x1)] SI SJ _)
    refine ⟨fun c2 => ?_, fun c2 => ?_⟩
    · refine gj_goq gj_clT ok_247 [2, 15, 38, 47] ?_
      show gj_Goes E om0 mt_247 47 [some (.ref 81), some (.int x1), some (.int (SI 81 37))] [] SI SJ (QV Q)
      exact ((h.1 c1).1 c2)
    · refine gj_Do.mono ((h.1 c1).2 c2) (fun v_ SI2 SJ2 h_ => ?_)
      obtain ⟨r1, rfl, q3⟩ := h_
      show gj_Goes E om0 mt_247 38 [some (.ref 81), some (.int x1), none] [(.int r1)] SI2 SJ2 (QV Q)
      refine gj_goq gj_clT ok_247 [2, 15, 38, 47] ?_
      show (¬ r1 = 0 → gj_Goes E om0 mt_247 42 [some (.ref 81), some (.int x1), none] [] SI2 SJ2 (QV Q)) ∧ (r1 = 0 → QV Q none SI2 SJ2)
      refine ⟨fun c4 => ?_, fun c4 => ?_⟩
      · refine gj_goq gj_clT ok_247 [2, 15, 38, 47] ?_
        show gj_Goes E om0 mt_247 47 [some (.ref 81), some (.int x1), some (.int (SI2 81 37))] [] SI2 SJ2 (QV Q)
        exact (q3.1 c4)
      · exact ⟨rfl, (q3.2 c4)⟩
  · refine gj_Do.mono (h.2 c1) (fun v_ SI4 SJ4 h_ => ?_)
    obtain ⟨r3, rfl, q5⟩ := h_
    show gj_Goes E om0 mt_247 15 [some (.ref 81), some (.int x1), none] [(.int r3)] SI4 SJ4 (QV Q)
    refine gj_goq gj_clT ok_247 [2, 15, 38, 47] ?_
    show (0 ≤ r3 → gj_Goes E om0 mt_247 25 [some (.ref 81), some (.int x1), none] [] SI4 SJ4 (QV Q)) ∧ (¬ 0 ≤ r3 → gj_Goes E om0 mt_247 2 [some (.ref 81), some (.int (x1 + (i3 1))), none] [] SI4 SJ4 (QV Q))
    refine ⟨fun c6 => ?_, fun c6 => ?_⟩
    · refine gj_goq gj_clT ok_247 [2, 15, 38, 47] ?_
      show ((SI4 81 37) ≤ x1 → gj_Goes E om0 mt_247 42 [some (.ref 81), some (.int x1), none] [] SI4 SJ4 (QV Q)) ∧ (¬ (SI4 81 37) ≤ x1 → gj_Do E om0 (gj_mt 246) [(.ref 81), (.int x1)] SI4 SJ4 _)
      refine ⟨fun c7 => ?_, fun c7 => ?_⟩
      · refine gj_goq gj_clT ok_247 [2, 15, 38, 47] ?_
        show gj_Goes E om0 mt_247 47 [some (.ref 81), some (.int x1), some (.int (SI4 81 37))] [] SI4 SJ4 (QV Q)
        exact ((q5.1 c6).1 c7)
      · refine gj_Do.mono ((q5.1 c6).2 c7) (fun v_ SI6 SJ6 h_ => ?_)
        obtain ⟨r5, rfl, q8⟩ := h_
        show gj_Goes E om0 mt_247 38 [some (.ref 81), some (.int x1), none] [(.int r5)] SI6 SJ6 (QV Q)
        refine gj_goq gj_clT ok_247 [2, 15, 38, 47] ?_
        show (¬ r5 = 0 → gj_Goes E om0 mt_247 42 [some (.ref 81), some (.int x1), none] [] SI6 SJ6 (QV Q)) ∧ (r5 = 0 → QV Q none SI6 SJ6)
        refine ⟨fun c9 => ?_, fun c9 => ?_⟩
        · refine gj_goq gj_clT ok_247 [2, 15, 38, 47] ?_
          show gj_Goes E om0 mt_247 47 [some (.ref 81), some (.int x1), some (.int (SI6 81 37))] [] SI6 SJ6 (QV Q)
          exact (q8.1 c9)
        · exact ⟨rfl, (q8.2 c9)⟩
    · exact (q5.2 c6)
set_option maxRecDepth 20000 in
theorem lp_247_47 {E : gj_E} {Q : gj_I → gj_J → Prop} (x1 : Int32) (x2 : Int32) (SI : gj_I) (SJ : gj_J) (h : (x2 ≤ x1 → vp_in x1 70 ∧ (Q (gj_u2 SI 81 37 ((SI 81 37) + (i3 1))) (gj_w2 (gj_w2 (gj_w2 SJ 97 (gj_n x1) (SJ 81 9)) 98 (gj_n x1) (SJ 81 10)) 99 (gj_n x1) (SJ 81 11)))) ∧ (¬ x2 ≤ x1 → vp_in (x2 - (i3 1)) 70 ∧ (vp_in x2 70 ∧ (GoV E mt_247 47 [some (.ref 81), some (.int x1), some (.int (x2 + (i3 (-1))))] SI (gj_w2 (gj_w2 (gj_w2 SJ 97 (gj_n x2) (SJ 97 (gj_n (x2 - (i3 1))))) 98 (gj_n x2) (SJ 98 (gj_n (x2 - (i3 1))))) 99 (gj_n x2) (SJ 99 (gj_n (x2 - (i3 1))))) Q)))) : GoV E mt_247 47 [some (.ref 81), some (.int x1), some (.int x2)] SI SJ Q := by
  refine gj_goq gj_clT ok_247 [2, 15, 38, 47] ?_
  show (x2 ≤ x1 → gj_Goes E om0 mt_247 100 [some (.ref 81), some (.int x1), some (.int x2)] [] SI SJ (QV Q)) ∧ (¬ x2 ≤ x1 → vp_in (x2 - (i3 1)) 70 ∧ (vp_in x2 70 ∧ (vp_in (x2 - (i3 1)) 70 ∧ (vp_in x2 70 ∧ (vp_in (x2 - (i3 1)) 70 ∧ (vp_in x2 70 ∧ (gj_Goes E om0 mt_247 47 [some (.ref 81), some (.int x1), some (.int (x2 + (i3 (-1))))] [] SI (gj_w2 (gj_w2 (gj_w2 SJ 97 (gj_n x2) (SJ 97 (gj_n (x2 - (i3 1))))) 98 (gj_n x2) (SJ 98 (gj_n (x2 - (i3 1))))) 99 (gj_n x2) (SJ 99 (gj_n (x2 - (i3 1))))) (QV Q))))))))
  refine ⟨fun c1 => ?_, fun c1 => ?_⟩
  · refine gj_goq gj_clT ok_247 [2, 15, 38, 47] ?_
    show vp_in x1 70 ∧ (vp_in x1 70 ∧ (vp_in x1 70 ∧ (QV Q none (gj_u2 SI 81 37 ((SI 81 37) + (i3 1))) (gj_w2 (gj_w2 (gj_w2 SJ 97 (gj_n x1) (SJ 81 9)) 98 (gj_n x1) (SJ 81 10)) 99 (gj_n x1) (SJ 81 11)))))
    have k2 := (h.1 c1).1
    refine ⟨k2, ?_⟩
    refine ⟨k2, ?_⟩
    refine ⟨k2, ?_⟩
    exact ⟨rfl, (h.1 c1).2⟩
  · have k3 := (h.2 c1).1
    refine ⟨k3, ?_⟩
    have k4 := (h.2 c1).2.1
    refine ⟨k4, ?_⟩
    refine ⟨k3, ?_⟩
    refine ⟨k4, ?_⟩
    refine ⟨k3, ?_⟩
    refine ⟨k4, ?_⟩
    exact (h.2 c1).2.2
set_option maxRecDepth 20000 in
/-- GraspJudgeModel.frees -/
theorem st_248 {E : gj_E} {Q : Int64 → gj_I → gj_J → Prop} (a1 : Int32) (a2 : Int32) (SI : gj_I) (SJ : gj_J) (h : (a1 < (i3 (-1)) → Q (i6 (-9000000000000000000)) SI SJ) ∧ (¬ a1 < (i3 (-1)) → DoI E 155 [(.long (a2).toInt64), (.long (i6 0)), (.long (i6 2))] SI SJ (fun r1 SI2 SJ2 => (r1 = 0 → Q (i6 (-9000000000000000000)) SI2 SJ2) ∧ (¬ r1 = 0 → (¬ a1 = (i3 (-1)) → DoV E 184 [(.ref 81)] SI2 SJ2 (fun SI4 SJ4 => DoI E 185 [(.ref 81)] (gj_u2 SI4 81 37 (i3 0)) SJ4 (fun r5 SI6 SJ6 => DoI E 193 [(.ref 81), (.int r5)] SI6 SJ6 (fun r7 SI8 SJ8 => (¬ r7 = (i3 3) → (¬ a1 = (i3 (-1)) → (a1 < (SI8 81 37) → (¬ a2 = 0 → (¬ a2 = (i3 1) → vp_in a1 70 ∧ (Q (SJ8 99 (gj_n a1)) SI8 SJ8)) ∧ (a2 = (i3 1) → vp_in a1 70 ∧ (Q (SJ8 98 (gj_n a1)) SI8 SJ8))) ∧ (a2 = 0 → vp_in a1 70 ∧ (Q (SJ8 97 (gj_n a1)) SI8 SJ8))) ∧ (¬ a1 < (SI8 81 37) → Q (i6 (-9000000000000000000)) SI8 SJ8)) ∧ (a1 = (i3 (-1)) → Q (SI8 81 37).toInt64 SI8 SJ8)) ∧ (r7 = (i3 3) → GoL E mt_248 53 [some (.ref 81), some (.int a1), some (.int a2), some (.int (i3 0)), none] SI8 SJ8 Q))))) ∧ (a1 = (i3 (-1)) → (a2 ≤ 0 → DoV E 184 [(.ref 81)] SI2 SJ2 (fun SI10 SJ10 => DoI E 185 [(.ref 81)] (gj_u2 SI10 81 37 (i3 0)) SJ10 (fun r11 SI12 SJ12 => DoI E 193 [(.ref 81), (.int r11)] SI12 SJ12 (fun r13 SI14 SJ14 => (¬ r13 = (i3 3) → (¬ a1 = (i3 (-1)) → (a1 < (SI14 81 37) → (¬ a2 = 0 → (¬ a2 = (i3 1) → vp_in a1 70 ∧ (Q (SJ14 99 (gj_n a1)) SI14 SJ14)) ∧ (a2 = (i3 1) → vp_in a1 70 ∧ (Q (SJ14 98 (gj_n a1)) SI14 SJ14))) ∧ (a2 = 0 → vp_in a1 70 ∧ (Q (SJ14 97 (gj_n a1)) SI14 SJ14))) ∧ (¬ a1 < (SI14 81 37) → Q (i6 (-9000000000000000000)) SI14 SJ14)) ∧ (a1 = (i3 (-1)) → Q (SI14 81 37).toInt64 SI14 SJ14)) ∧ (r13 = (i3 3) → GoL E mt_248 53 [some (.ref 81), some (.int a1), some (.int a2), some (.int (i3 0)), none] SI14 SJ14 Q))))) ∧ (¬ a2 ≤ 0 → Q (i6 (-9000000000000000000)) SI2 SJ2)))))) : DoL E 248 [(.ref 81), (.int a1), (.int a2)] SI SJ Q := by
  refine gj_start (M := mt_248) ok_248 (Nat.le_of_ble_eq_true rfl) ?_
  refine gj_goq gj_clT ok_248 [14, 34, 44, 47, 53, 66, 82, 89] ?_
  show (a1 < (i3 (-1)) → gj_Goes E om0 mt_248 26 [some (.ref 81), some (.int a1), some (.int a2), none, none] [] SI SJ (QL Q)) ∧ (¬ a1 < (i3 (-1)) → gj_Do E om0 (gj_mt 155) [(.long (a2).toInt64), (.long (i6 0)), (.long (i6 2))] SI SJ _)
  refine ⟨fun c1 => ?_, fun c1 => ?_⟩
  · refine gj_goq gj_clT ok_248 [14, 34, 44, 47, 53, 66, 82, 89] ?_
    show QL Q (some (.long (i6 (-9000000000000000000)))) SI SJ
    exact ⟨_, rfl, (h.1 c1)⟩
  · refine gj_Do.mono (h.2 c1) (fun v_ SI2 SJ2 h_ => ?_)
    obtain ⟨r1, rfl, q2⟩ := h_
    show gj_Goes E om0 mt_248 14 [some (.ref 81), some (.int a1), some (.int a2), none, none] [(.int r1)] SI2 SJ2 (QL Q)
    refine gj_goq gj_clT ok_248 [14, 34, 44, 47, 53, 66, 82, 89] ?_
    show (r1 = 0 → gj_Goes E om0 mt_248 26 [some (.ref 81), some (.int a1), some (.int a2), none, none] [] SI2 SJ2 (QL Q)) ∧ (¬ r1 = 0 → (¬ a1 = (i3 (-1)) → gj_Goes E om0 mt_248 30 [some (.ref 81), some (.int a1), some (.int a2), none, none] [] SI2 SJ2 (QL Q)) ∧ (a1 = (i3 (-1)) → (a2 ≤ 0 → gj_Goes E om0 mt_248 30 [some (.ref 81), some (.int a1), some (.int a2), none, none] [] SI2 SJ2 (QL Q)) ∧ (¬ a2 ≤ 0 → QL Q (some (.long (i6 (-9000000000000000000)))) SI2 SJ2)))
    refine ⟨fun c3 => ?_, fun c3 => ?_⟩
    · refine gj_goq gj_clT ok_248 [14, 34, 44, 47, 53, 66, 82, 89] ?_
      show QL Q (some (.long (i6 (-9000000000000000000)))) SI2 SJ2
      exact ⟨_, rfl, (q2.1 c3)⟩
    · refine ⟨fun c4 => ?_, fun c4 => ?_⟩
      · refine gj_goq gj_clT ok_248 [14, 34, 44, 47, 53, 66, 82, 89] ?_
        show gj_Do E om0 (gj_mt 184) [(.ref 81)] SI2 SJ2 _
        refine gj_Do.mono ((q2.2 c3).1 c4) (fun v_ SI4 SJ4 h_ => ?_)
        obtain ⟨rfl, q5⟩ := h_
        show gj_Goes E om0 mt_248 34 [some (.ref 81), some (.int a1), some (.int a2), none, none] [] SI4 SJ4 (QL Q)
        refine gj_goq gj_clT ok_248 [14, 34, 44, 47, 53, 66, 82, 89] ?_
        show gj_Do E om0 (gj_mt 185) [(.ref 81)] (gj_u2 SI4 81 37 (i3 0)) SJ4 _
        refine gj_Do.mono q5 (fun v_ SI6 SJ6 h_ => ?_)
        obtain ⟨r5, rfl, q6⟩ := h_
        show gj_Goes E om0 mt_248 44 [some (.ref 81), some (.int a1), some (.int a2), none, none] [(.int r5), (.ref 81)] SI6 SJ6 (QL Q)
        refine gj_goq gj_clT ok_248 [14, 34, 44, 47, 53, 66, 82, 89] ?_
        show gj_Do E om0 (gj_mt 193) [(.ref 81), (.int r5)] SI6 SJ6 _
        refine gj_Do.mono q6 (fun v_ SI8 SJ8 h_ => ?_)
        obtain ⟨r7, rfl, q7⟩ := h_
        show gj_Goes E om0 mt_248 47 [some (.ref 81), some (.int a1), some (.int a2), none, none] [(.int r7)] SI8 SJ8 (QL Q)
        refine gj_goq gj_clT ok_248 [14, 34, 44, 47, 53, 66, 82, 89] ?_
        show (¬ r7 = (i3 3) → gj_Goes E om0 mt_248 101 [some (.ref 81), some (.int a1), some (.int a2), none, none] [] SI8 SJ8 (QL Q)) ∧ (r7 = (i3 3) → gj_Goes E om0 mt_248 53 [some (.ref 81), some (.int a1), some (.int a2), some (.int (i3 0)), none] [] SI8 SJ8 (QL Q))
        refine ⟨fun c8 => ?_, fun c8 => ?_⟩
        · refine gj_goq gj_clT ok_248 [14, 34, 44, 47, 53, 66, 82, 89] ?_
          show (¬ a1 = (i3 (-1)) → gj_Goes E om0 mt_248 112 [some (.ref 81), some (.int a1), some (.int a2), none, none] [] SI8 SJ8 (QL Q)) ∧ (a1 = (i3 (-1)) → QL Q (some (.long (SI8 81 37).toInt64)) SI8 SJ8)
          refine ⟨fun c9 => ?_, fun c9 => ?_⟩
          · refine gj_goq gj_clT ok_248 [14, 34, 44, 47, 53, 66, 82, 89] ?_
            show (a1 < (SI8 81 37) → gj_Goes E om0 mt_248 126 [some (.ref 81), some (.int a1), some (.int a2), none, none] [] SI8 SJ8 (QL Q)) ∧ (¬ a1 < (SI8 81 37) → gj_Goes E om0 mt_248 159 [some (.ref 81), some (.int a1), some (.int a2), none, none] [(.long (i6 (-9000000000000000000)))] SI8 SJ8 (QL Q))
            refine ⟨fun c10 => ?_, fun c10 => ?_⟩
            · refine gj_goq gj_clT ok_248 [14, 34, 44, 47, 53, 66, 82, 89] ?_
              show (¬ a2 = 0 → gj_Goes E om0 mt_248 139 [some (.ref 81), some (.int a1), some (.int a2), none, none] [] SI8 SJ8 (QL Q)) ∧ (a2 = 0 → vp_in a1 70 ∧ (gj_Goes E om0 mt_248 159 [some (.ref 81), some (.int a1), some (.int a2), none, none] [(.long (SJ8 97 (gj_n a1)))] SI8 SJ8 (QL Q)))
              refine ⟨fun c11 => ?_, fun c11 => ?_⟩
              · refine gj_goq gj_clT ok_248 [14, 34, 44, 47, 53, 66, 82, 89] ?_
                show (¬ a2 = (i3 1) → gj_Goes E om0 mt_248 153 [some (.ref 81), some (.int a1), some (.int a2), none, none] [] SI8 SJ8 (QL Q)) ∧ (a2 = (i3 1) → vp_in a1 70 ∧ (gj_Goes E om0 mt_248 159 [some (.ref 81), some (.int a1), some (.int a2), none, none] [(.long (SJ8 98 (gj_n a1)))] SI8 SJ8 (QL Q)))
                refine ⟨fun c12 => ?_, fun c12 => ?_⟩
                · refine gj_goq gj_clT ok_248 [14, 34, 44, 47, 53, 66, 82, 89] ?_
                  show vp_in a1 70 ∧ (QL Q (some (.long (SJ8 99 (gj_n a1)))) SI8 SJ8)
                  have k13 := (((((q7.1 c8).1 c9).1 c10).1 c11).1 c12).1
                  refine ⟨k13, ?_⟩
                  exact ⟨_, rfl, (((((q7.1 c8).1 c9).1 c10).1 c11).1 c12).2⟩
                · have k14 := (((((q7.1 c8).1 c9).1 c10).1 c11).2 c12).1
                  refine ⟨k14, ?_⟩
                  refine gj_goq gj_clT ok_248 [14, 34, 44, 47, 53, 66, 82, 89] ?_
                  show QL Q (some (.long (SJ8 98 (gj_n a1)))) SI8 SJ8
                  exact ⟨_, rfl, (((((q7.1 c8).1 c9).1 c10).1 c11).2 c12).2⟩
              · have k15 := ((((q7.1 c8).1 c9).1 c10).2 c11).1
                refine ⟨k15, ?_⟩
                refine gj_goq gj_clT ok_248 [14, 34, 44, 47, 53, 66, 82, 89] ?_
                show QL Q (some (.long (SJ8 97 (gj_n a1)))) SI8 SJ8
                exact ⟨_, rfl, ((((q7.1 c8).1 c9).1 c10).2 c11).2⟩
            · refine gj_goq gj_clT ok_248 [14, 34, 44, 47, 53, 66, 82, 89] ?_
              show QL Q (some (.long (i6 (-9000000000000000000)))) SI8 SJ8
              exact ⟨_, rfl, (((q7.1 c8).1 c9).2 c10)⟩
          · exact ⟨_, rfl, ((q7.1 c8).2 c9)⟩
        · exact (q7.2 c8)
      · refine ⟨fun c16 => ?_, fun c16 => ?_⟩
        · refine gj_goq gj_clT ok_248 [14, 34, 44, 47, 53, 66, 82, 89] ?_
          show gj_Do E om0 (gj_mt 184) [(.ref 81)] SI2 SJ2 _
          refine gj_Do.mono (((q2.2 c3).2 c4).1 c16) (fun v_ SI10 SJ10 h_ => ?_)
          obtain ⟨rfl, q17⟩ := h_
          show gj_Goes E om0 mt_248 34 [some (.ref 81), some (.int a1), some (.int a2), none, none] [] SI10 SJ10 (QL Q)
          refine gj_goq gj_clT ok_248 [14, 34, 44, 47, 53, 66, 82, 89] ?_
          show gj_Do E om0 (gj_mt 185) [(.ref 81)] (gj_u2 SI10 81 37 (i3 0)) SJ10 _
          refine gj_Do.mono q17 (fun v_ SI12 SJ12 h_ => ?_)
          obtain ⟨r11, rfl, q18⟩ := h_
          show gj_Goes E om0 mt_248 44 [some (.ref 81), some (.int a1), some (.int a2), none, none] [(.int r11), (.ref 81)] SI12 SJ12 (QL Q)
          refine gj_goq gj_clT ok_248 [14, 34, 44, 47, 53, 66, 82, 89] ?_
          show gj_Do E om0 (gj_mt 193) [(.ref 81), (.int r11)] SI12 SJ12 _
          refine gj_Do.mono q18 (fun v_ SI14 SJ14 h_ => ?_)
          obtain ⟨r13, rfl, q19⟩ := h_
          show gj_Goes E om0 mt_248 47 [some (.ref 81), some (.int a1), some (.int a2), none, none] [(.int r13)] SI14 SJ14 (QL Q)
          refine gj_goq gj_clT ok_248 [14, 34, 44, 47, 53, 66, 82, 89] ?_
          show (¬ r13 = (i3 3) → gj_Goes E om0 mt_248 101 [some (.ref 81), some (.int a1), some (.int a2), none, none] [] SI14 SJ14 (QL Q)) ∧ (r13 = (i3 3) → gj_Goes E om0 mt_248 53 [some (.ref 81), some (.int a1), some (.int a2), some (.int (i3 0)), none] [] SI14 SJ14 (QL Q))
          refine ⟨fun c20 => ?_, fun c20 => ?_⟩
          · refine gj_goq gj_clT ok_248 [14, 34, 44, 47, 53, 66, 82, 89] ?_
            show (¬ a1 = (i3 (-1)) → gj_Goes E om0 mt_248 112 [some (.ref 81), some (.int a1), some (.int a2), none, none] [] SI14 SJ14 (QL Q)) ∧ (a1 = (i3 (-1)) → QL Q (some (.long (SI14 81 37).toInt64)) SI14 SJ14)
            refine ⟨fun c21 => ?_, fun c21 => ?_⟩
            · refine gj_goq gj_clT ok_248 [14, 34, 44, 47, 53, 66, 82, 89] ?_
              show (a1 < (SI14 81 37) → gj_Goes E om0 mt_248 126 [some (.ref 81), some (.int a1), some (.int a2), none, none] [] SI14 SJ14 (QL Q)) ∧ (¬ a1 < (SI14 81 37) → gj_Goes E om0 mt_248 159 [some (.ref 81), some (.int a1), some (.int a2), none, none] [(.long (i6 (-9000000000000000000)))] SI14 SJ14 (QL Q))
              refine ⟨fun c22 => ?_, fun c22 => ?_⟩
              · refine gj_goq gj_clT ok_248 [14, 34, 44, 47, 53, 66, 82, 89] ?_
                show (¬ a2 = 0 → gj_Goes E om0 mt_248 139 [some (.ref 81), some (.int a1), some (.int a2), none, none] [] SI14 SJ14 (QL Q)) ∧ (a2 = 0 → vp_in a1 70 ∧ (gj_Goes E om0 mt_248 159 [some (.ref 81), some (.int a1), some (.int a2), none, none] [(.long (SJ14 97 (gj_n a1)))] SI14 SJ14 (QL Q)))
                refine ⟨fun c23 => ?_, fun c23 => ?_⟩
                · refine gj_goq gj_clT ok_248 [14, 34, 44, 47, 53, 66, 82, 89] ?_
                  show (¬ a2 = (i3 1) → gj_Goes E om0 mt_248 153 [some (.ref 81), some (.int a1), some (.int a2), none, none] [] SI14 SJ14 (QL Q)) ∧ (a2 = (i3 1) → vp_in a1 70 ∧ (gj_Goes E om0 mt_248 159 [some (.ref 81), some (.int a1), some (.int a2), none, none] [(.long (SJ14 98 (gj_n a1)))] SI14 SJ14 (QL Q)))
                  refine ⟨fun c24 => ?_, fun c24 => ?_⟩
                  · refine gj_goq gj_clT ok_248 [14, 34, 44, 47, 53, 66, 82, 89] ?_
                    show vp_in a1 70 ∧ (QL Q (some (.long (SJ14 99 (gj_n a1)))) SI14 SJ14)
                    have k25 := (((((q19.1 c20).1 c21).1 c22).1 c23).1 c24).1
                    refine ⟨k25, ?_⟩
                    exact ⟨_, rfl, (((((q19.1 c20).1 c21).1 c22).1 c23).1 c24).2⟩
                  · have k26 := (((((q19.1 c20).1 c21).1 c22).1 c23).2 c24).1
                    refine ⟨k26, ?_⟩
                    refine gj_goq gj_clT ok_248 [14, 34, 44, 47, 53, 66, 82, 89] ?_
                    show QL Q (some (.long (SJ14 98 (gj_n a1)))) SI14 SJ14
                    exact ⟨_, rfl, (((((q19.1 c20).1 c21).1 c22).1 c23).2 c24).2⟩
                · have k27 := ((((q19.1 c20).1 c21).1 c22).2 c23).1
                  refine ⟨k27, ?_⟩
                  refine gj_goq gj_clT ok_248 [14, 34, 44, 47, 53, 66, 82, 89] ?_
                  show QL Q (some (.long (SJ14 97 (gj_n a1)))) SI14 SJ14
                  exact ⟨_, rfl, ((((q19.1 c20).1 c21).1 c22).2 c23).2⟩
              · refine gj_goq gj_clT ok_248 [14, 34, 44, 47, 53, 66, 82, 89] ?_
                show QL Q (some (.long (i6 (-9000000000000000000)))) SI14 SJ14
                exact ⟨_, rfl, (((q19.1 c20).1 c21).2 c22)⟩
            · exact ⟨_, rfl, ((q19.1 c20).2 c21)⟩
          · exact (q19.2 c20)
        · exact ⟨_, rfl, (((q2.2 c3).2 c4).2 c16)⟩
set_option maxRecDepth 20000 in
theorem lp_248_53 {E : gj_E} {Q : Int64 → gj_I → gj_J → Prop} (x1 : Int32) (x2 : Int32) (x3 : Int32) (SI : gj_I) (SJ : gj_J) (h : ((SI 81 8) ≤ x3 → (¬ x1 = (i3 (-1)) → (x1 < (SI 81 37) → (¬ x2 = 0 → (¬ x2 = (i3 1) → vp_in x1 70 ∧ (Q (SJ 99 (gj_n x1)) SI SJ)) ∧ (x2 = (i3 1) → vp_in x1 70 ∧ (Q (SJ 98 (gj_n x1)) SI SJ))) ∧ (x2 = 0 → vp_in x1 70 ∧ (Q (SJ 97 (gj_n x1)) SI SJ))) ∧ (¬ x1 < (SI 81 37) → Q (i6 (-9000000000000000000)) SI SJ)) ∧ (x1 = (i3 (-1)) → Q (SI 81 37).toInt64 SI SJ)) ∧ (¬ (SI 81 8) ≤ x3 → GoL E mt_248 66 [some (.ref 81), some (.int x1), some (.int x2), some (.int x3), some (.int (x3 + (i3 1)))] SI SJ Q)) : GoL E mt_248 53 [some (.ref 81), some (.int x1), some (.int x2), some (.int x3), none] SI SJ Q := by
  refine gj_goq gj_clT ok_248 [14, 34, 44, 47, 53, 66, 82, 89] ?_
  show ((SI 81 8) ≤ x3 → gj_Goes E om0 mt_248 101 [some (.ref 81), some (.int x1), some (.int x2), some (.int x3), none] [] SI SJ (QL Q)) ∧ (¬ (SI 81 8) ≤ x3 → gj_Goes E om0 mt_248 66 [some (.ref 81), some (.int x1), some (.int x2), some (.int x3), some (.int (x3 + (i3 1)))] [] SI SJ (QL Q))
  refine ⟨fun c1 => ?_, fun c1 => ?_⟩
  · refine gj_goq gj_clT ok_248 [14, 34, 44, 47, 53, 66, 82, 89] ?_
    show (¬ x1 = (i3 (-1)) → gj_Goes E om0 mt_248 112 [some (.ref 81), some (.int x1), some (.int x2), some (.int x3), none] [] SI SJ (QL Q)) ∧ (x1 = (i3 (-1)) → QL Q (some (.long (SI 81 37).toInt64)) SI SJ)
    refine ⟨fun c2 => ?_, fun c2 => ?_⟩
    · refine gj_goq gj_clT ok_248 [14, 34, 44, 47, 53, 66, 82, 89] ?_
      show (x1 < (SI 81 37) → gj_Goes E om0 mt_248 126 [some (.ref 81), some (.int x1), some (.int x2), some (.int x3), none] [] SI SJ (QL Q)) ∧ (¬ x1 < (SI 81 37) → gj_Goes E om0 mt_248 159 [some (.ref 81), some (.int x1), some (.int x2), some (.int x3), none] [(.long (i6 (-9000000000000000000)))] SI SJ (QL Q))
      refine ⟨fun c3 => ?_, fun c3 => ?_⟩
      · refine gj_goq gj_clT ok_248 [14, 34, 44, 47, 53, 66, 82, 89] ?_
        show (¬ x2 = 0 → gj_Goes E om0 mt_248 139 [some (.ref 81), some (.int x1), some (.int x2), some (.int x3), none] [] SI SJ (QL Q)) ∧ (x2 = 0 → vp_in x1 70 ∧ (gj_Goes E om0 mt_248 159 [some (.ref 81), some (.int x1), some (.int x2), some (.int x3), none] [(.long (SJ 97 (gj_n x1)))] SI SJ (QL Q)))
        refine ⟨fun c4 => ?_, fun c4 => ?_⟩
        · refine gj_goq gj_clT ok_248 [14, 34, 44, 47, 53, 66, 82, 89] ?_
          show (¬ x2 = (i3 1) → gj_Goes E om0 mt_248 153 [some (.ref 81), some (.int x1), some (.int x2), some (.int x3), none] [] SI SJ (QL Q)) ∧ (x2 = (i3 1) → vp_in x1 70 ∧ (gj_Goes E om0 mt_248 159 [some (.ref 81), some (.int x1), some (.int x2), some (.int x3), none] [(.long (SJ 98 (gj_n x1)))] SI SJ (QL Q)))
          refine ⟨fun c5 => ?_, fun c5 => ?_⟩
          · refine gj_goq gj_clT ok_248 [14, 34, 44, 47, 53, 66, 82, 89] ?_
            show vp_in x1 70 ∧ (QL Q (some (.long (SJ 99 (gj_n x1)))) SI SJ)
            have k6 := (((((h.1 c1).1 c2).1 c3).1 c4).1 c5).1
            refine ⟨k6, ?_⟩
            exact ⟨_, rfl, (((((h.1 c1).1 c2).1 c3).1 c4).1 c5).2⟩
          · have k7 := (((((h.1 c1).1 c2).1 c3).1 c4).2 c5).1
            refine ⟨k7, ?_⟩
            refine gj_goq gj_clT ok_248 [14, 34, 44, 47, 53, 66, 82, 89] ?_
            show QL Q (some (.long (SJ 98 (gj_n x1)))) SI SJ
            exact ⟨_, rfl, (((((h.1 c1).1 c2).1 c3).1 c4).2 c5).2⟩
        · have k8 := ((((h.1 c1).1 c2).1 c3).2 c4).1
          refine ⟨k8, ?_⟩
          refine gj_goq gj_clT ok_248 [14, 34, 44, 47, 53, 66, 82, 89] ?_
          show QL Q (some (.long (SJ 97 (gj_n x1)))) SI SJ
          exact ⟨_, rfl, ((((h.1 c1).1 c2).1 c3).2 c4).2⟩
      · refine gj_goq gj_clT ok_248 [14, 34, 44, 47, 53, 66, 82, 89] ?_
        show QL Q (some (.long (i6 (-9000000000000000000)))) SI SJ
        exact ⟨_, rfl, (((h.1 c1).1 c2).2 c3)⟩
    · exact ⟨_, rfl, ((h.1 c1).2 c2)⟩
  · exact (h.2 c1)
set_option maxRecDepth 20000 in
theorem lp_248_66 {E : gj_E} {Q : Int64 → gj_I → gj_J → Prop} (x1 : Int32) (x2 : Int32) (x3 : Int32) (x4 : Int32) (SI : gj_I) (SJ : gj_J) (h : ((SI 81 8) ≤ x4 → GoL E mt_248 53 [some (.ref 81), some (.int x1), some (.int x2), some (.int (x3 + (i3 1))), none] SI SJ Q) ∧ (¬ (SI 81 8) ≤ x4 → DoI E 241 [(.ref 81), (.int x3), (.int x4)] SI SJ (fun r1 SI2 SJ2 => (r1 = 0 → GoL E mt_248 66 [some (.ref 81), some (.int x1), some (.int x2), some (.int x3), some (.int (x4 + (i3 1)))] SI2 SJ2 Q) ∧ (¬ r1 = 0 → DoV E 247 [(.ref 81)] SI2 SJ2 (fun SI4 SJ4 => GoL E mt_248 66 [some (.ref 81), some (.int x1), some (.int x2), some (.int x3), some (.int (x4 + (i3 1)))] SI4 SJ4 Q))))) : GoL E mt_248 66 [some (.ref 81), some (.int x1), some (.int x2), some (.int x3), some (.int x4)] SI SJ Q := by
  refine gj_goq gj_clT ok_248 [14, 34, 44, 47, 53, 66, 82, 89] ?_
  show ((SI 81 8) ≤ x4 → gj_Goes E om0 mt_248 95 [some (.ref 81), some (.int x1), some (.int x2), some (.int x3), some (.int x4)] [] SI SJ (QL Q)) ∧ (¬ (SI 81 8) ≤ x4 → gj_Do E om0 (gj_mt 241) [(.ref 81), (.int x3), (.int x4)] SI SJ _)
  refine ⟨fun c1 => ?_, fun c1 => ?_⟩
  · refine gj_goq gj_clT ok_248 [14, 34, 44, 47, 53, 66, 82, 89] ?_
    show gj_Goes E om0 mt_248 53 [some (.ref 81), some (.int x1), some (.int x2), some (.int (x3 + (i3 1))), some (.int x4)] [] SI SJ (QL Q)
    exact gj_fh (h.1 c1) (And.intro (Or.inr rfl) (And.intro (Or.inr rfl) (And.intro (Or.inr rfl) (And.intro (Or.inr rfl) (And.intro (Or.inl rfl) trivial)))))
  · refine gj_Do.mono (h.2 c1) (fun v_ SI2 SJ2 h_ => ?_)
    obtain ⟨r1, rfl, q2⟩ := h_
    show gj_Goes E om0 mt_248 82 [some (.ref 81), some (.int x1), some (.int x2), some (.int x3), some (.int x4)] [(.int r1)] SI2 SJ2 (QL Q)
    refine gj_goq gj_clT ok_248 [14, 34, 44, 47, 53, 66, 82, 89] ?_
    show (r1 = 0 → gj_Goes E om0 mt_248 89 [some (.ref 81), some (.int x1), some (.int x2), some (.int x3), some (.int x4)] [] SI2 SJ2 (QL Q)) ∧ (¬ r1 = 0 → gj_Do E om0 (gj_mt 247) [(.ref 81)] SI2 SJ2 _)
    refine ⟨fun c3 => ?_, fun c3 => ?_⟩
    · refine gj_goq gj_clT ok_248 [14, 34, 44, 47, 53, 66, 82, 89] ?_
      show gj_Goes E om0 mt_248 66 [some (.ref 81), some (.int x1), some (.int x2), some (.int x3), some (.int (x4 + (i3 1)))] [] SI2 SJ2 (QL Q)
      exact (q2.1 c3)
    · refine gj_Do.mono (q2.2 c3) (fun v_ SI4 SJ4 h_ => ?_)
      obtain ⟨rfl, q4⟩ := h_
      show gj_Goes E om0 mt_248 89 [some (.ref 81), some (.int x1), some (.int x2), some (.int x3), some (.int x4)] [] SI4 SJ4 (QL Q)
      refine gj_goq gj_clT ok_248 [14, 34, 44, 47, 53, 66, 82, 89] ?_
      show gj_Goes E om0 mt_248 66 [some (.ref 81), some (.int x1), some (.int x2), some (.int x3), some (.int (x4 + (i3 1)))] [] SI4 SJ4 (QL Q)
      exact q4
set_option maxRecDepth 20000 in
/-- GraspJudgeModel.findsSide -/
theorem st_249 {E : gj_E} {Q : Int32 → gj_I → gj_J → Prop} (a1 : Int32) (a2 : Int32) (a3 : Int32) (SI : gj_I) (SJ : gj_J) (h : vp_in a2 16 ∧ (vp_in a1 16 ∧ (vp_in a3 16 ∧ (DoI E 188 [(.ref 81)] SI (gj_w2 (gj_w2 (gj_w2 SJ 81 9 ((((SJ 86 (gj_n a2)) - (SJ 86 (gj_n a1))) * ((SJ 87 (gj_n a3)) - (SJ 87 (gj_n a1)))) - (((SJ 87 (gj_n a2)) - (SJ 87 (gj_n a1))) * ((SJ 86 (gj_n a3)) - (SJ 86 (gj_n a1)))))) 81 10 ((((SJ 87 (gj_n a2)) - (SJ 87 (gj_n a1))) * ((SJ 85 (gj_n a3)) - (SJ 85 (gj_n a1)))) - (((SJ 85 (gj_n a2)) - (SJ 85 (gj_n a1))) * ((SJ 87 (gj_n a3)) - (SJ 87 (gj_n a1)))))) 81 11 ((((SJ 85 (gj_n a2)) - (SJ 85 (gj_n a1))) * ((SJ 86 (gj_n a3)) - (SJ 86 (gj_n a1)))) - (((SJ 86 (gj_n a2)) - (SJ 86 (gj_n a1))) * ((SJ 85 (gj_n a3)) - (SJ 85 (gj_n a1)))))) (fun r1 SI2 SJ2 => (r1 = 0 → DoV E 189 [(.ref 81)] SI2 SJ2 (fun SI4 SJ4 => DoL E 191 [(.ref 81), (.int a1)] SI4 SJ4 (fun r5 SI6 SJ6 => (r5 ≥ (i6 0) → DoL E 191 [(.ref 81), (.int a1)] SI6 SJ6 (fun r7 SI8 SJ8 => (¬ r7 = (i6 0) → GoI E mt_249 185 [some (.ref 81), none, none, none, none, none, none, none, none, none, none, none, none, none, none, none, some (.int (i3 0))] SI8 (gj_w2 SJ8 81 38 r7) Q) ∧ (r7 = (i6 0) → Q (i3 0) SI8 (gj_w2 SJ8 81 38 r7)))) ∧ (¬ r5 ≥ (i6 0) → DoV E 190 [(.ref 81)] SI6 SJ6 (fun SI10 SJ10 => DoL E 191 [(.ref 81), (.int a1)] SI10 SJ10 (fun r11 SI12 SJ12 => (¬ r11 = (i6 0) → GoI E mt_249 185 [some (.ref 81), none, none, none, none, none, none, none, none, none, none, none, none, none, none, none, some (.int (i3 0))] SI12 (gj_w2 SJ12 81 38 r11) Q) ∧ (r11 = (i6 0) → Q (i3 0) SI12 (gj_w2 SJ12 81 38 r11)))))))) ∧ (¬ r1 = 0 → Q (i3 0) SI2 SJ2)))))) : DoI E 249 [(.ref 81), (.int a1), (.int a2), (.int a3)] SI SJ Q := by
  refine gj_start (M := mt_249) ok_249 (Nat.le_of_ble_eq_true rfl) ?_
  refine gj_goq gj_clT ok_249 [139, 148, 153, 162, 168, 185, 200] ?_
  show vp_in a2 16 ∧ (vp_in a1 16 ∧ (vp_in a2 16 ∧ (vp_in a1 16 ∧ (vp_in a2 16 ∧ (vp_in a1 16 ∧ (vp_in a3 16 ∧ (vp_in a1 16 ∧ (vp_in a3 16 ∧ (vp_in a1 16 ∧ (vp_in a3 16 ∧ (vp_in a1 16 ∧ (gj_Do E om0 (gj_mt 188) [(.ref 81)] SI (gj_w2 (gj_w2 (gj_w2 SJ 81 9 ((((SJ 86 (gj_n a2)) - (SJ 86 (gj_n a1))) * ((SJ 87 (gj_n a3)) - (SJ 87 (gj_n a1)))) - (((SJ 87 (gj_n a2)) - (SJ 87 (gj_n a1))) * ((SJ 86 (gj_n a3)) - (SJ 86 (gj_n a1)))))) 81 10 ((((SJ 87 (gj_n a2)) - (SJ 87 (gj_n a1))) * ((SJ 85 (gj_n a3)) - (SJ 85 (gj_n a1)))) - (((SJ 85 (gj_n a2)) - (SJ 85 (gj_n a1))) * ((SJ 87 (gj_n a3)) - (SJ 87 (gj_n a1)))))) 81 11 ((((SJ 85 (gj_n a2)) - (SJ 85 (gj_n a1))) * ((SJ 86 (gj_n a3)) - (SJ 86 (gj_n a1)))) - (((SJ 86 (gj_n a2)) - (SJ 86 (gj_n a1))) * ((SJ 85 (gj_n a3)) - (SJ 85 (gj_n a1)))))) _))))))))))))
  have k1 := h.1
  refine ⟨k1, ?_⟩
  have k2 := h.2.1
  refine ⟨k2, ?_⟩
  refine ⟨k1, ?_⟩
  refine ⟨k2, ?_⟩
  refine ⟨k1, ?_⟩
  refine ⟨k2, ?_⟩
  have k3 := h.2.2.1
  refine ⟨k3, ?_⟩
  refine ⟨k2, ?_⟩
  refine ⟨k3, ?_⟩
  refine ⟨k2, ?_⟩
  refine ⟨k3, ?_⟩
  refine ⟨k2, ?_⟩
  refine gj_Do.mono h.2.2.2 (fun v_ SI2 SJ2 h_ => ?_)
  obtain ⟨r1, rfl, q4⟩ := h_
  show gj_Goes E om0 mt_249 139 [some (.ref 81), some (.int a1), some (.int a2), some (.int a3), some (.long ((SJ 85 (gj_n a2)) - (SJ 85 (gj_n a1)))), none, some (.long ((SJ 86 (gj_n a2)) - (SJ 86 (gj_n a1)))), none, some (.long ((SJ 87 (gj_n a2)) - (SJ 87 (gj_n a1)))), none, some (.long ((SJ 85 (gj_n a3)) - (SJ 85 (gj_n a1)))), none, some (.long ((SJ 86 (gj_n a3)) - (SJ 86 (gj_n a1)))), none, some (.long ((SJ 87 (gj_n a3)) - (SJ 87 (gj_n a1)))), none, none] [(.int r1)] SI2 SJ2 (QI Q)
  refine gj_goq gj_clT ok_249 [139, 148, 153, 162, 168, 185, 200] ?_
  show (r1 = 0 → gj_Goes E om0 mt_249 144 [some (.ref 81), some (.int a1), some (.int a2), some (.int a3), some (.long ((SJ 85 (gj_n a2)) - (SJ 85 (gj_n a1)))), none, some (.long ((SJ 86 (gj_n a2)) - (SJ 86 (gj_n a1)))), none, some (.long ((SJ 87 (gj_n a2)) - (SJ 87 (gj_n a1)))), none, some (.long ((SJ 85 (gj_n a3)) - (SJ 85 (gj_n a1)))), none, some (.long ((SJ 86 (gj_n a3)) - (SJ 86 (gj_n a1)))), none, some (.long ((SJ 87 (gj_n a3)) - (SJ 87 (gj_n a1)))), none, none] [] SI2 SJ2 (QI Q)) ∧ (¬ r1 = 0 → ((i3 0) = 0 ∨ (i3 0) = 1) ∧ (QI Q (some (.int (i3 0))) SI2 SJ2))
  refine ⟨fun c5 => ?_, fun c5 => ?_⟩
  · refine gj_goq gj_clT ok_249 [139, 148, 153, 162, 168, 185, 200] ?_
    show gj_Do E om0 (gj_mt 189) [(.ref 81)] SI2 SJ2 _
    refine gj_Do.mono (q4.1 c5) (fun v_ SI4 SJ4 h_ => ?_)
    obtain ⟨rfl, q6⟩ := h_
    show gj_Goes E om0 mt_249 148 [some (.ref 81), some (.int a1), some (.int a2), some (.int a3), some (.long ((SJ 85 (gj_n a2)) - (SJ 85 (gj_n a1)))), none, some (.long ((SJ 86 (gj_n a2)) - (SJ 86 (gj_n a1)))), none, some (.long ((SJ 87 (gj_n a2)) - (SJ 87 (gj_n a1)))), none, some (.long ((SJ 85 (gj_n a3)) - (SJ 85 (gj_n a1)))), none, some (.long ((SJ 86 (gj_n a3)) - (SJ 86 (gj_n a1)))), none, some (.long ((SJ 87 (gj_n a3)) - (SJ 87 (gj_n a1)))), none, none] [] SI4 SJ4 (QI Q)
    refine gj_goq gj_clT ok_249 [139, 148, 153, 162, 168, 185, 200] ?_
    show gj_Do E om0 (gj_mt 191) [(.ref 81), (.int a1)] SI4 SJ4 _
    refine gj_Do.mono q6 (fun v_ SI6 SJ6 h_ => ?_)
    obtain ⟨r5, rfl, q7⟩ := h_
    show gj_Goes E om0 mt_249 153 [some (.ref 81), some (.int a1), some (.int a2), some (.int a3), some (.long ((SJ 85 (gj_n a2)) - (SJ 85 (gj_n a1)))), none, some (.long ((SJ 86 (gj_n a2)) - (SJ 86 (gj_n a1)))), none, some (.long ((SJ 87 (gj_n a2)) - (SJ 87 (gj_n a1)))), none, some (.long ((SJ 85 (gj_n a3)) - (SJ 85 (gj_n a1)))), none, some (.long ((SJ 86 (gj_n a3)) - (SJ 86 (gj_n a1)))), none, some (.long ((SJ 87 (gj_n a3)) - (SJ 87 (gj_n a1)))), none, none] [(.long r5)] SI6 SJ6 (QI Q)
    refine gj_goq gj_clT ok_249 [139, 148, 153, 162, 168, 185, 200] ?_
    show (0 ≤ (lg_cmp r5 (i6 0)) → gj_Goes E om0 mt_249 162 [some (.ref 81), some (.int a1), some (.int a2), some (.int a3), some (.long ((SJ 85 (gj_n a2)) - (SJ 85 (gj_n a1)))), none, some (.long ((SJ 86 (gj_n a2)) - (SJ 86 (gj_n a1)))), none, some (.long ((SJ 87 (gj_n a2)) - (SJ 87 (gj_n a1)))), none, some (.long ((SJ 85 (gj_n a3)) - (SJ 85 (gj_n a1)))), none, some (.long ((SJ 86 (gj_n a3)) - (SJ 86 (gj_n a1)))), none, some (.long ((SJ 87 (gj_n a3)) - (SJ 87 (gj_n a1)))), none, none] [] SI6 SJ6 (QI Q)) ∧ (¬ 0 ≤ (lg_cmp r5 (i6 0)) → gj_Do E om0 (gj_mt 190) [(.ref 81)] SI6 SJ6 _)
    refine ⟨fun c8 => ?_, fun c8 => ?_⟩
    · refine gj_goq gj_clT ok_249 [139, 148, 153, 162, 168, 185, 200] ?_
      show gj_Do E om0 (gj_mt 191) [(.ref 81), (.int a1)] SI6 SJ6 _
      refine gj_Do.mono (q7.1 (lgc_ge.mp c8)) (fun v_ SI8 SJ8 h_ => ?_)
      obtain ⟨r7, rfl, q9⟩ := h_
      show gj_Goes E om0 mt_249 168 [some (.ref 81), some (.int a1), some (.int a2), some (.int a3), some (.long ((SJ 85 (gj_n a2)) - (SJ 85 (gj_n a1)))), none, some (.long ((SJ 86 (gj_n a2)) - (SJ 86 (gj_n a1)))), none, some (.long ((SJ 87 (gj_n a2)) - (SJ 87 (gj_n a1)))), none, some (.long ((SJ 85 (gj_n a3)) - (SJ 85 (gj_n a1)))), none, some (.long ((SJ 86 (gj_n a3)) - (SJ 86 (gj_n a1)))), none, some (.long ((SJ 87 (gj_n a3)) - (SJ 87 (gj_n a1)))), none, none] [(.long r7), (.ref 81)] SI8 SJ8 (QI Q)
      refine gj_goq gj_clT ok_249 [139, 148, 153, 162, 168, 185, 200] ?_
      show (¬ (lg_cmp r7 (i6 0)) = 0 → gj_Goes E om0 mt_249 182 [some (.ref 81), some (.int a1), some (.int a2), some (.int a3), some (.long ((SJ 85 (gj_n a2)) - (SJ 85 (gj_n a1)))), none, some (.long ((SJ 86 (gj_n a2)) - (SJ 86 (gj_n a1)))), none, some (.long ((SJ 87 (gj_n a2)) - (SJ 87 (gj_n a1)))), none, some (.long ((SJ 85 (gj_n a3)) - (SJ 85 (gj_n a1)))), none, some (.long ((SJ 86 (gj_n a3)) - (SJ 86 (gj_n a1)))), none, some (.long ((SJ 87 (gj_n a3)) - (SJ 87 (gj_n a1)))), none, none] [] SI8 (gj_w2 SJ8 81 38 r7) (QI Q)) ∧ ((lg_cmp r7 (i6 0)) = 0 → ((i3 0) = 0 ∨ (i3 0) = 1) ∧ (QI Q (some (.int (i3 0))) SI8 (gj_w2 SJ8 81 38 r7)))
      refine ⟨fun c10 => ?_, fun c10 => ?_⟩
      · refine gj_goq gj_clT ok_249 [139, 148, 153, 162, 168, 185, 200] ?_
        show gj_Goes E om0 mt_249 185 [some (.ref 81), some (.int a1), some (.int a2), some (.int a3), some (.long ((SJ 85 (gj_n a2)) - (SJ 85 (gj_n a1)))), none, some (.long ((SJ 86 (gj_n a2)) - (SJ 86 (gj_n a1)))), none, some (.long ((SJ 87 (gj_n a2)) - (SJ 87 (gj_n a1)))), none, some (.long ((SJ 85 (gj_n a3)) - (SJ 85 (gj_n a1)))), none, some (.long ((SJ 86 (gj_n a3)) - (SJ 86 (gj_n a1)))), none, some (.long ((SJ 87 (gj_n a3)) - (SJ 87 (gj_n a1)))), none, some (.int (i3 0))] [] SI8 (gj_w2 SJ8 81 38 r7) (QI Q)
        exact gj_fh (q9.1 (fun z_ => c10 (lgc_eq.mpr z_))) (And.intro (Or.inr rfl) (And.intro (Or.inl rfl) (And.intro (Or.inl rfl) (And.intro (Or.inl rfl) (And.intro (Or.inl rfl) (And.intro (Or.inl rfl) (And.intro (Or.inl rfl) (And.intro (Or.inl rfl) (And.intro (Or.inl rfl) (And.intro (Or.inl rfl) (And.intro (Or.inl rfl) (And.intro (Or.inl rfl) (And.intro (Or.inl rfl) (And.intro (Or.inl rfl) (And.intro (Or.inl rfl) (And.intro (Or.inl rfl) (And.intro (Or.inr rfl) trivial)))))))))))))))))
      · refine ⟨(Or.inl rfl), ?_⟩
        exact ⟨_, rfl, (q9.2 (lgc_eq.mp c10))⟩
    · refine gj_Do.mono (q7.2 (fun z_ => c8 (lgc_ge.mpr z_))) (fun v_ SI10 SJ10 h_ => ?_)
      obtain ⟨rfl, q11⟩ := h_
      show gj_Goes E om0 mt_249 162 [some (.ref 81), some (.int a1), some (.int a2), some (.int a3), some (.long ((SJ 85 (gj_n a2)) - (SJ 85 (gj_n a1)))), none, some (.long ((SJ 86 (gj_n a2)) - (SJ 86 (gj_n a1)))), none, some (.long ((SJ 87 (gj_n a2)) - (SJ 87 (gj_n a1)))), none, some (.long ((SJ 85 (gj_n a3)) - (SJ 85 (gj_n a1)))), none, some (.long ((SJ 86 (gj_n a3)) - (SJ 86 (gj_n a1)))), none, some (.long ((SJ 87 (gj_n a3)) - (SJ 87 (gj_n a1)))), none, none] [] SI10 SJ10 (QI Q)
      refine gj_goq gj_clT ok_249 [139, 148, 153, 162, 168, 185, 200] ?_
      show gj_Do E om0 (gj_mt 191) [(.ref 81), (.int a1)] SI10 SJ10 _
      refine gj_Do.mono q11 (fun v_ SI12 SJ12 h_ => ?_)
      obtain ⟨r11, rfl, q12⟩ := h_
      show gj_Goes E om0 mt_249 168 [some (.ref 81), some (.int a1), some (.int a2), some (.int a3), some (.long ((SJ 85 (gj_n a2)) - (SJ 85 (gj_n a1)))), none, some (.long ((SJ 86 (gj_n a2)) - (SJ 86 (gj_n a1)))), none, some (.long ((SJ 87 (gj_n a2)) - (SJ 87 (gj_n a1)))), none, some (.long ((SJ 85 (gj_n a3)) - (SJ 85 (gj_n a1)))), none, some (.long ((SJ 86 (gj_n a3)) - (SJ 86 (gj_n a1)))), none, some (.long ((SJ 87 (gj_n a3)) - (SJ 87 (gj_n a1)))), none, none] [(.long r11), (.ref 81)] SI12 SJ12 (QI Q)
      refine gj_goq gj_clT ok_249 [139, 148, 153, 162, 168, 185, 200] ?_
      show (¬ (lg_cmp r11 (i6 0)) = 0 → gj_Goes E om0 mt_249 182 [some (.ref 81), some (.int a1), some (.int a2), some (.int a3), some (.long ((SJ 85 (gj_n a2)) - (SJ 85 (gj_n a1)))), none, some (.long ((SJ 86 (gj_n a2)) - (SJ 86 (gj_n a1)))), none, some (.long ((SJ 87 (gj_n a2)) - (SJ 87 (gj_n a1)))), none, some (.long ((SJ 85 (gj_n a3)) - (SJ 85 (gj_n a1)))), none, some (.long ((SJ 86 (gj_n a3)) - (SJ 86 (gj_n a1)))), none, some (.long ((SJ 87 (gj_n a3)) - (SJ 87 (gj_n a1)))), none, none] [] SI12 (gj_w2 SJ12 81 38 r11) (QI Q)) ∧ ((lg_cmp r11 (i6 0)) = 0 → ((i3 0) = 0 ∨ (i3 0) = 1) ∧ (QI Q (some (.int (i3 0))) SI12 (gj_w2 SJ12 81 38 r11)))
      refine ⟨fun c13 => ?_, fun c13 => ?_⟩
      · refine gj_goq gj_clT ok_249 [139, 148, 153, 162, 168, 185, 200] ?_
        show gj_Goes E om0 mt_249 185 [some (.ref 81), some (.int a1), some (.int a2), some (.int a3), some (.long ((SJ 85 (gj_n a2)) - (SJ 85 (gj_n a1)))), none, some (.long ((SJ 86 (gj_n a2)) - (SJ 86 (gj_n a1)))), none, some (.long ((SJ 87 (gj_n a2)) - (SJ 87 (gj_n a1)))), none, some (.long ((SJ 85 (gj_n a3)) - (SJ 85 (gj_n a1)))), none, some (.long ((SJ 86 (gj_n a3)) - (SJ 86 (gj_n a1)))), none, some (.long ((SJ 87 (gj_n a3)) - (SJ 87 (gj_n a1)))), none, some (.int (i3 0))] [] SI12 (gj_w2 SJ12 81 38 r11) (QI Q)
        exact gj_fh (q12.1 (fun z_ => c13 (lgc_eq.mpr z_))) (And.intro (Or.inr rfl) (And.intro (Or.inl rfl) (And.intro (Or.inl rfl) (And.intro (Or.inl rfl) (And.intro (Or.inl rfl) (And.intro (Or.inl rfl) (And.intro (Or.inl rfl) (And.intro (Or.inl rfl) (And.intro (Or.inl rfl) (And.intro (Or.inl rfl) (And.intro (Or.inl rfl) (And.intro (Or.inl rfl) (And.intro (Or.inl rfl) (And.intro (Or.inl rfl) (And.intro (Or.inl rfl) (And.intro (Or.inl rfl) (And.intro (Or.inr rfl) trivial)))))))))))))))))
      · refine ⟨(Or.inl rfl), ?_⟩
        exact ⟨_, rfl, (q12.2 (lgc_eq.mp c13))⟩
  · refine ⟨(Or.inl rfl), ?_⟩
    exact ⟨_, rfl, (q4.2 c5)⟩
set_option maxRecDepth 20000 in
theorem lp_249_185 {E : gj_E} {Q : Int32 → gj_I → gj_J → Prop} (x16 : Int32) (SI : gj_I) (SJ : gj_J) (h : ((SI 81 8) ≤ x16 → Q (i3 1) SI SJ) ∧ (¬ (SI 81 8) ≤ x16 → DoL E 191 [(.ref 81), (.int x16)] SI SJ (fun r1 SI2 SJ2 => (r1 ≤ (SJ2 81 38) → GoI E mt_249 185 [some (.ref 81), none, none, none, none, none, none, none, none, none, none, none, none, none, none, none, some (.int (x16 + (i3 1)))] SI2 SJ2 Q) ∧ (¬ r1 ≤ (SJ2 81 38) → Q (i3 0) SI2 SJ2)))) : GoI E mt_249 185 [some (.ref 81), none, none, none, none, none, none, none, none, none, none, none, none, none, none, none, some (.int x16)] SI SJ Q := by
  refine gj_goq gj_clT ok_249 [139, 148, 153, 162, 168, 185, 200] ?_
  show ((SI 81 8) ≤ x16 → gj_Goes E om0 mt_249 216 [some (.ref 81), none, none, none, none, none, none, none, none, none, none, none, none, none, none, none, some (.int x16)] [] SI SJ (QI Q)) ∧ (¬ (SI 81 8) ≤ x16 → gj_Do E om0 (gj_mt 191) [(.ref 81), (.int x16)] SI SJ _)
  refine ⟨fun c1 => ?_, fun c1 => ?_⟩
  · refine gj_goq gj_clT ok_249 [139, 148, 153, 162, 168, 185, 200] ?_
    show ((i3 1) = 0 ∨ (i3 1) = 1) ∧ (QI Q (some (.int (i3 1))) SI SJ)
    refine ⟨(Or.inr rfl), ?_⟩
    exact ⟨_, rfl, (h.1 c1)⟩
  · refine gj_Do.mono (h.2 c1) (fun v_ SI2 SJ2 h_ => ?_)
    obtain ⟨r1, rfl, q2⟩ := h_
    show gj_Goes E om0 mt_249 200 [some (.ref 81), none, none, none, none, none, none, none, none, none, none, none, none, none, none, none, some (.int x16)] [(.long r1)] SI2 SJ2 (QI Q)
    refine gj_goq gj_clT ok_249 [139, 148, 153, 162, 168, 185, 200] ?_
    show ((lg_cmp r1 (SJ2 81 38)) ≤ 0 → gj_Goes E om0 mt_249 210 [some (.ref 81), none, none, none, none, none, none, none, none, none, none, none, none, none, none, none, some (.int x16)] [] SI2 SJ2 (QI Q)) ∧ (¬ (lg_cmp r1 (SJ2 81 38)) ≤ 0 → ((i3 0) = 0 ∨ (i3 0) = 1) ∧ (QI Q (some (.int (i3 0))) SI2 SJ2))
    refine ⟨fun c3 => ?_, fun c3 => ?_⟩
    · refine gj_goq gj_clT ok_249 [139, 148, 153, 162, 168, 185, 200] ?_
      show gj_Goes E om0 mt_249 185 [some (.ref 81), none, none, none, none, none, none, none, none, none, none, none, none, none, none, none, some (.int (x16 + (i3 1)))] [] SI2 SJ2 (QI Q)
      exact (q2.1 (lgc_le.mp c3))
    · refine ⟨(Or.inl rfl), ?_⟩
      exact ⟨_, rfl, (q2.2 (fun z_ => c3 (lgc_le.mpr z_)))⟩
set_option maxRecDepth 20000 in
/-- GraspJudgeModel.isKnown -/
theorem st_250 {E : gj_E} {Q : Int32 → gj_I → gj_J → Prop} (SI : gj_I) (SJ : gj_J) (h : GoI E mt_250 2 [some (.ref 81), some (.int (i3 0))] SI SJ Q) : DoI E 250 [(.ref 81)] SI SJ Q := by
  refine gj_start (M := mt_250) ok_250 (Nat.le_of_ble_eq_true rfl) ?_
  refine gj_goq gj_clT ok_250 [2] ?_
  show gj_Goes E om0 mt_250 2 [some (.ref 81), some (.int (i3 0))] [] SI SJ (QI Q)
  exact h
set_option maxRecDepth 20000 in
theorem lp_250_2 {E : gj_E} {Q : Int32 → gj_I → gj_J → Prop} (x1 : Int32) (SI : gj_I) (SJ : gj_J) (h : ((SI 81 48) ≤ x1 → Q (i3 0) SI SJ) ∧ (¬ (SI 81 48) ≤ x1 → vp_in x1 400 ∧ ((¬ (SJ 100 (gj_n x1)) = (SJ 81 9) → GoI E mt_250 2 [some (.ref 81), some (.int (x1 + (i3 1)))] SI SJ Q) ∧ ((SJ 100 (gj_n x1)) = (SJ 81 9) → (¬ (SJ 101 (gj_n x1)) = (SJ 81 10) → GoI E mt_250 2 [some (.ref 81), some (.int (x1 + (i3 1)))] SI SJ Q) ∧ ((SJ 101 (gj_n x1)) = (SJ 81 10) → (¬ (SJ 102 (gj_n x1)) = (SJ 81 11) → GoI E mt_250 2 [some (.ref 81), some (.int (x1 + (i3 1)))] SI SJ Q) ∧ ((SJ 102 (gj_n x1)) = (SJ 81 11) → Q (i3 1) SI SJ)))))) : GoI E mt_250 2 [some (.ref 81), some (.int x1)] SI SJ Q := by
  refine gj_goq gj_clT ok_250 [2] ?_
  show ((SI 81 48) ≤ x1 → gj_Goes E om0 mt_250 60 [some (.ref 81), some (.int x1)] [] SI SJ (QI Q)) ∧ (¬ (SI 81 48) ≤ x1 → vp_in x1 400 ∧ ((¬ (lg_cmp (SJ 100 (gj_n x1)) (SJ 81 9)) = 0 → gj_Goes E om0 mt_250 54 [some (.ref 81), some (.int x1)] [] SI SJ (QI Q)) ∧ ((lg_cmp (SJ 100 (gj_n x1)) (SJ 81 9)) = 0 → vp_in x1 400 ∧ ((¬ (lg_cmp (SJ 101 (gj_n x1)) (SJ 81 10)) = 0 → gj_Goes E om0 mt_250 54 [some (.ref 81), some (.int x1)] [] SI SJ (QI Q)) ∧ ((lg_cmp (SJ 101 (gj_n x1)) (SJ 81 10)) = 0 → vp_in x1 400 ∧ ((¬ (lg_cmp (SJ 102 (gj_n x1)) (SJ 81 11)) = 0 → gj_Goes E om0 mt_250 54 [some (.ref 81), some (.int x1)] [] SI SJ (QI Q)) ∧ ((lg_cmp (SJ 102 (gj_n x1)) (SJ 81 11)) = 0 → ((i3 1) = 0 ∨ (i3 1) = 1) ∧ (QI Q (some (.int (i3 1))) SI SJ))))))))
  refine ⟨fun c1 => ?_, fun c1 => ?_⟩
  · refine gj_goq gj_clT ok_250 [2] ?_
    show ((i3 0) = 0 ∨ (i3 0) = 1) ∧ (QI Q (some (.int (i3 0))) SI SJ)
    refine ⟨(Or.inl rfl), ?_⟩
    exact ⟨_, rfl, (h.1 c1)⟩
  · have k2 := (h.2 c1).1
    refine ⟨k2, ?_⟩
    refine ⟨fun c3 => ?_, fun c3 => ?_⟩
    · refine gj_goq gj_clT ok_250 [2] ?_
      show gj_Goes E om0 mt_250 2 [some (.ref 81), some (.int (x1 + (i3 1)))] [] SI SJ (QI Q)
      exact ((h.2 c1).2.1 (fun z_ => c3 (lgc_eq.mpr z_)))
    · refine ⟨k2, ?_⟩
      refine ⟨fun c4 => ?_, fun c4 => ?_⟩
      · refine gj_goq gj_clT ok_250 [2] ?_
        show gj_Goes E om0 mt_250 2 [some (.ref 81), some (.int (x1 + (i3 1)))] [] SI SJ (QI Q)
        exact (((h.2 c1).2.2 (lgc_eq.mp c3)).1 (fun z_ => c4 (lgc_eq.mpr z_)))
      · refine ⟨k2, ?_⟩
        refine ⟨fun c5 => ?_, fun c5 => ?_⟩
        · refine gj_goq gj_clT ok_250 [2] ?_
          show gj_Goes E om0 mt_250 2 [some (.ref 81), some (.int (x1 + (i3 1)))] [] SI SJ (QI Q)
          exact ((((h.2 c1).2.2 (lgc_eq.mp c3)).2 (lgc_eq.mp c4)).1 (fun z_ => c5 (lgc_eq.mpr z_)))
        · refine ⟨(Or.inr rfl), ?_⟩
          exact ⟨_, rfl, ((((h.2 c1).2.2 (lgc_eq.mp c3)).2 (lgc_eq.mp c4)).2 (lgc_eq.mp c5))⟩
set_option maxRecDepth 20000 in
/-- GraspJudgeModel.isWeaker -/
theorem st_251 {E : gj_E} {Q : Int32 → gj_I → gj_J → Prop} (SI : gj_I) (SJ : gj_J) (h : (¬ (SI 81 48) = 0 → DoL E 158 [(.long (SJ 81 9))] SI SJ (fun r1 SI2 SJ2 => DoL E 158 [(.long (SJ2 81 10))] SI2 SJ2 (fun r3 SI4 SJ4 => DoL E 158 [(.long (SJ4 81 11))] SI4 SJ4 (fun r5 SI6 SJ6 => ((((SJ6 81 38) * (SJ6 81 44)) - ((SJ6 81 43) * ((r1 + r3) + r5))) = (i6 0) → ((SJ6 81 9) = (SJ6 81 40) → ((SJ6 81 10) = (SJ6 81 41) → ((SJ6 81 11) ≥ (SJ6 81 42) → Q (i3 0) SI6 SJ6) ∧ (¬ (SJ6 81 11) ≥ (SJ6 81 42) → Q (i3 1) SI6 SJ6)) ∧ (¬ (SJ6 81 10) = (SJ6 81 41) → ((SJ6 81 10) ≥ (SJ6 81 41) → Q (i3 0) SI6 SJ6) ∧ (¬ (SJ6 81 10) ≥ (SJ6 81 41) → Q (i3 1) SI6 SJ6))) ∧ (¬ (SJ6 81 9) = (SJ6 81 40) → ((SJ6 81 9) ≥ (SJ6 81 40) → Q (i3 0) SI6 SJ6) ∧ (¬ (SJ6 81 9) ≥ (SJ6 81 40) → Q (i3 1) SI6 SJ6))) ∧ (¬ (((SJ6 81 38) * (SJ6 81 44)) - ((SJ6 81 43) * ((r1 + r3) + r5))) = (i6 0) → ((((SJ6 81 38) * (SJ6 81 44)) - ((SJ6 81 43) * ((r1 + r3) + r5))) ≥ (i6 0) → Q (i3 0) SI6 SJ6) ∧ (¬ (((SJ6 81 38) * (SJ6 81 44)) - ((SJ6 81 43) * ((r1 + r3) + r5))) ≥ (i6 0) → Q (i3 1) SI6 SJ6)))))) ∧ ((SI 81 48) = 0 → Q (i3 1) SI SJ)) : DoI E 251 [(.ref 81)] SI SJ Q := by
  refine gj_start (M := mt_251) ok_251 (Nat.le_of_ble_eq_true rfl) ?_
  refine gj_goq gj_clT ok_251 [16, 23, 31] ?_
  show (¬ (SI 81 48) = 0 → gj_Goes E om0 mt_251 9 [some (.ref 81), none, none, none, none] [] SI SJ (QI Q)) ∧ ((SI 81 48) = 0 → ((i3 1) = 0 ∨ (i3 1) = 1) ∧ (QI Q (some (.int (i3 1))) SI SJ))
  refine ⟨fun c1 => ?_, fun c1 => ?_⟩
  · refine gj_goq gj_clT ok_251 [16, 23, 31] ?_
    show gj_Do E om0 (gj_mt 158) [(.long (SJ 81 9))] SI SJ _
    refine gj_Do.mono (h.1 c1) (fun v_ SI2 SJ2 h_ => ?_)
    obtain ⟨r1, rfl, q2⟩ := h_
    show gj_Goes E om0 mt_251 16 [some (.ref 81), none, none, none, none] [(.long r1)] SI2 SJ2 (QI Q)
    refine gj_goq gj_clT ok_251 [16, 23, 31] ?_
    show gj_Do E om0 (gj_mt 158) [(.long (SJ2 81 10))] SI2 SJ2 _
    refine gj_Do.mono q2 (fun v_ SI4 SJ4 h_ => ?_)
    obtain ⟨r3, rfl, q3⟩ := h_
    show gj_Goes E om0 mt_251 23 [some (.ref 81), none, none, none, none] [(.long r3), (.long r1)] SI4 SJ4 (QI Q)
    refine gj_goq gj_clT ok_251 [16, 23, 31] ?_
    show gj_Do E om0 (gj_mt 158) [(.long (SJ4 81 11))] SI4 SJ4 _
    refine gj_Do.mono q3 (fun v_ SI6 SJ6 h_ => ?_)
    obtain ⟨r5, rfl, q4⟩ := h_
    show gj_Goes E om0 mt_251 31 [some (.ref 81), none, none, none, none] [(.long r5), (.long (r1 + r3))] SI6 SJ6 (QI Q)
    refine gj_goq gj_clT ok_251 [16, 23, 31] ?_
    show ((lg_cmp (((SJ6 81 38) * (SJ6 81 44)) - ((SJ6 81 43) * ((r1 + r3) + r5))) (i6 0)) = 0 → gj_Goes E om0 mt_251 68 [some (.ref 81), some (.long ((r1 + r3) + r5)), none, some (.long (((SJ6 81 38) * (SJ6 81 44)) - ((SJ6 81 43) * ((r1 + r3) + r5)))), none] [] SI6 SJ6 (QI Q)) ∧ (¬ (lg_cmp (((SJ6 81 38) * (SJ6 81 44)) - ((SJ6 81 43) * ((r1 + r3) + r5))) (i6 0)) = 0 → (0 ≤ (lg_cmp (((SJ6 81 38) * (SJ6 81 44)) - ((SJ6 81 43) * ((r1 + r3) + r5))) (i6 0)) → gj_Goes E om0 mt_251 66 [some (.ref 81), some (.long ((r1 + r3) + r5)), none, some (.long (((SJ6 81 38) * (SJ6 81 44)) - ((SJ6 81 43) * ((r1 + r3) + r5)))), none] [] SI6 SJ6 (QI Q)) ∧ (¬ 0 ≤ (lg_cmp (((SJ6 81 38) * (SJ6 81 44)) - ((SJ6 81 43) * ((r1 + r3) + r5))) (i6 0)) → gj_Goes E om0 mt_251 67 [some (.ref 81), some (.long ((r1 + r3) + r5)), none, some (.long (((SJ6 81 38) * (SJ6 81 44)) - ((SJ6 81 43) * ((r1 + r3) + r5)))), none] [(.int (i3 1))] SI6 SJ6 (QI Q)))
    refine ⟨fun c5 => ?_, fun c5 => ?_⟩
    · refine gj_goq gj_clT ok_251 [16, 23, 31] ?_
      show ((lg_cmp (SJ6 81 9) (SJ6 81 40)) = 0 → gj_Goes E om0 mt_251 100 [some (.ref 81), some (.long ((r1 + r3) + r5)), none, some (.long (((SJ6 81 38) * (SJ6 81 44)) - ((SJ6 81 43) * ((r1 + r3) + r5)))), none] [] SI6 SJ6 (QI Q)) ∧ (¬ (lg_cmp (SJ6 81 9) (SJ6 81 40)) = 0 → (0 ≤ (lg_cmp (SJ6 81 9) (SJ6 81 40)) → gj_Goes E om0 mt_251 96 [some (.ref 81), some (.long ((r1 + r3) + r5)), none, some (.long (((SJ6 81 38) * (SJ6 81 44)) - ((SJ6 81 43) * ((r1 + r3) + r5)))), none] [] SI6 SJ6 (QI Q)) ∧ (¬ 0 ≤ (lg_cmp (SJ6 81 9) (SJ6 81 40)) → gj_Goes E om0 mt_251 149 [some (.ref 81), some (.long ((r1 + r3) + r5)), none, some (.long (((SJ6 81 38) * (SJ6 81 44)) - ((SJ6 81 43) * ((r1 + r3) + r5)))), none] [(.int (i3 1))] SI6 SJ6 (QI Q)))
      refine ⟨fun c6 => ?_, fun c6 => ?_⟩
      · refine gj_goq gj_clT ok_251 [16, 23, 31] ?_
        show ((lg_cmp (SJ6 81 10) (SJ6 81 41)) = 0 → gj_Goes E om0 mt_251 132 [some (.ref 81), some (.long ((r1 + r3) + r5)), none, some (.long (((SJ6 81 38) * (SJ6 81 44)) - ((SJ6 81 43) * ((r1 + r3) + r5)))), none] [] SI6 SJ6 (QI Q)) ∧ (¬ (lg_cmp (SJ6 81 10) (SJ6 81 41)) = 0 → (0 ≤ (lg_cmp (SJ6 81 10) (SJ6 81 41)) → gj_Goes E om0 mt_251 128 [some (.ref 81), some (.long ((r1 + r3) + r5)), none, some (.long (((SJ6 81 38) * (SJ6 81 44)) - ((SJ6 81 43) * ((r1 + r3) + r5)))), none] [] SI6 SJ6 (QI Q)) ∧ (¬ 0 ≤ (lg_cmp (SJ6 81 10) (SJ6 81 41)) → gj_Goes E om0 mt_251 149 [some (.ref 81), some (.long ((r1 + r3) + r5)), none, some (.long (((SJ6 81 38) * (SJ6 81 44)) - ((SJ6 81 43) * ((r1 + r3) + r5)))), none] [(.int (i3 1))] SI6 SJ6 (QI Q)))
        refine ⟨fun c7 => ?_, fun c7 => ?_⟩
        · refine gj_goq gj_clT ok_251 [16, 23, 31] ?_
          show (0 ≤ (lg_cmp (SJ6 81 11) (SJ6 81 42)) → gj_Goes E om0 mt_251 148 [some (.ref 81), some (.long ((r1 + r3) + r5)), none, some (.long (((SJ6 81 38) * (SJ6 81 44)) - ((SJ6 81 43) * ((r1 + r3) + r5)))), none] [] SI6 SJ6 (QI Q)) ∧ (¬ 0 ≤ (lg_cmp (SJ6 81 11) (SJ6 81 42)) → gj_Goes E om0 mt_251 149 [some (.ref 81), some (.long ((r1 + r3) + r5)), none, some (.long (((SJ6 81 38) * (SJ6 81 44)) - ((SJ6 81 43) * ((r1 + r3) + r5)))), none] [(.int (i3 1))] SI6 SJ6 (QI Q))
          refine ⟨fun c8 => ?_, fun c8 => ?_⟩
          · refine gj_goq gj_clT ok_251 [16, 23, 31] ?_
            show ((i3 0) = 0 ∨ (i3 0) = 1) ∧ (QI Q (some (.int (i3 0))) SI6 SJ6)
            refine ⟨(Or.inl rfl), ?_⟩
            exact ⟨_, rfl, ((((q4.1 (lgc_eq.mp c5)).1 (lgc_eq.mp c6)).1 (lgc_eq.mp c7)).1 (lgc_ge.mp c8))⟩
          · refine gj_goq gj_clT ok_251 [16, 23, 31] ?_
            show ((i3 1) = 0 ∨ (i3 1) = 1) ∧ (QI Q (some (.int (i3 1))) SI6 SJ6)
            refine ⟨(Or.inr rfl), ?_⟩
            exact ⟨_, rfl, ((((q4.1 (lgc_eq.mp c5)).1 (lgc_eq.mp c6)).1 (lgc_eq.mp c7)).2 (fun z_ => c8 (lgc_ge.mpr z_)))⟩
        · refine ⟨fun c9 => ?_, fun c9 => ?_⟩
          · refine gj_goq gj_clT ok_251 [16, 23, 31] ?_
            show gj_Goes E om0 mt_251 149 [some (.ref 81), some (.long ((r1 + r3) + r5)), none, some (.long (((SJ6 81 38) * (SJ6 81 44)) - ((SJ6 81 43) * ((r1 + r3) + r5)))), none] [(.int (i3 0))] SI6 SJ6 (QI Q)
            refine gj_goq gj_clT ok_251 [16, 23, 31] ?_
            show ((i3 0) = 0 ∨ (i3 0) = 1) ∧ (QI Q (some (.int (i3 0))) SI6 SJ6)
            refine ⟨(Or.inl rfl), ?_⟩
            exact ⟨_, rfl, ((((q4.1 (lgc_eq.mp c5)).1 (lgc_eq.mp c6)).2 (fun z_ => c7 (lgc_eq.mpr z_))).1 (lgc_ge.mp c9))⟩
          · refine gj_goq gj_clT ok_251 [16, 23, 31] ?_
            show ((i3 1) = 0 ∨ (i3 1) = 1) ∧ (QI Q (some (.int (i3 1))) SI6 SJ6)
            refine ⟨(Or.inr rfl), ?_⟩
            exact ⟨_, rfl, ((((q4.1 (lgc_eq.mp c5)).1 (lgc_eq.mp c6)).2 (fun z_ => c7 (lgc_eq.mpr z_))).2 (fun z_ => c9 (lgc_ge.mpr z_)))⟩
      · refine ⟨fun c10 => ?_, fun c10 => ?_⟩
        · refine gj_goq gj_clT ok_251 [16, 23, 31] ?_
          show gj_Goes E om0 mt_251 149 [some (.ref 81), some (.long ((r1 + r3) + r5)), none, some (.long (((SJ6 81 38) * (SJ6 81 44)) - ((SJ6 81 43) * ((r1 + r3) + r5)))), none] [(.int (i3 0))] SI6 SJ6 (QI Q)
          refine gj_goq gj_clT ok_251 [16, 23, 31] ?_
          show ((i3 0) = 0 ∨ (i3 0) = 1) ∧ (QI Q (some (.int (i3 0))) SI6 SJ6)
          refine ⟨(Or.inl rfl), ?_⟩
          exact ⟨_, rfl, (((q4.1 (lgc_eq.mp c5)).2 (fun z_ => c6 (lgc_eq.mpr z_))).1 (lgc_ge.mp c10))⟩
        · refine gj_goq gj_clT ok_251 [16, 23, 31] ?_
          show ((i3 1) = 0 ∨ (i3 1) = 1) ∧ (QI Q (some (.int (i3 1))) SI6 SJ6)
          refine ⟨(Or.inr rfl), ?_⟩
          exact ⟨_, rfl, (((q4.1 (lgc_eq.mp c5)).2 (fun z_ => c6 (lgc_eq.mpr z_))).2 (fun z_ => c10 (lgc_ge.mpr z_)))⟩
    · refine ⟨fun c11 => ?_, fun c11 => ?_⟩
      · refine gj_goq gj_clT ok_251 [16, 23, 31] ?_
        show ((i3 0) = 0 ∨ (i3 0) = 1) ∧ (QI Q (some (.int (i3 0))) SI6 SJ6)
        refine ⟨(Or.inl rfl), ?_⟩
        exact ⟨_, rfl, ((q4.2 (fun z_ => c5 (lgc_eq.mpr z_))).1 (lgc_ge.mp c11))⟩
      · refine gj_goq gj_clT ok_251 [16, 23, 31] ?_
        show ((i3 1) = 0 ∨ (i3 1) = 1) ∧ (QI Q (some (.int (i3 1))) SI6 SJ6)
        refine ⟨(Or.inr rfl), ?_⟩
        exact ⟨_, rfl, ((q4.2 (fun z_ => c5 (lgc_eq.mpr z_))).2 (fun z_ => c11 (lgc_ge.mpr z_)))⟩
  · refine ⟨(Or.inr rfl), ?_⟩
    exact ⟨_, rfl, (h.2 c1)⟩
set_option maxRecDepth 20000 in
/-- GraspJudgeModel.takesSide -/
theorem st_252 {E : gj_E} {Q : gj_I → gj_J → Prop} (SI : gj_I) (SJ : gj_J) (h : DoI E 251 [(.ref 81)] SI SJ (fun r1 SI2 SJ2 => (r1 = 0 → vp_in (SI2 81 48) 400 ∧ (Q (gj_u2 SI2 81 48 ((SI2 81 48) + (i3 1))) (gj_w2 (gj_w2 (gj_w2 SJ2 100 (gj_n (SI2 81 48)) (SJ2 81 9)) 101 (gj_n (SI2 81 48)) (SJ2 81 10)) 102 (gj_n (SI2 81 48)) (SJ2 81 11)))) ∧ (¬ r1 = 0 → DoL E 158 [(.long (SJ2 81 9))] SI2 SJ2 (fun r3 SI4 SJ4 => DoL E 158 [(.long (SJ4 81 10))] SI4 SJ4 (fun r5 SI6 SJ6 => DoL E 158 [(.long (SJ6 81 11))] SI6 SJ6 (fun r7 SI8 SJ8 => DoL E 161 [(.long (SJ8 81 38)), (.long ((r3 + r5) + r7))] SI8 SJ8 (fun r9 SI10 SJ10 => ¬ r9 = 0 ∧ (vp_in (SI10 81 48) 400 ∧ (Q (gj_u2 SI10 81 48 ((SI10 81 48) + (i3 1))) (gj_w2 (gj_w2 (gj_w2 (gj_w2 (gj_w2 (gj_w2 (gj_w2 (gj_w2 (gj_w2 SJ10 81 43 ((SJ10 81 38) / r9)) 81 44 (((r3 + r5) + r7) / r9)) 81 40 (SJ10 81 9)) 81 41 (SJ10 81 10)) 81 42 (SJ10 81 11)) 81 39 (SJ10 81 38)) 100 (gj_n (SI10 81 48)) (SJ10 81 9)) 101 (gj_n (SI10 81 48)) (SJ10 81 10)) 102 (gj_n (SI10 81 48)) (SJ10 81 11))))))))))) : DoV E 252 [(.ref 81)] SI SJ Q := by
  refine gj_start (M := mt_252) ok_252 (Nat.le_of_ble_eq_true rfl) ?_
  refine gj_goq gj_clT ok_252 [4, 14, 21, 29, 39] ?_
  show gj_Do E om0 (gj_mt 251) [(.ref 81)] SI SJ _
  refine gj_Do.mono h (fun v_ SI2 SJ2 h_ => ?_)
  obtain ⟨r1, rfl, q1⟩ := h_
  show gj_Goes E om0 mt_252 4 [some (.ref 81), none, none, none, none] [(.int r1)] SI2 SJ2 (QV Q)
  refine gj_goq gj_clT ok_252 [4, 14, 21, 29, 39] ?_
  show (r1 = 0 → gj_Goes E om0 mt_252 89 [some (.ref 81), none, none, none, none] [] SI2 SJ2 (QV Q)) ∧ (¬ r1 = 0 → gj_Do E om0 (gj_mt 158) [(.long (SJ2 81 9))] SI2 SJ2 _)
  refine ⟨fun c2 => ?_, fun c2 => ?_⟩
  · refine gj_goq gj_clT ok_252 [4, 14, 21, 29, 39] ?_
    show vp_in (SI2 81 48) 400 ∧ (vp_in (SI2 81 48) 400 ∧ (vp_in (SI2 81 48) 400 ∧ (QV Q none (gj_u2 SI2 81 48 ((SI2 81 48) + (i3 1))) (gj_w2 (gj_w2 (gj_w2 SJ2 100 (gj_n (SI2 81 48)) (SJ2 81 9)) 101 (gj_n (SI2 81 48)) (SJ2 81 10)) 102 (gj_n (SI2 81 48)) (SJ2 81 11)))))
    have k3 := (q1.1 c2).1
    refine ⟨k3, ?_⟩
    refine ⟨k3, ?_⟩
    refine ⟨k3, ?_⟩
    exact ⟨rfl, (q1.1 c2).2⟩
  · refine gj_Do.mono (q1.2 c2) (fun v_ SI4 SJ4 h_ => ?_)
    obtain ⟨r3, rfl, q4⟩ := h_
    show gj_Goes E om0 mt_252 14 [some (.ref 81), none, none, none, none] [(.long r3)] SI4 SJ4 (QV Q)
    refine gj_goq gj_clT ok_252 [4, 14, 21, 29, 39] ?_
    show gj_Do E om0 (gj_mt 158) [(.long (SJ4 81 10))] SI4 SJ4 _
    refine gj_Do.mono q4 (fun v_ SI6 SJ6 h_ => ?_)
    obtain ⟨r5, rfl, q5⟩ := h_
    show gj_Goes E om0 mt_252 21 [some (.ref 81), none, none, none, none] [(.long r5), (.long r3)] SI6 SJ6 (QV Q)
    refine gj_goq gj_clT ok_252 [4, 14, 21, 29, 39] ?_
    show gj_Do E om0 (gj_mt 158) [(.long (SJ6 81 11))] SI6 SJ6 _
    refine gj_Do.mono q5 (fun v_ SI8 SJ8 h_ => ?_)
    obtain ⟨r7, rfl, q6⟩ := h_
    show gj_Goes E om0 mt_252 29 [some (.ref 81), none, none, none, none] [(.long r7), (.long (r3 + r5))] SI8 SJ8 (QV Q)
    refine gj_goq gj_clT ok_252 [4, 14, 21, 29, 39] ?_
    show gj_Do E om0 (gj_mt 161) [(.long (SJ8 81 38)), (.long ((r3 + r5) + r7))] SI8 SJ8 _
    refine gj_Do.mono q6 (fun v_ SI10 SJ10 h_ => ?_)
    obtain ⟨r9, rfl, q7⟩ := h_
    show gj_Goes E om0 mt_252 39 [some (.ref 81), some (.long ((r3 + r5) + r7)), none, none, none] [(.long r9)] SI10 SJ10 (QV Q)
    refine gj_goq gj_clT ok_252 [4, 14, 21, 29, 39] ?_
    show ¬ r9 = 0 ∧ (¬ r9 = 0 ∧ (vp_in (SI10 81 48) 400 ∧ (vp_in (SI10 81 48) 400 ∧ (vp_in (SI10 81 48) 400 ∧ (QV Q none (gj_u2 SI10 81 48 ((SI10 81 48) + (i3 1))) (gj_w2 (gj_w2 (gj_w2 (gj_w2 (gj_w2 (gj_w2 (gj_w2 (gj_w2 (gj_w2 SJ10 81 43 ((SJ10 81 38) / r9)) 81 44 (((r3 + r5) + r7) / r9)) 81 40 (SJ10 81 9)) 81 41 (SJ10 81 10)) 81 42 (SJ10 81 11)) 81 39 (SJ10 81 38)) 100 (gj_n (SI10 81 48)) (SJ10 81 9)) 101 (gj_n (SI10 81 48)) (SJ10 81 10)) 102 (gj_n (SI10 81 48)) (SJ10 81 11)))))))
    have k8 := q7.1
    refine ⟨k8, ?_⟩
    refine ⟨k8, ?_⟩
    have k9 := q7.2.1
    refine ⟨k9, ?_⟩
    refine ⟨k9, ?_⟩
    refine ⟨k9, ?_⟩
    exact ⟨rfl, q7.2.2⟩
set_option maxRecDepth 20000 in
/-- GraspJudgeModel.findsSides -/
theorem st_253 {E : gj_E} {Q : gj_I → gj_J → Prop} (SI : gj_I) (SJ : gj_J) (h : GoV E mt_253 7 [some (.ref 81), some (.int (i3 0)), none, none] (gj_u2 SI 81 48 (i3 0)) SJ Q) : DoV E 253 [(.ref 81)] SI SJ Q := by
  refine gj_start (M := mt_253) ok_253 (Nat.le_of_ble_eq_true rfl) ?_
  refine gj_goq gj_clT ok_253 [7, 19, 31, 46, 53, 60] ?_
  show gj_Goes E om0 mt_253 7 [some (.ref 81), some (.int (i3 0)), none, none] [] (gj_u2 SI 81 48 (i3 0)) SJ (QV Q)
  exact h
set_option maxRecDepth 20000 in
theorem lp_253_7 {E : gj_E} {Q : gj_I → gj_J → Prop} (x1 : Int32) (SI : gj_I) (SJ : gj_J) (h : ((SI 81 8) ≤ x1 → Q SI SJ) ∧ (¬ (SI 81 8) ≤ x1 → GoV E mt_253 19 [some (.ref 81), some (.int x1), some (.int (x1 + (i3 1))), none] SI SJ Q)) : GoV E mt_253 7 [some (.ref 81), some (.int x1), none, none] SI SJ Q := by
  refine gj_goq gj_clT ok_253 [7, 19, 31, 46, 53, 60] ?_
  show ((SI 81 8) ≤ x1 → gj_Goes E om0 mt_253 78 [some (.ref 81), some (.int x1), none, none] [] SI SJ (QV Q)) ∧ (¬ (SI 81 8) ≤ x1 → gj_Goes E om0 mt_253 19 [some (.ref 81), some (.int x1), some (.int (x1 + (i3 1))), none] [] SI SJ (QV Q))
  refine ⟨fun c1 => ?_, fun c1 => ?_⟩
  · refine gj_goq gj_clT ok_253 [7, 19, 31, 46, 53, 60] ?_
    show QV Q none SI SJ
    exact ⟨rfl, (h.1 c1)⟩
  · exact (h.2 c1)
set_option maxRecDepth 20000 in
theorem lp_253_19 {E : gj_E} {Q : gj_I → gj_J → Prop} (x1 : Int32) (x2 : Int32) (SI : gj_I) (SJ : gj_J) (h : ((SI 81 8) ≤ x2 → GoV E mt_253 7 [some (.ref 81), some (.int (x1 + (i3 1))), none, none] SI SJ Q) ∧ (¬ (SI 81 8) ≤ x2 → GoV E mt_253 31 [some (.ref 81), some (.int x1), some (.int x2), some (.int (x2 + (i3 1)))] SI SJ Q)) : GoV E mt_253 19 [some (.ref 81), some (.int x1), some (.int x2), none] SI SJ Q := by
  refine gj_goq gj_clT ok_253 [7, 19, 31, 46, 53, 60] ?_
  show ((SI 81 8) ≤ x2 → gj_Goes E om0 mt_253 72 [some (.ref 81), some (.int x1), some (.int x2), none] [] SI SJ (QV Q)) ∧ (¬ (SI 81 8) ≤ x2 → gj_Goes E om0 mt_253 31 [some (.ref 81), some (.int x1), some (.int x2), some (.int (x2 + (i3 1)))] [] SI SJ (QV Q))
  refine ⟨fun c1 => ?_, fun c1 => ?_⟩
  · refine gj_goq gj_clT ok_253 [7, 19, 31, 46, 53, 60] ?_
    show gj_Goes E om0 mt_253 7 [some (.ref 81), some (.int (x1 + (i3 1))), some (.int x2), none] [] SI SJ (QV Q)
    exact gj_fh (h.1 c1) (And.intro (Or.inr rfl) (And.intro (Or.inr rfl) (And.intro (Or.inl rfl) (And.intro (Or.inl rfl) trivial))))
  · exact (h.2 c1)
set_option maxRecDepth 20000 in
theorem lp_253_31 {E : gj_E} {Q : gj_I → gj_J → Prop} (x1 : Int32) (x2 : Int32) (x3 : Int32) (SI : gj_I) (SJ : gj_J) (h : ((SI 81 8) ≤ x3 → GoV E mt_253 19 [some (.ref 81), some (.int x1), some (.int (x2 + (i3 1))), none] SI SJ Q) ∧ (¬ (SI 81 8) ≤ x3 → DoI E 249 [(.ref 81), (.int x1), (.int x2), (.int x3)] SI SJ (fun r1 SI2 SJ2 => (r1 = 0 → GoV E mt_253 31 [some (.ref 81), some (.int x1), some (.int x2), some (.int (x3 + (i3 1)))] SI2 SJ2 Q) ∧ (¬ r1 = 0 → DoI E 250 [(.ref 81)] SI2 SJ2 (fun r3 SI4 SJ4 => (¬ r3 = 0 → GoV E mt_253 31 [some (.ref 81), some (.int x1), some (.int x2), some (.int (x3 + (i3 1)))] SI4 SJ4 Q) ∧ (r3 = 0 → DoV E 252 [(.ref 81)] SI4 SJ4 (fun SI6 SJ6 => GoV E mt_253 31 [some (.ref 81), some (.int x1), some (.int x2), some (.int (x3 + (i3 1)))] SI6 SJ6 Q))))))) : GoV E mt_253 31 [some (.ref 81), some (.int x1), some (.int x2), some (.int x3)] SI SJ Q := by
  refine gj_goq gj_clT ok_253 [7, 19, 31, 46, 53, 60] ?_
  show ((SI 81 8) ≤ x3 → gj_Goes E om0 mt_253 66 [some (.ref 81), some (.int x1), some (.int x2), some (.int x3)] [] SI SJ (QV Q)) ∧ (¬ (SI 81 8) ≤ x3 → gj_Do E om0 (gj_mt 249) [(.ref 81), (.int x1), (.int x2), (.int x3)] SI SJ _)
  refine ⟨fun c1 => ?_, fun c1 => ?_⟩
  · refine gj_goq gj_clT ok_253 [7, 19, 31, 46, 53, 60] ?_
    show gj_Goes E om0 mt_253 19 [some (.ref 81), some (.int x1), some (.int (x2 + (i3 1))), some (.int x3)] [] SI SJ (QV Q)
    exact gj_fh (h.1 c1) (And.intro (Or.inr rfl) (And.intro (Or.inr rfl) (And.intro (Or.inr rfl) (And.intro (Or.inl rfl) trivial))))
  · refine gj_Do.mono (h.2 c1) (fun v_ SI2 SJ2 h_ => ?_)
    obtain ⟨r1, rfl, q2⟩ := h_
    show gj_Goes E om0 mt_253 46 [some (.ref 81), some (.int x1), some (.int x2), some (.int x3)] [(.int r1)] SI2 SJ2 (QV Q)
    refine gj_goq gj_clT ok_253 [7, 19, 31, 46, 53, 60] ?_
    show (r1 = 0 → gj_Goes E om0 mt_253 60 [some (.ref 81), some (.int x1), some (.int x2), some (.int x3)] [] SI2 SJ2 (QV Q)) ∧ (¬ r1 = 0 → gj_Do E om0 (gj_mt 250) [(.ref 81)] SI2 SJ2 _)
    refine ⟨fun c3 => ?_, fun c3 => ?_⟩
    · refine gj_goq gj_clT ok_253 [7, 19, 31, 46, 53, 60] ?_
      show gj_Goes E om0 mt_253 31 [some (.ref 81), some (.int x1), some (.int x2), some (.int (x3 + (i3 1)))] [] SI2 SJ2 (QV Q)
      exact (q2.1 c3)
    · refine gj_Do.mono (q2.2 c3) (fun v_ SI4 SJ4 h_ => ?_)
      obtain ⟨r3, rfl, q4⟩ := h_
      show gj_Goes E om0 mt_253 53 [some (.ref 81), some (.int x1), some (.int x2), some (.int x3)] [(.int r3)] SI4 SJ4 (QV Q)
      refine gj_goq gj_clT ok_253 [7, 19, 31, 46, 53, 60] ?_
      show (¬ r3 = 0 → gj_Goes E om0 mt_253 60 [some (.ref 81), some (.int x1), some (.int x2), some (.int x3)] [] SI4 SJ4 (QV Q)) ∧ (r3 = 0 → gj_Do E om0 (gj_mt 252) [(.ref 81)] SI4 SJ4 _)
      refine ⟨fun c5 => ?_, fun c5 => ?_⟩
      · refine gj_goq gj_clT ok_253 [7, 19, 31, 46, 53, 60] ?_
        show gj_Goes E om0 mt_253 31 [some (.ref 81), some (.int x1), some (.int x2), some (.int (x3 + (i3 1)))] [] SI4 SJ4 (QV Q)
        exact (q4.1 c5)
      · refine gj_Do.mono (q4.2 c5) (fun v_ SI6 SJ6 h_ => ?_)
        obtain ⟨rfl, q6⟩ := h_
        show gj_Goes E om0 mt_253 60 [some (.ref 81), some (.int x1), some (.int x2), some (.int x3)] [] SI6 SJ6 (QV Q)
        refine gj_goq gj_clT ok_253 [7, 19, 31, 46, 53, 60] ?_
        show gj_Goes E om0 mt_253 31 [some (.ref 81), some (.int x1), some (.int x2), some (.int (x3 + (i3 1)))] [] SI6 SJ6 (QV Q)
        exact q6
set_option maxRecDepth 20000 in
/-- GraspJudgeModel.weak -/
theorem st_254 {E : gj_E} {Q : Int64 → gj_I → gj_J → Prop} (a1 : Int32) (SI : gj_I) (SJ : gj_J) (h : DoI E 155 [(.long (a1).toInt64), (.long (i6 0)), (.long (i6 6))] SI SJ (fun r1 SI2 SJ2 => (r1 = 0 → Q (i6 (-9000000000000000000)) SI2 SJ2) ∧ (¬ r1 = 0 → DoI E 195 [(.ref 81)] SI2 SJ2 (fun r3 SI4 SJ4 => (¬ r3 = 0 → DoV E 253 [(.ref 81)] SI4 SJ4 (fun SI6 SJ6 => (a1 = (i3 0) → Q (SJ6 81 43) SI6 SJ6) ∧ (a1 = (i3 1) → Q (SJ6 81 44) SI6 SJ6) ∧ (a1 = (i3 2) → Q (SJ6 81 40) SI6 SJ6) ∧ (a1 = (i3 3) → Q (SJ6 81 41) SI6 SJ6) ∧ (a1 = (i3 4) → Q (SJ6 81 42) SI6 SJ6) ∧ (a1 = (i3 5) → Q (SJ6 81 39) SI6 SJ6) ∧ (a1.toInt < 0 ∨ 5 < a1.toInt → Q (SI6 81 48).toInt64 SI6 SJ6))) ∧ (r3 = 0 → Q (i6 (-9000000000000000000)) SI4 SJ4))))) : DoL E 254 [(.ref 81), (.int a1)] SI SJ Q := by
  refine gj_start (M := mt_254) ok_254 (Nat.le_of_ble_eq_true rfl) ?_
  refine gj_goq gj_clT ok_254 [9, 16, 27] ?_
  show gj_Do E om0 (gj_mt 155) [(.long (a1).toInt64), (.long (i6 0)), (.long (i6 6))] SI SJ _
  refine gj_Do.mono h (fun v_ SI2 SJ2 h_ => ?_)
  obtain ⟨r1, rfl, q1⟩ := h_
  show gj_Goes E om0 mt_254 9 [some (.ref 81), some (.int a1)] [(.int r1)] SI2 SJ2 (QL Q)
  refine gj_goq gj_clT ok_254 [9, 16, 27] ?_
  show (r1 = 0 → gj_Goes E om0 mt_254 19 [some (.ref 81), some (.int a1)] [] SI2 SJ2 (QL Q)) ∧ (¬ r1 = 0 → gj_Do E om0 (gj_mt 195) [(.ref 81)] SI2 SJ2 _)
  refine ⟨fun c2 => ?_, fun c2 => ?_⟩
  · refine gj_goq gj_clT ok_254 [9, 16, 27] ?_
    show QL Q (some (.long (i6 (-9000000000000000000)))) SI2 SJ2
    exact ⟨_, rfl, (q1.1 c2)⟩
  · refine gj_Do.mono (q1.2 c2) (fun v_ SI4 SJ4 h_ => ?_)
    obtain ⟨r3, rfl, q3⟩ := h_
    show gj_Goes E om0 mt_254 16 [some (.ref 81), some (.int a1)] [(.int r3)] SI4 SJ4 (QL Q)
    refine gj_goq gj_clT ok_254 [9, 16, 27] ?_
    show (¬ r3 = 0 → gj_Goes E om0 mt_254 23 [some (.ref 81), some (.int a1)] [] SI4 SJ4 (QL Q)) ∧ (r3 = 0 → QL Q (some (.long (i6 (-9000000000000000000)))) SI4 SJ4)
    refine ⟨fun c4 => ?_, fun c4 => ?_⟩
    · refine gj_goq gj_clT ok_254 [9, 16, 27] ?_
      show gj_Do E om0 (gj_mt 253) [(.ref 81)] SI4 SJ4 _
      refine gj_Do.mono (q3.1 c4) (fun v_ SI6 SJ6 h_ => ?_)
      obtain ⟨rfl, q5⟩ := h_
      show gj_Goes E om0 mt_254 27 [some (.ref 81), some (.int a1)] [] SI6 SJ6 (QL Q)
      refine gj_goq gj_clT ok_254 [9, 16, 27] ?_
      show ((a1 = Int32.ofInt (0) → gj_Goes E om0 mt_254 68 [some (.ref 81), some (.int a1)] [] SI6 SJ6 (QL Q)) ∧ (a1 = Int32.ofInt (1) → gj_Goes E om0 mt_254 73 [some (.ref 81), some (.int a1)] [] SI6 SJ6 (QL Q)) ∧ (a1 = Int32.ofInt (2) → gj_Goes E om0 mt_254 78 [some (.ref 81), some (.int a1)] [] SI6 SJ6 (QL Q)) ∧ (a1 = Int32.ofInt (3) → gj_Goes E om0 mt_254 83 [some (.ref 81), some (.int a1)] [] SI6 SJ6 (QL Q)) ∧ (a1 = Int32.ofInt (4) → gj_Goes E om0 mt_254 88 [some (.ref 81), some (.int a1)] [] SI6 SJ6 (QL Q)) ∧ (a1 = Int32.ofInt (5) → gj_Goes E om0 mt_254 93 [some (.ref 81), some (.int a1)] [] SI6 SJ6 (QL Q)) ∧ True) ∧ (a1.toInt < 0 ∨ 5 < a1.toInt → gj_Goes E om0 mt_254 98 [some (.ref 81), some (.int a1)] [] SI6 SJ6 (QL Q))
      refine ⟨⟨fun c6 => ?_, ⟨fun c6 => ?_, ⟨fun c6 => ?_, ⟨fun c6 => ?_, ⟨fun c6 => ?_, ⟨fun c6 => ?_, trivial⟩⟩⟩⟩⟩⟩, fun c6 => ?_⟩
      · refine gj_goq gj_clT ok_254 [9, 16, 27] ?_
        show QL Q (some (.long (SJ6 81 43))) SI6 SJ6
        exact ⟨_, rfl, (q5.1 c6)⟩
      · refine gj_goq gj_clT ok_254 [9, 16, 27] ?_
        show QL Q (some (.long (SJ6 81 44))) SI6 SJ6
        exact ⟨_, rfl, (q5.2.1 c6)⟩
      · refine gj_goq gj_clT ok_254 [9, 16, 27] ?_
        show QL Q (some (.long (SJ6 81 40))) SI6 SJ6
        exact ⟨_, rfl, (q5.2.2.1 c6)⟩
      · refine gj_goq gj_clT ok_254 [9, 16, 27] ?_
        show QL Q (some (.long (SJ6 81 41))) SI6 SJ6
        exact ⟨_, rfl, (q5.2.2.2.1 c6)⟩
      · refine gj_goq gj_clT ok_254 [9, 16, 27] ?_
        show QL Q (some (.long (SJ6 81 42))) SI6 SJ6
        exact ⟨_, rfl, (q5.2.2.2.2.1 c6)⟩
      · refine gj_goq gj_clT ok_254 [9, 16, 27] ?_
        show QL Q (some (.long (SJ6 81 39))) SI6 SJ6
        exact ⟨_, rfl, (q5.2.2.2.2.2.1 c6)⟩
      · refine gj_goq gj_clT ok_254 [9, 16, 27] ?_
        show QL Q (some (.long (SI6 81 48).toInt64)) SI6 SJ6
        exact ⟨_, rfl, (q5.2.2.2.2.2.2 c6)⟩
    · exact ⟨_, rfl, (q3.2 c4)⟩
set_option maxRecDepth 20000 in
/-- GraspJudgeModel.proofSet -/
theorem st_255 {E : gj_E} {Q : Int32 → gj_I → gj_J → Prop} (SI : gj_I) (SJ : gj_J) (h : GoI E mt_255 2 [some (.ref 81), some (.int (i3 4)), none] SI SJ Q) : DoI E 255 [(.ref 81)] SI SJ Q := by
  refine gj_start (M := mt_255) ok_255 (Nat.le_of_ble_eq_true rfl) ?_
  refine gj_goq gj_clT ok_255 [2, 12, 17, 24, 33] ?_
  show gj_Goes E om0 mt_255 2 [some (.ref 81), some (.int (i3 4)), none] [] SI SJ (QI Q)
  exact h
set_option maxRecDepth 20000 in
theorem lp_255_2 {E : gj_E} {Q : Int32 → gj_I → gj_J → Prop} (x1 : Int32) (SI : gj_I) (SJ : gj_J) (h : ((SI 81 8) < x1 → Q (i3 0) SI SJ) ∧ (¬ (SI 81 8) < x1 → GoI E mt_255 12 [some (.ref 81), some (.int x1), some (.int (i3 0))] SI SJ Q)) : GoI E mt_255 2 [some (.ref 81), some (.int x1), none] SI SJ Q := by
  refine gj_goq gj_clT ok_255 [2, 12, 17, 24, 33] ?_
  show ((SI 81 8) < x1 → gj_Goes E om0 mt_255 50 [some (.ref 81), some (.int x1), none] [] SI SJ (QI Q)) ∧ (¬ (SI 81 8) < x1 → gj_Goes E om0 mt_255 12 [some (.ref 81), some (.int x1), some (.int (i3 0))] [] SI SJ (QI Q))
  refine ⟨fun c1 => ?_, fun c1 => ?_⟩
  · refine gj_goq gj_clT ok_255 [2, 12, 17, 24, 33] ?_
    show QI Q (some (.int (i3 0))) SI SJ
    exact ⟨_, rfl, (h.1 c1)⟩
  · exact (h.2 c1)
set_option maxRecDepth 20000 in
theorem lp_255_12 {E : gj_E} {Q : Int32 → gj_I → gj_J → Prop} (x1 : Int32) (x2 : Int32) (SI : gj_I) (SJ : gj_J) (h : DoI E 185 [(.ref 81)] SI SJ (fun r1 SI2 SJ2 => (r1 < x2 → GoI E mt_255 2 [some (.ref 81), some (.int (x1 + (i3 1))), none] SI2 SJ2 Q) ∧ (¬ r1 < x2 → DoI E 160 [(.int x2)] SI2 SJ2 (fun r3 SI4 SJ4 => (¬ r3 = x1 → GoI E mt_255 12 [some (.ref 81), some (.int x1), some (.int (x2 + (i3 1)))] SI4 SJ4 Q) ∧ (r3 = x1 → DoI E 194 [(.ref 81), (.int x2)] SI4 SJ4 (fun r5 SI6 SJ6 => (r5 = 0 → GoI E mt_255 12 [some (.ref 81), some (.int x1), some (.int (x2 + (i3 1)))] SI6 SJ6 Q) ∧ (¬ r5 = 0 → Q x2 SI6 SJ6))))))) : GoI E mt_255 12 [some (.ref 81), some (.int x1), some (.int x2)] SI SJ Q := by
  refine gj_goq gj_clT ok_255 [2, 12, 17, 24, 33] ?_
  show gj_Do E om0 (gj_mt 185) [(.ref 81)] SI SJ _
  refine gj_Do.mono h (fun v_ SI2 SJ2 h_ => ?_)
  obtain ⟨r1, rfl, q1⟩ := h_
  show gj_Goes E om0 mt_255 17 [some (.ref 81), some (.int x1), some (.int x2)] [(.int r1), (.int x2)] SI2 SJ2 (QI Q)
  refine gj_goq gj_clT ok_255 [2, 12, 17, 24, 33] ?_
  show (r1 < x2 → gj_Goes E om0 mt_255 44 [some (.ref 81), some (.int x1), some (.int x2)] [] SI2 SJ2 (QI Q)) ∧ (¬ r1 < x2 → gj_Do E om0 (gj_mt 160) [(.int x2)] SI2 SJ2 _)
  refine ⟨fun c2 => ?_, fun c2 => ?_⟩
  · refine gj_goq gj_clT ok_255 [2, 12, 17, 24, 33] ?_
    show gj_Goes E om0 mt_255 2 [some (.ref 81), some (.int (x1 + (i3 1))), some (.int x2)] [] SI2 SJ2 (QI Q)
    exact gj_fh (q1.1 c2) (And.intro (Or.inr rfl) (And.intro (Or.inr rfl) (And.intro (Or.inl rfl) trivial)))
  · refine gj_Do.mono (q1.2 c2) (fun v_ SI4 SJ4 h_ => ?_)
    obtain ⟨r3, rfl, q3⟩ := h_
    show gj_Goes E om0 mt_255 24 [some (.ref 81), some (.int x1), some (.int x2)] [(.int r3)] SI4 SJ4 (QI Q)
    refine gj_goq gj_clT ok_255 [2, 12, 17, 24, 33] ?_
    show (¬ r3 = x1 → gj_Goes E om0 mt_255 38 [some (.ref 81), some (.int x1), some (.int x2)] [] SI4 SJ4 (QI Q)) ∧ (r3 = x1 → gj_Do E om0 (gj_mt 194) [(.ref 81), (.int x2)] SI4 SJ4 _)
    refine ⟨fun c4 => ?_, fun c4 => ?_⟩
    · refine gj_goq gj_clT ok_255 [2, 12, 17, 24, 33] ?_
      show gj_Goes E om0 mt_255 12 [some (.ref 81), some (.int x1), some (.int (x2 + (i3 1)))] [] SI4 SJ4 (QI Q)
      exact (q3.1 c4)
    · refine gj_Do.mono (q3.2 c4) (fun v_ SI6 SJ6 h_ => ?_)
      obtain ⟨r5, rfl, q5⟩ := h_
      show gj_Goes E om0 mt_255 33 [some (.ref 81), some (.int x1), some (.int x2)] [(.int r5)] SI6 SJ6 (QI Q)
      refine gj_goq gj_clT ok_255 [2, 12, 17, 24, 33] ?_
      show (r5 = 0 → gj_Goes E om0 mt_255 38 [some (.ref 81), some (.int x1), some (.int x2)] [] SI6 SJ6 (QI Q)) ∧ (¬ r5 = 0 → QI Q (some (.int x2)) SI6 SJ6)
      refine ⟨fun c6 => ?_, fun c6 => ?_⟩
      · refine gj_goq gj_clT ok_255 [2, 12, 17, 24, 33] ?_
        show gj_Goes E om0 mt_255 12 [some (.ref 81), some (.int x1), some (.int (x2 + (i3 1)))] [] SI6 SJ6 (QI Q)
        exact (q5.1 c6)
      · exact ⟨_, rfl, (q5.2 c6)⟩
set_option maxRecDepth 20000 in
/-- GraspJudgeModel.memberOf -/
theorem st_256 {E : gj_E} {Q : Int32 → gj_I → gj_J → Prop} (a1 : Int32) (a2 : Int32) (SI : gj_I) (SJ : gj_J) (h : GoI E mt_256 5 [none, some (.int a1), none, some (.int a2), some (.int (i3 0))] SI SJ Q) : DoI E 256 [(.ref 81), (.int a1), (.int a2)] SI SJ Q := by
  refine gj_start (M := mt_256) ok_256 (Nat.le_of_ble_eq_true rfl) ?_
  refine gj_goq gj_clT ok_256 [5, 11, 24] ?_
  show gj_Goes E om0 mt_256 5 [some (.ref 81), some (.int a1), some (.int a2), some (.int a2), some (.int (i3 0))] [] SI SJ (QI Q)
  exact gj_fh h (And.intro (Or.inl rfl) (And.intro (Or.inr rfl) (And.intro (Or.inl rfl) (And.intro (Or.inr rfl) (And.intro (Or.inr rfl) trivial)))))
set_option maxRecDepth 20000 in
theorem lp_256_5 {E : gj_E} {Q : Int32 → gj_I → gj_J → Prop} (x1 : Int32) (x3 : Int32) (x4 : Int32) (SI : gj_I) (SJ : gj_J) (h : DoI E 159 [(.int x1), (.int x4)] SI SJ (fun r1 SI2 SJ2 => (r1 = 0 → DoI E 159 [(.int x1), (.int x4)] SI2 SJ2 (fun r3 SI4 SJ4 => (r3 = 0 → GoI E mt_256 5 [none, some (.int x1), none, some (.int x3), some (.int (x4 + (i3 1)))] SI4 SJ4 Q) ∧ (¬ r3 = 0 → GoI E mt_256 5 [none, some (.int x1), none, some (.int (x3 - (i3 1))), some (.int (x4 + (i3 1)))] SI4 SJ4 Q))) ∧ (¬ r1 = 0 → (x3 ≤ 0 → Q x4 SI2 SJ2) ∧ (¬ x3 ≤ 0 → DoI E 159 [(.int x1), (.int x4)] SI2 SJ2 (fun r5 SI6 SJ6 => (r5 = 0 → GoI E mt_256 5 [none, some (.int x1), none, some (.int x3), some (.int (x4 + (i3 1)))] SI6 SJ6 Q) ∧ (¬ r5 = 0 → GoI E mt_256 5 [none, some (.int x1), none, some (.int (x3 - (i3 1))), some (.int (x4 + (i3 1)))] SI6 SJ6 Q)))))) : GoI E mt_256 5 [none, some (.int x1), none, some (.int x3), some (.int x4)] SI SJ Q := by
  refine gj_goq gj_clT ok_256 [5, 11, 24] ?_
  show gj_Do E om0 (gj_mt 159) [(.int x1), (.int x4)] SI SJ _
  refine gj_Do.mono h (fun v_ SI2 SJ2 h_ => ?_)
  obtain ⟨r1, rfl, q1⟩ := h_
  show gj_Goes E om0 mt_256 11 [none, some (.int x1), none, some (.int x3), some (.int x4)] [(.int r1)] SI2 SJ2 (QI Q)
  refine gj_goq gj_clT ok_256 [5, 11, 24] ?_
  show (r1 = 0 → gj_Goes E om0 mt_256 18 [none, some (.int x1), none, some (.int x3), some (.int x4)] [] SI2 SJ2 (QI Q)) ∧ (¬ r1 = 0 → (x3 ≤ 0 → gj_Goes E om0 mt_256 40 [none, some (.int x1), none, some (.int x3), some (.int x4)] [] SI2 SJ2 (QI Q)) ∧ (¬ x3 ≤ 0 → gj_Do E om0 (gj_mt 159) [(.int x1), (.int x4)] SI2 SJ2 _))
  refine ⟨fun c2 => ?_, fun c2 => ?_⟩
  · refine gj_goq gj_clT ok_256 [5, 11, 24] ?_
    show gj_Do E om0 (gj_mt 159) [(.int x1), (.int x4)] SI2 SJ2 _
    refine gj_Do.mono (q1.1 c2) (fun v_ SI4 SJ4 h_ => ?_)
    obtain ⟨r3, rfl, q3⟩ := h_
    show gj_Goes E om0 mt_256 24 [none, some (.int x1), none, some (.int x3), some (.int x4)] [(.int r3)] SI4 SJ4 (QI Q)
    refine gj_goq gj_clT ok_256 [5, 11, 24] ?_
    show (r3 = 0 → gj_Goes E om0 mt_256 31 [none, some (.int x1), none, some (.int x3), some (.int x4)] [] SI4 SJ4 (QI Q)) ∧ (¬ r3 = 0 → gj_Goes E om0 mt_256 5 [none, some (.int x1), none, some (.int (x3 - (i3 1))), some (.int (x4 + (i3 1)))] [] SI4 SJ4 (QI Q))
    refine ⟨fun c4 => ?_, fun c4 => ?_⟩
    · refine gj_goq gj_clT ok_256 [5, 11, 24] ?_
      show gj_Goes E om0 mt_256 5 [none, some (.int x1), none, some (.int x3), some (.int (x4 + (i3 1)))] [] SI4 SJ4 (QI Q)
      exact (q3.1 c4)
    · exact (q3.2 c4)
  · refine ⟨fun c5 => ?_, fun c5 => ?_⟩
    · refine gj_goq gj_clT ok_256 [5, 11, 24] ?_
      show QI Q (some (.int x4)) SI2 SJ2
      exact ⟨_, rfl, ((q1.2 c2).1 c5)⟩
    · refine gj_Do.mono ((q1.2 c2).2 c5) (fun v_ SI6 SJ6 h_ => ?_)
      obtain ⟨r5, rfl, q6⟩ := h_
      show gj_Goes E om0 mt_256 24 [none, some (.int x1), none, some (.int x3), some (.int x4)] [(.int r5)] SI6 SJ6 (QI Q)
      refine gj_goq gj_clT ok_256 [5, 11, 24] ?_
      show (r5 = 0 → gj_Goes E om0 mt_256 31 [none, some (.int x1), none, some (.int x3), some (.int x4)] [] SI6 SJ6 (QI Q)) ∧ (¬ r5 = 0 → gj_Goes E om0 mt_256 5 [none, some (.int x1), none, some (.int (x3 - (i3 1))), some (.int (x4 + (i3 1)))] [] SI6 SJ6 (QI Q))
      refine ⟨fun c7 => ?_, fun c7 => ?_⟩
      · refine gj_goq gj_clT ok_256 [5, 11, 24] ?_
        show gj_Goes E om0 mt_256 5 [none, some (.int x1), none, some (.int x3), some (.int (x4 + (i3 1)))] [] SI6 SJ6 (QI Q)
        exact (q6.1 c7)
      · exact (q6.2 c7)
set_option maxRecDepth 20000 in
/-- GraspJudgeModel.numberOf -/
theorem st_257 {E : gj_E} {Q : Int64 → gj_I → gj_J → Prop} (a1 : Int32) (a2 : Int32) (SI : gj_I) (SJ : gj_J) (h : GoL E mt_257 8 [some (.ref 81), some (.int a1), some (.int a2), some (.long (i6 0)), none, some (.long (i6 0)), none, some (.int (i3 0)), none, none, none, none, none] SI SJ Q) : DoL E 257 [(.ref 81), (.int a1), (.int a2)] SI SJ Q := by
  refine gj_start (M := mt_257) ok_257 (Nat.le_of_ble_eq_true rfl) ?_
  refine gj_goq gj_clT ok_257 [8, 29, 47, 65, 133, 136, 144] ?_
  show gj_Goes E om0 mt_257 8 [some (.ref 81), some (.int a1), some (.int a2), some (.long (i6 0)), none, some (.long (i6 0)), none, some (.int (i3 0)), none, none, none, none, none] [] SI SJ (QL Q)
  exact h
set_option maxRecDepth 20000 in
theorem lp_257_8 {E : gj_E} {Q : Int64 → gj_I → gj_J → Prop} (x1 : Int32) (x2 : Int32) (x3 : Int64) (x5 : Int64) (x7 : Int32) (SI : gj_I) (SJ : gj_J) (h : ((i3 4) ≤ x7 → ¬ x3 = 0 ∧ (Q (x5 / x3) SI SJ)) ∧ (¬ (i3 4) ≤ x7 → (¬ x7 = 0 → DoI E 256 [(.ref 81), (.int x1), (.int (i3 0))] SI SJ (fun r1 SI2 SJ2 => ((i3 2) ≤ x7 → DoI E 256 [(.ref 81), (.int x1), (.int (i3 1))] SI2 SJ2 (fun r3 SI4 SJ4 => ((i3 3) ≤ x7 → DoI E 256 [(.ref 81), (.int x1), (.int (i3 2))] SI4 SJ4 (fun r5 SI6 SJ6 => vp_in r1 16 ∧ (vp_in r3 16 ∧ (vp_in r5 16 ∧ (DoL E 221 [(.long (SJ6 85 (gj_n r1))), (.long (SJ6 86 (gj_n r1))), (.long (SJ6 87 (gj_n r1))), (.long (SJ6 85 (gj_n r3))), (.long (SJ6 86 (gj_n r3))), (.long (SJ6 87 (gj_n r3))), (.long (SJ6 85 (gj_n r5))), (.long (SJ6 86 (gj_n r5))), (.long (SJ6 87 (gj_n r5)))] SI6 SJ6 (fun r7 SI8 SJ8 => DoL E 158 [(.long r7)] SI8 SJ8 (fun r9 SI10 SJ10 => DoL E 161 [(.long x3), (.long r9)] SI10 SJ10 (fun r11 SI12 SJ12 => (¬ x7 = x2 → GoL E mt_257 8 [some (.ref 81), some (.int x1), some (.int x2), some (.long r11), none, some (.long x5), none, some (.int (x7 + (i3 1))), none, none, none, none, none] SI12 SJ12 Q) ∧ (x7 = x2 → GoL E mt_257 8 [some (.ref 81), some (.int x1), some (.int x2), some (.long r11), none, some (.long r9), none, some (.int (x7 + (i3 1))), none, none, none, none, none] SI12 SJ12 Q))))))))) ∧ (¬ (i3 3) ≤ x7 → DoI E 256 [(.ref 81), (.int x1), (.int (i3 3))] SI4 SJ4 (fun r13 SI14 SJ14 => vp_in r1 16 ∧ (vp_in r3 16 ∧ (vp_in r13 16 ∧ (DoL E 221 [(.long (SJ14 85 (gj_n r1))), (.long (SJ14 86 (gj_n r1))), (.long (SJ14 87 (gj_n r1))), (.long (SJ14 85 (gj_n r3))), (.long (SJ14 86 (gj_n r3))), (.long (SJ14 87 (gj_n r3))), (.long (SJ14 85 (gj_n r13))), (.long (SJ14 86 (gj_n r13))), (.long (SJ14 87 (gj_n r13)))] SI14 SJ14 (fun r15 SI16 SJ16 => DoL E 158 [(.long r15)] SI16 SJ16 (fun r17 SI18 SJ18 => DoL E 161 [(.long x3), (.long r17)] SI18 SJ18 (fun r19 SI20 SJ20 => (¬ x7 = x2 → GoL E mt_257 8 [some (.ref 81), some (.int x1), some (.int x2), some (.long r19), none, some (.long x5), none, some (.int (x7 + (i3 1))), none, none, none, none, none] SI20 SJ20 Q) ∧ (x7 = x2 → GoL E mt_257 8 [some (.ref 81), some (.int x1), some (.int x2), some (.long r19), none, some (.long r17), none, some (.int (x7 + (i3 1))), none, none, none, none, none] SI20 SJ20 Q))))))))))) ∧ (¬ (i3 2) ≤ x7 → DoI E 256 [(.ref 81), (.int x1), (.int (i3 2))] SI2 SJ2 (fun r21 SI22 SJ22 => ((i3 3) ≤ x7 → DoI E 256 [(.ref 81), (.int x1), (.int (i3 2))] SI22 SJ22 (fun r23 SI24 SJ24 => vp_in r1 16 ∧ (vp_in r21 16 ∧ (vp_in r23 16 ∧ (DoL E 221 [(.long (SJ24 85 (gj_n r1))), (.long (SJ24 86 (gj_n r1))), (.long (SJ24 87 (gj_n r1))), (.long (SJ24 85 (gj_n r21))), (.long (SJ24 86 (gj_n r21))), (.long (SJ24 87 (gj_n r21))), (.long (SJ24 85 (gj_n r23))), (.long (SJ24 86 (gj_n r23))), (.long (SJ24 87 (gj_n r23)))] SI24 SJ24 (fun r25 SI26 SJ26 => DoL E 158 [(.long r25)] SI26 SJ26 (fun r27 SI28 SJ28 => DoL E 161 [(.long x3), (.long r27)] SI28 SJ28 (fun r29 SI30 SJ30 => (¬ x7 = x2 → GoL E mt_257 8 [some (.ref 81), some (.int x1), some (.int x2), some (.long r29), none, some (.long x5), none, some (.int (x7 + (i3 1))), none, none, none, none, none] SI30 SJ30 Q) ∧ (x7 = x2 → GoL E mt_257 8 [some (.ref 81), some (.int x1), some (.int x2), some (.long r29), none, some (.long r27), none, some (.int (x7 + (i3 1))), none, none, none, none, none] SI30 SJ30 Q))))))))) ∧ (¬ (i3 3) ≤ x7 → DoI E 256 [(.ref 81), (.int x1), (.int (i3 3))] SI22 SJ22 (fun r31 SI32 SJ32 => vp_in r1 16 ∧ (vp_in r21 16 ∧ (vp_in r31 16 ∧ (DoL E 221 [(.long (SJ32 85 (gj_n r1))), (.long (SJ32 86 (gj_n r1))), (.long (SJ32 87 (gj_n r1))), (.long (SJ32 85 (gj_n r21))), (.long (SJ32 86 (gj_n r21))), (.long (SJ32 87 (gj_n r21))), (.long (SJ32 85 (gj_n r31))), (.long (SJ32 86 (gj_n r31))), (.long (SJ32 87 (gj_n r31)))] SI32 SJ32 (fun r33 SI34 SJ34 => DoL E 158 [(.long r33)] SI34 SJ34 (fun r35 SI36 SJ36 => DoL E 161 [(.long x3), (.long r35)] SI36 SJ36 (fun r37 SI38 SJ38 => (¬ x7 = x2 → GoL E mt_257 8 [some (.ref 81), some (.int x1), some (.int x2), some (.long r37), none, some (.long x5), none, some (.int (x7 + (i3 1))), none, none, none, none, none] SI38 SJ38 Q) ∧ (x7 = x2 → GoL E mt_257 8 [some (.ref 81), some (.int x1), some (.int x2), some (.long r37), none, some (.long r35), none, some (.int (x7 + (i3 1))), none, none, none, none, none] SI38 SJ38 Q))))))))))))) ∧ (x7 = 0 → DoI E 256 [(.ref 81), (.int x1), (.int (i3 1))] SI SJ (fun r39 SI40 SJ40 => ((i3 2) ≤ x7 → DoI E 256 [(.ref 81), (.int x1), (.int (i3 1))] SI40 SJ40 (fun r41 SI42 SJ42 => ((i3 3) ≤ x7 → DoI E 256 [(.ref 81), (.int x1), (.int (i3 2))] SI42 SJ42 (fun r43 SI44 SJ44 => vp_in r39 16 ∧ (vp_in r41 16 ∧ (vp_in r43 16 ∧ (DoL E 221 [(.long (SJ44 85 (gj_n r39))), (.long (SJ44 86 (gj_n r39))), (.long (SJ44 87 (gj_n r39))), (.long (SJ44 85 (gj_n r41))), (.long (SJ44 86 (gj_n r41))), (.long (SJ44 87 (gj_n r41))), (.long (SJ44 85 (gj_n r43))), (.long (SJ44 86 (gj_n r43))), (.long (SJ44 87 (gj_n r43)))] SI44 SJ44 (fun r45 SI46 SJ46 => DoL E 158 [(.long r45)] SI46 SJ46 (fun r47 SI48 SJ48 => DoL E 161 [(.long x3), (.long r47)] SI48 SJ48 (fun r49 SI50 SJ50 => (¬ x7 = x2 → GoL E mt_257 8 [some (.ref 81), some (.int x1), some (.int x2), some (.long r49), none, some (.long x5), none, some (.int (x7 + (i3 1))), none, none, none, none, none] SI50 SJ50 Q) ∧ (x7 = x2 → GoL E mt_257 8 [some (.ref 81), some (.int x1), some (.int x2), some (.long r49), none, some (.long r47), none, some (.int (x7 + (i3 1))), none, none, none, none, none] SI50 SJ50 Q))))))))) ∧ (¬ (i3 3) ≤ x7 → DoI E 256 [(.ref 81), (.int x1), (.int (i3 3))] SI42 SJ42 (fun r51 SI52 SJ52 => vp_in r39 16 ∧ (vp_in r41 16 ∧ (vp_in r51 16 ∧ (DoL E 221 [(.long (SJ52 85 (gj_n r39))), (.long (SJ52 86 (gj_n r39))), (.long (SJ52 87 (gj_n r39))), (.long (SJ52 85 (gj_n r41))), (.long (SJ52 86 (gj_n r41))), (.long (SJ52 87 (gj_n r41))), (.long (SJ52 85 (gj_n r51))), (.long (SJ52 86 (gj_n r51))), (.long (SJ52 87 (gj_n r51)))] SI52 SJ52 (fun r53 SI54 SJ54 => DoL E 158 [(.long r53)] SI54 SJ54 (fun r55 SI56 SJ56 => DoL E 161 [(.long x3), (.long r55)] SI56 SJ56 (fun r57 SI58 SJ58 => (¬ x7 = x2 → GoL E mt_257 8 [some (.ref 81), some (.int x1), some (.int x2), some (.long r57), none, some (.long x5), none, some (.int (x7 + (i3 1))), none, none, none, none, none] SI58 SJ58 Q) ∧ (x7 = x2 → GoL E mt_257 8 [some (.ref 81), some (.int x1), some (.int x2), some (.long r57), none, some (.long r55), none, some (.int (x7 + (i3 1))), none, none, none, none, none] SI58 SJ58 Q))))))))))) ∧ (¬ (i3 2) ≤ x7 → DoI E 256 [(.ref 81), (.int x1), (.int (i3 2))] SI40 SJ40 (fun r59 SI60 SJ60 => ((i3 3) ≤ x7 → DoI E 256 [(.ref 81), (.int x1), (.int (i3 2))] SI60 SJ60 (fun r61 SI62 SJ62 => vp_in r39 16 ∧ (vp_in r59 16 ∧ (vp_in r61 16 ∧ (DoL E 221 [(.long (SJ62 85 (gj_n r39))), (.long (SJ62 86 (gj_n r39))), (.long (SJ62 87 (gj_n r39))), (.long (SJ62 85 (gj_n r59))), (.long (SJ62 86 (gj_n r59))), (.long (SJ62 87 (gj_n r59))), (.long (SJ62 85 (gj_n r61))), (.long (SJ62 86 (gj_n r61))), (.long (SJ62 87 (gj_n r61)))] SI62 SJ62 (fun r63 SI64 SJ64 => DoL E 158 [(.long r63)] SI64 SJ64 (fun r65 SI66 SJ66 => DoL E 161 [(.long x3), (.long r65)] SI66 SJ66 (fun r67 SI68 SJ68 => (¬ x7 = x2 → GoL E mt_257 8 [some (.ref 81), some (.int x1), some (.int x2), some (.long r67), none, some (.long x5), none, some (.int (x7 + (i3 1))), none, none, none, none, none] SI68 SJ68 Q) ∧ (x7 = x2 → GoL E mt_257 8 [some (.ref 81), some (.int x1), some (.int x2), some (.long r67), none, some (.long r65), none, some (.int (x7 + (i3 1))), none, none, none, none, none] SI68 SJ68 Q))))))))) ∧ (¬ (i3 3) ≤ x7 → DoI E 256 [(.ref 81), (.int x1), (.int (i3 3))] SI60 SJ60 (fun r69 SI70 SJ70 => vp_in r39 16 ∧ (vp_in r59 16 ∧ (vp_in r69 16 ∧ (DoL E 221 [(.long (SJ70 85 (gj_n r39))), (.long (SJ70 86 (gj_n r39))), (.long (SJ70 87 (gj_n r39))), (.long (SJ70 85 (gj_n r59))), (.long (SJ70 86 (gj_n r59))), (.long (SJ70 87 (gj_n r59))), (.long (SJ70 85 (gj_n r69))), (.long (SJ70 86 (gj_n r69))), (.long (SJ70 87 (gj_n r69)))] SI70 SJ70 (fun r71 SI72 SJ72 => DoL E 158 [(.long r71)] SI72 SJ72 (fun r73 SI74 SJ74 => DoL E 161 [(.long x3), (.long r73)] SI74 SJ74 (fun r75 SI76 SJ76 => (¬ x7 = x2 → GoL E mt_257 8 [some (.ref 81), some (.int x1), some (.int x2), some (.long r75), none, some (.long x5), none, some (.int (x7 + (i3 1))), none, none, none, none, none] SI76 SJ76 Q) ∧ (x7 = x2 → GoL E mt_257 8 [some (.ref 81), some (.int x1), some (.int x2), some (.long r75), none, some (.long r73), none, some (.int (x7 + (i3 1))), none, none, none, none, none] SI76 SJ76 Q))))))))))))))) : GoL E mt_257 8 [some (.ref 81), some (.int x1), some (.int x2), some (.long x3), none, some (.long x5), none, some (.int x7), none, none, none, none, none] SI SJ Q := by
  refine gj_goq gj_clT ok_257 [8, 29, 47, 65, 133, 136, 144] ?_
  show ((i3 4) ≤ x7 → gj_Goes E om0 mt_257 161 [some (.ref 81), some (.int x1), some (.int x2), some (.long x3), none, some (.long x5), none, some (.int x7), none, none, none, none, none] [] SI SJ (QL Q)) ∧ (¬ (i3 4) ≤ x7 → (¬ x7 = 0 → gj_Goes E om0 mt_257 25 [some (.ref 81), some (.int x1), some (.int x2), some (.long x3), none, some (.long x5), none, some (.int x7), none, none, none, none, none] [(.int x1), (.ref 81)] SI SJ (QL Q)) ∧ (x7 = 0 → gj_Goes E om0 mt_257 26 [some (.ref 81), some (.int x1), some (.int x2), some (.long x3), none, some (.long x5), none, some (.int x7), none, none, none, none, none] [(.int (i3 1)), (.int x1), (.ref 81)] SI SJ (QL Q)))
  refine ⟨fun c1 => ?_, fun c1 => ?_⟩
  · refine gj_goq gj_clT ok_257 [8, 29, 47, 65, 133, 136, 144] ?_
    show ¬ x3 = 0 ∧ (QL Q (some (.long (x5 / x3))) SI SJ)
    have k2 := (h.1 c1).1
    refine ⟨k2, ?_⟩
    exact ⟨_, rfl, (h.1 c1).2⟩
  · refine ⟨fun c3 => ?_, fun c3 => ?_⟩
    · refine gj_goq gj_clT ok_257 [8, 29, 47, 65, 133, 136, 144] ?_
      show gj_Do E om0 (gj_mt 256) [(.ref 81), (.int x1), (.int (i3 0))] SI SJ _
      refine gj_Do.mono ((h.2 c1).1 c3) (fun v_ SI2 SJ2 h_ => ?_)
      obtain ⟨r1, rfl, q4⟩ := h_
      show gj_Goes E om0 mt_257 29 [some (.ref 81), some (.int x1), some (.int x2), some (.long x3), none, some (.long x5), none, some (.int x7), none, none, none, none, none] [(.int r1)] SI2 SJ2 (QL Q)
      refine gj_goq gj_clT ok_257 [8, 29, 47, 65, 133, 136, 144] ?_
      show ((i3 2) ≤ x7 → gj_Goes E om0 mt_257 43 [some (.ref 81), some (.int x1), some (.int x2), some (.long x3), none, some (.long x5), none, some (.int x7), some (.int r1), none, none, none, none] [(.int x1), (.ref 81)] SI2 SJ2 (QL Q)) ∧ (¬ (i3 2) ≤ x7 → gj_Goes E om0 mt_257 44 [some (.ref 81), some (.int x1), some (.int x2), some (.long x3), none, some (.long x5), none, some (.int x7), some (.int r1), none, none, none, none] [(.int (i3 2)), (.int x1), (.ref 81)] SI2 SJ2 (QL Q))
      refine ⟨fun c5 => ?_, fun c5 => ?_⟩
      · refine gj_goq gj_clT ok_257 [8, 29, 47, 65, 133, 136, 144] ?_
        show gj_Do E om0 (gj_mt 256) [(.ref 81), (.int x1), (.int (i3 1))] SI2 SJ2 _
        refine gj_Do.mono (q4.1 c5) (fun v_ SI4 SJ4 h_ => ?_)
        obtain ⟨r3, rfl, q6⟩ := h_
        show gj_Goes E om0 mt_257 47 [some (.ref 81), some (.int x1), some (.int x2), some (.long x3), none, some (.long x5), none, some (.int x7), some (.int r1), none, none, none, none] [(.int r3)] SI4 SJ4 (QL Q)
        refine gj_goq gj_clT ok_257 [8, 29, 47, 65, 133, 136, 144] ?_
        show ((i3 3) ≤ x7 → gj_Goes E om0 mt_257 61 [some (.ref 81), some (.int x1), some (.int x2), some (.long x3), none, some (.long x5), none, some (.int x7), some (.int r1), some (.int r3), none, none, none] [(.int x1), (.ref 81)] SI4 SJ4 (QL Q)) ∧ (¬ (i3 3) ≤ x7 → gj_Goes E om0 mt_257 62 [some (.ref 81), some (.int x1), some (.int x2), some (.long x3), none, some (.long x5), none, some (.int x7), some (.int r1), some (.int r3), none, none, none] [(.int (i3 3)), (.int x1), (.ref 81)] SI4 SJ4 (QL Q))
        refine ⟨fun c7 => ?_, fun c7 => ?_⟩
        · refine gj_goq gj_clT ok_257 [8, 29, 47, 65, 133, 136, 144] ?_
          show gj_Do E om0 (gj_mt 256) [(.ref 81), (.int x1), (.int (i3 2))] SI4 SJ4 _
          refine gj_Do.mono (q6.1 c7) (fun v_ SI6 SJ6 h_ => ?_)
          obtain ⟨r5, rfl, q8⟩ := h_
          show gj_Goes E om0 mt_257 65 [some (.ref 81), some (.int x1), some (.int x2), some (.long x3), none, some (.long x5), none, some (.int x7), some (.int r1), some (.int r3), none, none, none] [(.int r5)] SI6 SJ6 (QL Q)
          refine gj_goq gj_clT ok_257 [8, 29, 47, 65, 133, 136, 144] ?_
          show vp_in r1 16 ∧ (vp_in r1 16 ∧ (vp_in r1 16 ∧ (vp_in r3 16 ∧ (vp_in r3 16 ∧ (vp_in r3 16 ∧ (vp_in r5 16 ∧ (vp_in r5 16 ∧ (vp_in r5 16 ∧ (gj_Do E om0 (gj_mt 221) [(.long (SJ6 85 (gj_n r1))), (.long (SJ6 86 (gj_n r1))), (.long (SJ6 87 (gj_n r1))), (.long (SJ6 85 (gj_n r3))), (.long (SJ6 86 (gj_n r3))), (.long (SJ6 87 (gj_n r3))), (.long (SJ6 85 (gj_n r5))), (.long (SJ6 86 (gj_n r5))), (.long (SJ6 87 (gj_n r5)))] SI6 SJ6 _)))))))))
          have k9 := q8.1
          refine ⟨k9, ?_⟩
          refine ⟨k9, ?_⟩
          refine ⟨k9, ?_⟩
          have k10 := q8.2.1
          refine ⟨k10, ?_⟩
          refine ⟨k10, ?_⟩
          refine ⟨k10, ?_⟩
          have k11 := q8.2.2.1
          refine ⟨k11, ?_⟩
          refine ⟨k11, ?_⟩
          refine ⟨k11, ?_⟩
          refine gj_Do.mono q8.2.2.2 (fun v_ SI8 SJ8 h_ => ?_)
          obtain ⟨r7, rfl, q12⟩ := h_
          show gj_Goes E om0 mt_257 133 [some (.ref 81), some (.int x1), some (.int x2), some (.long x3), none, some (.long x5), none, some (.int x7), some (.int r1), some (.int r3), some (.int r5), none, none] [(.long r7)] SI8 SJ8 (QL Q)
          refine gj_goq gj_clT ok_257 [8, 29, 47, 65, 133, 136, 144] ?_
          show gj_Do E om0 (gj_mt 158) [(.long r7)] SI8 SJ8 _
          refine gj_Do.mono q12 (fun v_ SI10 SJ10 h_ => ?_)
          obtain ⟨r9, rfl, q13⟩ := h_
          show gj_Goes E om0 mt_257 136 [some (.ref 81), some (.int x1), some (.int x2), some (.long x3), none, some (.long x5), none, some (.int x7), some (.int r1), some (.int r3), some (.int r5), none, none] [(.long r9)] SI10 SJ10 (QL Q)
          refine gj_goq gj_clT ok_257 [8, 29, 47, 65, 133, 136, 144] ?_
          show gj_Do E om0 (gj_mt 161) [(.long x3), (.long r9)] SI10 SJ10 _
          refine gj_Do.mono q13 (fun v_ SI12 SJ12 h_ => ?_)
          obtain ⟨r11, rfl, q14⟩ := h_
          show gj_Goes E om0 mt_257 144 [some (.ref 81), some (.int x1), some (.int x2), some (.long x3), none, some (.long x5), none, some (.int x7), some (.int r1), some (.int r3), some (.int r5), some (.long r9), none] [(.long r11)] SI12 SJ12 (QL Q)
          refine gj_goq gj_clT ok_257 [8, 29, 47, 65, 133, 136, 144] ?_
          show (¬ x7 = x2 → gj_Goes E om0 mt_257 155 [some (.ref 81), some (.int x1), some (.int x2), some (.long r11), none, some (.long x5), none, some (.int x7), some (.int r1), some (.int r3), some (.int r5), some (.long r9), none] [] SI12 SJ12 (QL Q)) ∧ (x7 = x2 → gj_Goes E om0 mt_257 8 [some (.ref 81), some (.int x1), some (.int x2), some (.long r11), none, some (.long r9), none, some (.int (x7 + (i3 1))), some (.int r1), some (.int r3), some (.int r5), some (.long r9), none] [] SI12 SJ12 (QL Q))
          refine ⟨fun c15 => ?_, fun c15 => ?_⟩
          · refine gj_goq gj_clT ok_257 [8, 29, 47, 65, 133, 136, 144] ?_
            show gj_Goes E om0 mt_257 8 [some (.ref 81), some (.int x1), some (.int x2), some (.long r11), none, some (.long x5), none, some (.int (x7 + (i3 1))), some (.int r1), some (.int r3), some (.int r5), some (.long r9), none] [] SI12 SJ12 (QL Q)
            exact gj_fh (q14.1 c15) (And.intro (Or.inr rfl) (And.intro (Or.inr rfl) (And.intro (Or.inr rfl) (And.intro (Or.inr rfl) (And.intro (Or.inl rfl) (And.intro (Or.inr rfl) (And.intro (Or.inl rfl) (And.intro (Or.inr rfl) (And.intro (Or.inl rfl) (And.intro (Or.inl rfl) (And.intro (Or.inl rfl) (And.intro (Or.inl rfl) (And.intro (Or.inl rfl) trivial)))))))))))))
          · exact gj_fh (q14.2 c15) (And.intro (Or.inr rfl) (And.intro (Or.inr rfl) (And.intro (Or.inr rfl) (And.intro (Or.inr rfl) (And.intro (Or.inl rfl) (And.intro (Or.inr rfl) (And.intro (Or.inl rfl) (And.intro (Or.inr rfl) (And.intro (Or.inl rfl) (And.intro (Or.inl rfl) (And.intro (Or.inl rfl) (And.intro (Or.inl rfl) (And.intro (Or.inl rfl) trivial)))))))))))))
        · refine gj_goq gj_clT ok_257 [8, 29, 47, 65, 133, 136, 144] ?_
          show gj_Do E om0 (gj_mt 256) [(.ref 81), (.int x1), (.int (i3 3))] SI4 SJ4 _
          refine gj_Do.mono (q6.2 c7) (fun v_ SI14 SJ14 h_ => ?_)
          obtain ⟨r13, rfl, q16⟩ := h_
          show gj_Goes E om0 mt_257 65 [some (.ref 81), some (.int x1), some (.int x2), some (.long x3), none, some (.long x5), none, some (.int x7), some (.int r1), some (.int r3), none, none, none] [(.int r13)] SI14 SJ14 (QL Q)
          refine gj_goq gj_clT ok_257 [8, 29, 47, 65, 133, 136, 144] ?_
          show vp_in r1 16 ∧ (vp_in r1 16 ∧ (vp_in r1 16 ∧ (vp_in r3 16 ∧ (vp_in r3 16 ∧ (vp_in r3 16 ∧ (vp_in r13 16 ∧ (vp_in r13 16 ∧ (vp_in r13 16 ∧ (gj_Do E om0 (gj_mt 221) [(.long (SJ14 85 (gj_n r1))), (.long (SJ14 86 (gj_n r1))), (.long (SJ14 87 (gj_n r1))), (.long (SJ14 85 (gj_n r3))), (.long (SJ14 86 (gj_n r3))), (.long (SJ14 87 (gj_n r3))), (.long (SJ14 85 (gj_n r13))), (.long (SJ14 86 (gj_n r13))), (.long (SJ14 87 (gj_n r13)))] SI14 SJ14 _)))))))))
          have k17 := q16.1
          refine ⟨k17, ?_⟩
          refine ⟨k17, ?_⟩
          refine ⟨k17, ?_⟩
          have k18 := q16.2.1
          refine ⟨k18, ?_⟩
          refine ⟨k18, ?_⟩
          refine ⟨k18, ?_⟩
          have k19 := q16.2.2.1
          refine ⟨k19, ?_⟩
          refine ⟨k19, ?_⟩
          refine ⟨k19, ?_⟩
          refine gj_Do.mono q16.2.2.2 (fun v_ SI16 SJ16 h_ => ?_)
          obtain ⟨r15, rfl, q20⟩ := h_
          show gj_Goes E om0 mt_257 133 [some (.ref 81), some (.int x1), some (.int x2), some (.long x3), none, some (.long x5), none, some (.int x7), some (.int r1), some (.int r3), some (.int r13), none, none] [(.long r15)] SI16 SJ16 (QL Q)
          refine gj_goq gj_clT ok_257 [8, 29, 47, 65, 133, 136, 144] ?_
          show gj_Do E om0 (gj_mt 158) [(.long r15)] SI16 SJ16 _
          refine gj_Do.mono q20 (fun v_ SI18 SJ18 h_ => ?_)
          obtain ⟨r17, rfl, q21⟩ := h_
          show gj_Goes E om0 mt_257 136 [some (.ref 81), some (.int x1), some (.int x2), some (.long x3), none, some (.long x5), none, some (.int x7), some (.int r1), some (.int r3), some (.int r13), none, none] [(.long r17)] SI18 SJ18 (QL Q)
          refine gj_goq gj_clT ok_257 [8, 29, 47, 65, 133, 136, 144] ?_
          show gj_Do E om0 (gj_mt 161) [(.long x3), (.long r17)] SI18 SJ18 _
          refine gj_Do.mono q21 (fun v_ SI20 SJ20 h_ => ?_)
          obtain ⟨r19, rfl, q22⟩ := h_
          show gj_Goes E om0 mt_257 144 [some (.ref 81), some (.int x1), some (.int x2), some (.long x3), none, some (.long x5), none, some (.int x7), some (.int r1), some (.int r3), some (.int r13), some (.long r17), none] [(.long r19)] SI20 SJ20 (QL Q)
          refine gj_goq gj_clT ok_257 [8, 29, 47, 65, 133, 136, 144] ?_
          show (¬ x7 = x2 → gj_Goes E om0 mt_257 155 [some (.ref 81), some (.int x1), some (.int x2), some (.long r19), none, some (.long x5), none, some (.int x7), some (.int r1), some (.int r3), some (.int r13), some (.long r17), none] [] SI20 SJ20 (QL Q)) ∧ (x7 = x2 → gj_Goes E om0 mt_257 8 [some (.ref 81), some (.int x1), some (.int x2), some (.long r19), none, some (.long r17), none, some (.int (x7 + (i3 1))), some (.int r1), some (.int r3), some (.int r13), some (.long r17), none] [] SI20 SJ20 (QL Q))
          refine ⟨fun c23 => ?_, fun c23 => ?_⟩
          · refine gj_goq gj_clT ok_257 [8, 29, 47, 65, 133, 136, 144] ?_
            show gj_Goes E om0 mt_257 8 [some (.ref 81), some (.int x1), some (.int x2), some (.long r19), none, some (.long x5), none, some (.int (x7 + (i3 1))), some (.int r1), some (.int r3), some (.int r13), some (.long r17), none] [] SI20 SJ20 (QL Q)
            exact gj_fh (q22.1 c23) (And.intro (Or.inr rfl) (And.intro (Or.inr rfl) (And.intro (Or.inr rfl) (And.intro (Or.inr rfl) (And.intro (Or.inl rfl) (And.intro (Or.inr rfl) (And.intro (Or.inl rfl) (And.intro (Or.inr rfl) (And.intro (Or.inl rfl) (And.intro (Or.inl rfl) (And.intro (Or.inl rfl) (And.intro (Or.inl rfl) (And.intro (Or.inl rfl) trivial)))))))))))))
          · exact gj_fh (q22.2 c23) (And.intro (Or.inr rfl) (And.intro (Or.inr rfl) (And.intro (Or.inr rfl) (And.intro (Or.inr rfl) (And.intro (Or.inl rfl) (And.intro (Or.inr rfl) (And.intro (Or.inl rfl) (And.intro (Or.inr rfl) (And.intro (Or.inl rfl) (And.intro (Or.inl rfl) (And.intro (Or.inl rfl) (And.intro (Or.inl rfl) (And.intro (Or.inl rfl) trivial)))))))))))))
      · refine gj_goq gj_clT ok_257 [8, 29, 47, 65, 133, 136, 144] ?_
        show gj_Do E om0 (gj_mt 256) [(.ref 81), (.int x1), (.int (i3 2))] SI2 SJ2 _
        refine gj_Do.mono (q4.2 c5) (fun v_ SI22 SJ22 h_ => ?_)
        obtain ⟨r21, rfl, q24⟩ := h_
        show gj_Goes E om0 mt_257 47 [some (.ref 81), some (.int x1), some (.int x2), some (.long x3), none, some (.long x5), none, some (.int x7), some (.int r1), none, none, none, none] [(.int r21)] SI22 SJ22 (QL Q)
        refine gj_goq gj_clT ok_257 [8, 29, 47, 65, 133, 136, 144] ?_
        show ((i3 3) ≤ x7 → gj_Goes E om0 mt_257 61 [some (.ref 81), some (.int x1), some (.int x2), some (.long x3), none, some (.long x5), none, some (.int x7), some (.int r1), some (.int r21), none, none, none] [(.int x1), (.ref 81)] SI22 SJ22 (QL Q)) ∧ (¬ (i3 3) ≤ x7 → gj_Goes E om0 mt_257 62 [some (.ref 81), some (.int x1), some (.int x2), some (.long x3), none, some (.long x5), none, some (.int x7), some (.int r1), some (.int r21), none, none, none] [(.int (i3 3)), (.int x1), (.ref 81)] SI22 SJ22 (QL Q))
        refine ⟨fun c25 => ?_, fun c25 => ?_⟩
        · refine gj_goq gj_clT ok_257 [8, 29, 47, 65, 133, 136, 144] ?_
          show gj_Do E om0 (gj_mt 256) [(.ref 81), (.int x1), (.int (i3 2))] SI22 SJ22 _
          refine gj_Do.mono (q24.1 c25) (fun v_ SI24 SJ24 h_ => ?_)
          obtain ⟨r23, rfl, q26⟩ := h_
          show gj_Goes E om0 mt_257 65 [some (.ref 81), some (.int x1), some (.int x2), some (.long x3), none, some (.long x5), none, some (.int x7), some (.int r1), some (.int r21), none, none, none] [(.int r23)] SI24 SJ24 (QL Q)
          refine gj_goq gj_clT ok_257 [8, 29, 47, 65, 133, 136, 144] ?_
          show vp_in r1 16 ∧ (vp_in r1 16 ∧ (vp_in r1 16 ∧ (vp_in r21 16 ∧ (vp_in r21 16 ∧ (vp_in r21 16 ∧ (vp_in r23 16 ∧ (vp_in r23 16 ∧ (vp_in r23 16 ∧ (gj_Do E om0 (gj_mt 221) [(.long (SJ24 85 (gj_n r1))), (.long (SJ24 86 (gj_n r1))), (.long (SJ24 87 (gj_n r1))), (.long (SJ24 85 (gj_n r21))), (.long (SJ24 86 (gj_n r21))), (.long (SJ24 87 (gj_n r21))), (.long (SJ24 85 (gj_n r23))), (.long (SJ24 86 (gj_n r23))), (.long (SJ24 87 (gj_n r23)))] SI24 SJ24 _)))))))))
          have k27 := q26.1
          refine ⟨k27, ?_⟩
          refine ⟨k27, ?_⟩
          refine ⟨k27, ?_⟩
          have k28 := q26.2.1
          refine ⟨k28, ?_⟩
          refine ⟨k28, ?_⟩
          refine ⟨k28, ?_⟩
          have k29 := q26.2.2.1
          refine ⟨k29, ?_⟩
          refine ⟨k29, ?_⟩
          refine ⟨k29, ?_⟩
          refine gj_Do.mono q26.2.2.2 (fun v_ SI26 SJ26 h_ => ?_)
          obtain ⟨r25, rfl, q30⟩ := h_
          show gj_Goes E om0 mt_257 133 [some (.ref 81), some (.int x1), some (.int x2), some (.long x3), none, some (.long x5), none, some (.int x7), some (.int r1), some (.int r21), some (.int r23), none, none] [(.long r25)] SI26 SJ26 (QL Q)
          refine gj_goq gj_clT ok_257 [8, 29, 47, 65, 133, 136, 144] ?_
          show gj_Do E om0 (gj_mt 158) [(.long r25)] SI26 SJ26 _
          refine gj_Do.mono q30 (fun v_ SI28 SJ28 h_ => ?_)
          obtain ⟨r27, rfl, q31⟩ := h_
          show gj_Goes E om0 mt_257 136 [some (.ref 81), some (.int x1), some (.int x2), some (.long x3), none, some (.long x5), none, some (.int x7), some (.int r1), some (.int r21), some (.int r23), none, none] [(.long r27)] SI28 SJ28 (QL Q)
          refine gj_goq gj_clT ok_257 [8, 29, 47, 65, 133, 136, 144] ?_
          show gj_Do E om0 (gj_mt 161) [(.long x3), (.long r27)] SI28 SJ28 _
          refine gj_Do.mono q31 (fun v_ SI30 SJ30 h_ => ?_)
          obtain ⟨r29, rfl, q32⟩ := h_
          show gj_Goes E om0 mt_257 144 [some (.ref 81), some (.int x1), some (.int x2), some (.long x3), none, some (.long x5), none, some (.int x7), some (.int r1), some (.int r21), some (.int r23), some (.long r27), none] [(.long r29)] SI30 SJ30 (QL Q)
          refine gj_goq gj_clT ok_257 [8, 29, 47, 65, 133, 136, 144] ?_
          show (¬ x7 = x2 → gj_Goes E om0 mt_257 155 [some (.ref 81), some (.int x1), some (.int x2), some (.long r29), none, some (.long x5), none, some (.int x7), some (.int r1), some (.int r21), some (.int r23), some (.long r27), none] [] SI30 SJ30 (QL Q)) ∧ (x7 = x2 → gj_Goes E om0 mt_257 8 [some (.ref 81), some (.int x1), some (.int x2), some (.long r29), none, some (.long r27), none, some (.int (x7 + (i3 1))), some (.int r1), some (.int r21), some (.int r23), some (.long r27), none] [] SI30 SJ30 (QL Q))
          refine ⟨fun c33 => ?_, fun c33 => ?_⟩
          · refine gj_goq gj_clT ok_257 [8, 29, 47, 65, 133, 136, 144] ?_
            show gj_Goes E om0 mt_257 8 [some (.ref 81), some (.int x1), some (.int x2), some (.long r29), none, some (.long x5), none, some (.int (x7 + (i3 1))), some (.int r1), some (.int r21), some (.int r23), some (.long r27), none] [] SI30 SJ30 (QL Q)
            exact gj_fh (q32.1 c33) (And.intro (Or.inr rfl) (And.intro (Or.inr rfl) (And.intro (Or.inr rfl) (And.intro (Or.inr rfl) (And.intro (Or.inl rfl) (And.intro (Or.inr rfl) (And.intro (Or.inl rfl) (And.intro (Or.inr rfl) (And.intro (Or.inl rfl) (And.intro (Or.inl rfl) (And.intro (Or.inl rfl) (And.intro (Or.inl rfl) (And.intro (Or.inl rfl) trivial)))))))))))))
          · exact gj_fh (q32.2 c33) (And.intro (Or.inr rfl) (And.intro (Or.inr rfl) (And.intro (Or.inr rfl) (And.intro (Or.inr rfl) (And.intro (Or.inl rfl) (And.intro (Or.inr rfl) (And.intro (Or.inl rfl) (And.intro (Or.inr rfl) (And.intro (Or.inl rfl) (And.intro (Or.inl rfl) (And.intro (Or.inl rfl) (And.intro (Or.inl rfl) (And.intro (Or.inl rfl) trivial)))))))))))))
        · refine gj_goq gj_clT ok_257 [8, 29, 47, 65, 133, 136, 144] ?_
          show gj_Do E om0 (gj_mt 256) [(.ref 81), (.int x1), (.int (i3 3))] SI22 SJ22 _
          refine gj_Do.mono (q24.2 c25) (fun v_ SI32 SJ32 h_ => ?_)
          obtain ⟨r31, rfl, q34⟩ := h_
          show gj_Goes E om0 mt_257 65 [some (.ref 81), some (.int x1), some (.int x2), some (.long x3), none, some (.long x5), none, some (.int x7), some (.int r1), some (.int r21), none, none, none] [(.int r31)] SI32 SJ32 (QL Q)
          refine gj_goq gj_clT ok_257 [8, 29, 47, 65, 133, 136, 144] ?_
          show vp_in r1 16 ∧ (vp_in r1 16 ∧ (vp_in r1 16 ∧ (vp_in r21 16 ∧ (vp_in r21 16 ∧ (vp_in r21 16 ∧ (vp_in r31 16 ∧ (vp_in r31 16 ∧ (vp_in r31 16 ∧ (gj_Do E om0 (gj_mt 221) [(.long (SJ32 85 (gj_n r1))), (.long (SJ32 86 (gj_n r1))), (.long (SJ32 87 (gj_n r1))), (.long (SJ32 85 (gj_n r21))), (.long (SJ32 86 (gj_n r21))), (.long (SJ32 87 (gj_n r21))), (.long (SJ32 85 (gj_n r31))), (.long (SJ32 86 (gj_n r31))), (.long (SJ32 87 (gj_n r31)))] SI32 SJ32 _)))))))))
          have k35 := q34.1
          refine ⟨k35, ?_⟩
          refine ⟨k35, ?_⟩
          refine ⟨k35, ?_⟩
          have k36 := q34.2.1
          refine ⟨k36, ?_⟩
          refine ⟨k36, ?_⟩
          refine ⟨k36, ?_⟩
          have k37 := q34.2.2.1
          refine ⟨k37, ?_⟩
          refine ⟨k37, ?_⟩
          refine ⟨k37, ?_⟩
          refine gj_Do.mono q34.2.2.2 (fun v_ SI34 SJ34 h_ => ?_)
          obtain ⟨r33, rfl, q38⟩ := h_
          show gj_Goes E om0 mt_257 133 [some (.ref 81), some (.int x1), some (.int x2), some (.long x3), none, some (.long x5), none, some (.int x7), some (.int r1), some (.int r21), some (.int r31), none, none] [(.long r33)] SI34 SJ34 (QL Q)
          refine gj_goq gj_clT ok_257 [8, 29, 47, 65, 133, 136, 144] ?_
          show gj_Do E om0 (gj_mt 158) [(.long r33)] SI34 SJ34 _
          refine gj_Do.mono q38 (fun v_ SI36 SJ36 h_ => ?_)
          obtain ⟨r35, rfl, q39⟩ := h_
          show gj_Goes E om0 mt_257 136 [some (.ref 81), some (.int x1), some (.int x2), some (.long x3), none, some (.long x5), none, some (.int x7), some (.int r1), some (.int r21), some (.int r31), none, none] [(.long r35)] SI36 SJ36 (QL Q)
          refine gj_goq gj_clT ok_257 [8, 29, 47, 65, 133, 136, 144] ?_
          show gj_Do E om0 (gj_mt 161) [(.long x3), (.long r35)] SI36 SJ36 _
          refine gj_Do.mono q39 (fun v_ SI38 SJ38 h_ => ?_)
          obtain ⟨r37, rfl, q40⟩ := h_
          show gj_Goes E om0 mt_257 144 [some (.ref 81), some (.int x1), some (.int x2), some (.long x3), none, some (.long x5), none, some (.int x7), some (.int r1), some (.int r21), some (.int r31), some (.long r35), none] [(.long r37)] SI38 SJ38 (QL Q)
          refine gj_goq gj_clT ok_257 [8, 29, 47, 65, 133, 136, 144] ?_
          show (¬ x7 = x2 → gj_Goes E om0 mt_257 155 [some (.ref 81), some (.int x1), some (.int x2), some (.long r37), none, some (.long x5), none, some (.int x7), some (.int r1), some (.int r21), some (.int r31), some (.long r35), none] [] SI38 SJ38 (QL Q)) ∧ (x7 = x2 → gj_Goes E om0 mt_257 8 [some (.ref 81), some (.int x1), some (.int x2), some (.long r37), none, some (.long r35), none, some (.int (x7 + (i3 1))), some (.int r1), some (.int r21), some (.int r31), some (.long r35), none] [] SI38 SJ38 (QL Q))
          refine ⟨fun c41 => ?_, fun c41 => ?_⟩
          · refine gj_goq gj_clT ok_257 [8, 29, 47, 65, 133, 136, 144] ?_
            show gj_Goes E om0 mt_257 8 [some (.ref 81), some (.int x1), some (.int x2), some (.long r37), none, some (.long x5), none, some (.int (x7 + (i3 1))), some (.int r1), some (.int r21), some (.int r31), some (.long r35), none] [] SI38 SJ38 (QL Q)
            exact gj_fh (q40.1 c41) (And.intro (Or.inr rfl) (And.intro (Or.inr rfl) (And.intro (Or.inr rfl) (And.intro (Or.inr rfl) (And.intro (Or.inl rfl) (And.intro (Or.inr rfl) (And.intro (Or.inl rfl) (And.intro (Or.inr rfl) (And.intro (Or.inl rfl) (And.intro (Or.inl rfl) (And.intro (Or.inl rfl) (And.intro (Or.inl rfl) (And.intro (Or.inl rfl) trivial)))))))))))))
          · exact gj_fh (q40.2 c41) (And.intro (Or.inr rfl) (And.intro (Or.inr rfl) (And.intro (Or.inr rfl) (And.intro (Or.inr rfl) (And.intro (Or.inl rfl) (And.intro (Or.inr rfl) (And.intro (Or.inl rfl) (And.intro (Or.inr rfl) (And.intro (Or.inl rfl) (And.intro (Or.inl rfl) (And.intro (Or.inl rfl) (And.intro (Or.inl rfl) (And.intro (Or.inl rfl) trivial)))))))))))))
    · refine gj_goq gj_clT ok_257 [8, 29, 47, 65, 133, 136, 144] ?_
      show gj_Do E om0 (gj_mt 256) [(.ref 81), (.int x1), (.int (i3 1))] SI SJ _
      refine gj_Do.mono ((h.2 c1).2 c3) (fun v_ SI40 SJ40 h_ => ?_)
      obtain ⟨r39, rfl, q42⟩ := h_
      show gj_Goes E om0 mt_257 29 [some (.ref 81), some (.int x1), some (.int x2), some (.long x3), none, some (.long x5), none, some (.int x7), none, none, none, none, none] [(.int r39)] SI40 SJ40 (QL Q)
      refine gj_goq gj_clT ok_257 [8, 29, 47, 65, 133, 136, 144] ?_
      show ((i3 2) ≤ x7 → gj_Goes E om0 mt_257 43 [some (.ref 81), some (.int x1), some (.int x2), some (.long x3), none, some (.long x5), none, some (.int x7), some (.int r39), none, none, none, none] [(.int x1), (.ref 81)] SI40 SJ40 (QL Q)) ∧ (¬ (i3 2) ≤ x7 → gj_Goes E om0 mt_257 44 [some (.ref 81), some (.int x1), some (.int x2), some (.long x3), none, some (.long x5), none, some (.int x7), some (.int r39), none, none, none, none] [(.int (i3 2)), (.int x1), (.ref 81)] SI40 SJ40 (QL Q))
      refine ⟨fun c43 => ?_, fun c43 => ?_⟩
      · refine gj_goq gj_clT ok_257 [8, 29, 47, 65, 133, 136, 144] ?_
        show gj_Do E om0 (gj_mt 256) [(.ref 81), (.int x1), (.int (i3 1))] SI40 SJ40 _
        refine gj_Do.mono (q42.1 c43) (fun v_ SI42 SJ42 h_ => ?_)
        obtain ⟨r41, rfl, q44⟩ := h_
        show gj_Goes E om0 mt_257 47 [some (.ref 81), some (.int x1), some (.int x2), some (.long x3), none, some (.long x5), none, some (.int x7), some (.int r39), none, none, none, none] [(.int r41)] SI42 SJ42 (QL Q)
        refine gj_goq gj_clT ok_257 [8, 29, 47, 65, 133, 136, 144] ?_
        show ((i3 3) ≤ x7 → gj_Goes E om0 mt_257 61 [some (.ref 81), some (.int x1), some (.int x2), some (.long x3), none, some (.long x5), none, some (.int x7), some (.int r39), some (.int r41), none, none, none] [(.int x1), (.ref 81)] SI42 SJ42 (QL Q)) ∧ (¬ (i3 3) ≤ x7 → gj_Goes E om0 mt_257 62 [some (.ref 81), some (.int x1), some (.int x2), some (.long x3), none, some (.long x5), none, some (.int x7), some (.int r39), some (.int r41), none, none, none] [(.int (i3 3)), (.int x1), (.ref 81)] SI42 SJ42 (QL Q))
        refine ⟨fun c45 => ?_, fun c45 => ?_⟩
        · refine gj_goq gj_clT ok_257 [8, 29, 47, 65, 133, 136, 144] ?_
          show gj_Do E om0 (gj_mt 256) [(.ref 81), (.int x1), (.int (i3 2))] SI42 SJ42 _
          refine gj_Do.mono (q44.1 c45) (fun v_ SI44 SJ44 h_ => ?_)
          obtain ⟨r43, rfl, q46⟩ := h_
          show gj_Goes E om0 mt_257 65 [some (.ref 81), some (.int x1), some (.int x2), some (.long x3), none, some (.long x5), none, some (.int x7), some (.int r39), some (.int r41), none, none, none] [(.int r43)] SI44 SJ44 (QL Q)
          refine gj_goq gj_clT ok_257 [8, 29, 47, 65, 133, 136, 144] ?_
          show vp_in r39 16 ∧ (vp_in r39 16 ∧ (vp_in r39 16 ∧ (vp_in r41 16 ∧ (vp_in r41 16 ∧ (vp_in r41 16 ∧ (vp_in r43 16 ∧ (vp_in r43 16 ∧ (vp_in r43 16 ∧ (gj_Do E om0 (gj_mt 221) [(.long (SJ44 85 (gj_n r39))), (.long (SJ44 86 (gj_n r39))), (.long (SJ44 87 (gj_n r39))), (.long (SJ44 85 (gj_n r41))), (.long (SJ44 86 (gj_n r41))), (.long (SJ44 87 (gj_n r41))), (.long (SJ44 85 (gj_n r43))), (.long (SJ44 86 (gj_n r43))), (.long (SJ44 87 (gj_n r43)))] SI44 SJ44 _)))))))))
          have k47 := q46.1
          refine ⟨k47, ?_⟩
          refine ⟨k47, ?_⟩
          refine ⟨k47, ?_⟩
          have k48 := q46.2.1
          refine ⟨k48, ?_⟩
          refine ⟨k48, ?_⟩
          refine ⟨k48, ?_⟩
          have k49 := q46.2.2.1
          refine ⟨k49, ?_⟩
          refine ⟨k49, ?_⟩
          refine ⟨k49, ?_⟩
          refine gj_Do.mono q46.2.2.2 (fun v_ SI46 SJ46 h_ => ?_)
          obtain ⟨r45, rfl, q50⟩ := h_
          show gj_Goes E om0 mt_257 133 [some (.ref 81), some (.int x1), some (.int x2), some (.long x3), none, some (.long x5), none, some (.int x7), some (.int r39), some (.int r41), some (.int r43), none, none] [(.long r45)] SI46 SJ46 (QL Q)
          refine gj_goq gj_clT ok_257 [8, 29, 47, 65, 133, 136, 144] ?_
          show gj_Do E om0 (gj_mt 158) [(.long r45)] SI46 SJ46 _
          refine gj_Do.mono q50 (fun v_ SI48 SJ48 h_ => ?_)
          obtain ⟨r47, rfl, q51⟩ := h_
          show gj_Goes E om0 mt_257 136 [some (.ref 81), some (.int x1), some (.int x2), some (.long x3), none, some (.long x5), none, some (.int x7), some (.int r39), some (.int r41), some (.int r43), none, none] [(.long r47)] SI48 SJ48 (QL Q)
          refine gj_goq gj_clT ok_257 [8, 29, 47, 65, 133, 136, 144] ?_
          show gj_Do E om0 (gj_mt 161) [(.long x3), (.long r47)] SI48 SJ48 _
          refine gj_Do.mono q51 (fun v_ SI50 SJ50 h_ => ?_)
          obtain ⟨r49, rfl, q52⟩ := h_
          show gj_Goes E om0 mt_257 144 [some (.ref 81), some (.int x1), some (.int x2), some (.long x3), none, some (.long x5), none, some (.int x7), some (.int r39), some (.int r41), some (.int r43), some (.long r47), none] [(.long r49)] SI50 SJ50 (QL Q)
          refine gj_goq gj_clT ok_257 [8, 29, 47, 65, 133, 136, 144] ?_
          show (¬ x7 = x2 → gj_Goes E om0 mt_257 155 [some (.ref 81), some (.int x1), some (.int x2), some (.long r49), none, some (.long x5), none, some (.int x7), some (.int r39), some (.int r41), some (.int r43), some (.long r47), none] [] SI50 SJ50 (QL Q)) ∧ (x7 = x2 → gj_Goes E om0 mt_257 8 [some (.ref 81), some (.int x1), some (.int x2), some (.long r49), none, some (.long r47), none, some (.int (x7 + (i3 1))), some (.int r39), some (.int r41), some (.int r43), some (.long r47), none] [] SI50 SJ50 (QL Q))
          refine ⟨fun c53 => ?_, fun c53 => ?_⟩
          · refine gj_goq gj_clT ok_257 [8, 29, 47, 65, 133, 136, 144] ?_
            show gj_Goes E om0 mt_257 8 [some (.ref 81), some (.int x1), some (.int x2), some (.long r49), none, some (.long x5), none, some (.int (x7 + (i3 1))), some (.int r39), some (.int r41), some (.int r43), some (.long r47), none] [] SI50 SJ50 (QL Q)
            exact gj_fh (q52.1 c53) (And.intro (Or.inr rfl) (And.intro (Or.inr rfl) (And.intro (Or.inr rfl) (And.intro (Or.inr rfl) (And.intro (Or.inl rfl) (And.intro (Or.inr rfl) (And.intro (Or.inl rfl) (And.intro (Or.inr rfl) (And.intro (Or.inl rfl) (And.intro (Or.inl rfl) (And.intro (Or.inl rfl) (And.intro (Or.inl rfl) (And.intro (Or.inl rfl) trivial)))))))))))))
          · exact gj_fh (q52.2 c53) (And.intro (Or.inr rfl) (And.intro (Or.inr rfl) (And.intro (Or.inr rfl) (And.intro (Or.inr rfl) (And.intro (Or.inl rfl) (And.intro (Or.inr rfl) (And.intro (Or.inl rfl) (And.intro (Or.inr rfl) (And.intro (Or.inl rfl) (And.intro (Or.inl rfl) (And.intro (Or.inl rfl) (And.intro (Or.inl rfl) (And.intro (Or.inl rfl) trivial)))))))))))))
        · refine gj_goq gj_clT ok_257 [8, 29, 47, 65, 133, 136, 144] ?_
          show gj_Do E om0 (gj_mt 256) [(.ref 81), (.int x1), (.int (i3 3))] SI42 SJ42 _
          refine gj_Do.mono (q44.2 c45) (fun v_ SI52 SJ52 h_ => ?_)
          obtain ⟨r51, rfl, q54⟩ := h_
          show gj_Goes E om0 mt_257 65 [some (.ref 81), some (.int x1), some (.int x2), some (.long x3), none, some (.long x5), none, some (.int x7), some (.int r39), some (.int r41), none, none, none] [(.int r51)] SI52 SJ52 (QL Q)
          refine gj_goq gj_clT ok_257 [8, 29, 47, 65, 133, 136, 144] ?_
          show vp_in r39 16 ∧ (vp_in r39 16 ∧ (vp_in r39 16 ∧ (vp_in r41 16 ∧ (vp_in r41 16 ∧ (vp_in r41 16 ∧ (vp_in r51 16 ∧ (vp_in r51 16 ∧ (vp_in r51 16 ∧ (gj_Do E om0 (gj_mt 221) [(.long (SJ52 85 (gj_n r39))), (.long (SJ52 86 (gj_n r39))), (.long (SJ52 87 (gj_n r39))), (.long (SJ52 85 (gj_n r41))), (.long (SJ52 86 (gj_n r41))), (.long (SJ52 87 (gj_n r41))), (.long (SJ52 85 (gj_n r51))), (.long (SJ52 86 (gj_n r51))), (.long (SJ52 87 (gj_n r51)))] SI52 SJ52 _)))))))))
          have k55 := q54.1
          refine ⟨k55, ?_⟩
          refine ⟨k55, ?_⟩
          refine ⟨k55, ?_⟩
          have k56 := q54.2.1
          refine ⟨k56, ?_⟩
          refine ⟨k56, ?_⟩
          refine ⟨k56, ?_⟩
          have k57 := q54.2.2.1
          refine ⟨k57, ?_⟩
          refine ⟨k57, ?_⟩
          refine ⟨k57, ?_⟩
          refine gj_Do.mono q54.2.2.2 (fun v_ SI54 SJ54 h_ => ?_)
          obtain ⟨r53, rfl, q58⟩ := h_
          show gj_Goes E om0 mt_257 133 [some (.ref 81), some (.int x1), some (.int x2), some (.long x3), none, some (.long x5), none, some (.int x7), some (.int r39), some (.int r41), some (.int r51), none, none] [(.long r53)] SI54 SJ54 (QL Q)
          refine gj_goq gj_clT ok_257 [8, 29, 47, 65, 133, 136, 144] ?_
          show gj_Do E om0 (gj_mt 158) [(.long r53)] SI54 SJ54 _
          refine gj_Do.mono q58 (fun v_ SI56 SJ56 h_ => ?_)
          obtain ⟨r55, rfl, q59⟩ := h_
          show gj_Goes E om0 mt_257 136 [some (.ref 81), some (.int x1), some (.int x2), some (.long x3), none, some (.long x5), none, some (.int x7), some (.int r39), some (.int r41), some (.int r51), none, none] [(.long r55)] SI56 SJ56 (QL Q)
          refine gj_goq gj_clT ok_257 [8, 29, 47, 65, 133, 136, 144] ?_
          show gj_Do E om0 (gj_mt 161) [(.long x3), (.long r55)] SI56 SJ56 _
          refine gj_Do.mono q59 (fun v_ SI58 SJ58 h_ => ?_)
          obtain ⟨r57, rfl, q60⟩ := h_
          show gj_Goes E om0 mt_257 144 [some (.ref 81), some (.int x1), some (.int x2), some (.long x3), none, some (.long x5), none, some (.int x7), some (.int r39), some (.int r41), some (.int r51), some (.long r55), none] [(.long r57)] SI58 SJ58 (QL Q)
          refine gj_goq gj_clT ok_257 [8, 29, 47, 65, 133, 136, 144] ?_
          show (¬ x7 = x2 → gj_Goes E om0 mt_257 155 [some (.ref 81), some (.int x1), some (.int x2), some (.long r57), none, some (.long x5), none, some (.int x7), some (.int r39), some (.int r41), some (.int r51), some (.long r55), none] [] SI58 SJ58 (QL Q)) ∧ (x7 = x2 → gj_Goes E om0 mt_257 8 [some (.ref 81), some (.int x1), some (.int x2), some (.long r57), none, some (.long r55), none, some (.int (x7 + (i3 1))), some (.int r39), some (.int r41), some (.int r51), some (.long r55), none] [] SI58 SJ58 (QL Q))
          refine ⟨fun c61 => ?_, fun c61 => ?_⟩
          · refine gj_goq gj_clT ok_257 [8, 29, 47, 65, 133, 136, 144] ?_
            show gj_Goes E om0 mt_257 8 [some (.ref 81), some (.int x1), some (.int x2), some (.long r57), none, some (.long x5), none, some (.int (x7 + (i3 1))), some (.int r39), some (.int r41), some (.int r51), some (.long r55), none] [] SI58 SJ58 (QL Q)
            exact gj_fh (q60.1 c61) (And.intro (Or.inr rfl) (And.intro (Or.inr rfl) (And.intro (Or.inr rfl) (And.intro (Or.inr rfl) (And.intro (Or.inl rfl) (And.intro (Or.inr rfl) (And.intro (Or.inl rfl) (And.intro (Or.inr rfl) (And.intro (Or.inl rfl) (And.intro (Or.inl rfl) (And.intro (Or.inl rfl) (And.intro (Or.inl rfl) (And.intro (Or.inl rfl) trivial)))))))))))))
          · exact gj_fh (q60.2 c61) (And.intro (Or.inr rfl) (And.intro (Or.inr rfl) (And.intro (Or.inr rfl) (And.intro (Or.inr rfl) (And.intro (Or.inl rfl) (And.intro (Or.inr rfl) (And.intro (Or.inl rfl) (And.intro (Or.inr rfl) (And.intro (Or.inl rfl) (And.intro (Or.inl rfl) (And.intro (Or.inl rfl) (And.intro (Or.inl rfl) (And.intro (Or.inl rfl) trivial)))))))))))))
      · refine gj_goq gj_clT ok_257 [8, 29, 47, 65, 133, 136, 144] ?_
        show gj_Do E om0 (gj_mt 256) [(.ref 81), (.int x1), (.int (i3 2))] SI40 SJ40 _
        refine gj_Do.mono (q42.2 c43) (fun v_ SI60 SJ60 h_ => ?_)
        obtain ⟨r59, rfl, q62⟩ := h_
        show gj_Goes E om0 mt_257 47 [some (.ref 81), some (.int x1), some (.int x2), some (.long x3), none, some (.long x5), none, some (.int x7), some (.int r39), none, none, none, none] [(.int r59)] SI60 SJ60 (QL Q)
        refine gj_goq gj_clT ok_257 [8, 29, 47, 65, 133, 136, 144] ?_
        show ((i3 3) ≤ x7 → gj_Goes E om0 mt_257 61 [some (.ref 81), some (.int x1), some (.int x2), some (.long x3), none, some (.long x5), none, some (.int x7), some (.int r39), some (.int r59), none, none, none] [(.int x1), (.ref 81)] SI60 SJ60 (QL Q)) ∧ (¬ (i3 3) ≤ x7 → gj_Goes E om0 mt_257 62 [some (.ref 81), some (.int x1), some (.int x2), some (.long x3), none, some (.long x5), none, some (.int x7), some (.int r39), some (.int r59), none, none, none] [(.int (i3 3)), (.int x1), (.ref 81)] SI60 SJ60 (QL Q))
        refine ⟨fun c63 => ?_, fun c63 => ?_⟩
        · refine gj_goq gj_clT ok_257 [8, 29, 47, 65, 133, 136, 144] ?_
          show gj_Do E om0 (gj_mt 256) [(.ref 81), (.int x1), (.int (i3 2))] SI60 SJ60 _
          refine gj_Do.mono (q62.1 c63) (fun v_ SI62 SJ62 h_ => ?_)
          obtain ⟨r61, rfl, q64⟩ := h_
          show gj_Goes E om0 mt_257 65 [some (.ref 81), some (.int x1), some (.int x2), some (.long x3), none, some (.long x5), none, some (.int x7), some (.int r39), some (.int r59), none, none, none] [(.int r61)] SI62 SJ62 (QL Q)
          refine gj_goq gj_clT ok_257 [8, 29, 47, 65, 133, 136, 144] ?_
          show vp_in r39 16 ∧ (vp_in r39 16 ∧ (vp_in r39 16 ∧ (vp_in r59 16 ∧ (vp_in r59 16 ∧ (vp_in r59 16 ∧ (vp_in r61 16 ∧ (vp_in r61 16 ∧ (vp_in r61 16 ∧ (gj_Do E om0 (gj_mt 221) [(.long (SJ62 85 (gj_n r39))), (.long (SJ62 86 (gj_n r39))), (.long (SJ62 87 (gj_n r39))), (.long (SJ62 85 (gj_n r59))), (.long (SJ62 86 (gj_n r59))), (.long (SJ62 87 (gj_n r59))), (.long (SJ62 85 (gj_n r61))), (.long (SJ62 86 (gj_n r61))), (.long (SJ62 87 (gj_n r61)))] SI62 SJ62 _)))))))))
          have k65 := q64.1
          refine ⟨k65, ?_⟩
          refine ⟨k65, ?_⟩
          refine ⟨k65, ?_⟩
          have k66 := q64.2.1
          refine ⟨k66, ?_⟩
          refine ⟨k66, ?_⟩
          refine ⟨k66, ?_⟩
          have k67 := q64.2.2.1
          refine ⟨k67, ?_⟩
          refine ⟨k67, ?_⟩
          refine ⟨k67, ?_⟩
          refine gj_Do.mono q64.2.2.2 (fun v_ SI64 SJ64 h_ => ?_)
          obtain ⟨r63, rfl, q68⟩ := h_
          show gj_Goes E om0 mt_257 133 [some (.ref 81), some (.int x1), some (.int x2), some (.long x3), none, some (.long x5), none, some (.int x7), some (.int r39), some (.int r59), some (.int r61), none, none] [(.long r63)] SI64 SJ64 (QL Q)
          refine gj_goq gj_clT ok_257 [8, 29, 47, 65, 133, 136, 144] ?_
          show gj_Do E om0 (gj_mt 158) [(.long r63)] SI64 SJ64 _
          refine gj_Do.mono q68 (fun v_ SI66 SJ66 h_ => ?_)
          obtain ⟨r65, rfl, q69⟩ := h_
          show gj_Goes E om0 mt_257 136 [some (.ref 81), some (.int x1), some (.int x2), some (.long x3), none, some (.long x5), none, some (.int x7), some (.int r39), some (.int r59), some (.int r61), none, none] [(.long r65)] SI66 SJ66 (QL Q)
          refine gj_goq gj_clT ok_257 [8, 29, 47, 65, 133, 136, 144] ?_
          show gj_Do E om0 (gj_mt 161) [(.long x3), (.long r65)] SI66 SJ66 _
          refine gj_Do.mono q69 (fun v_ SI68 SJ68 h_ => ?_)
          obtain ⟨r67, rfl, q70⟩ := h_
          show gj_Goes E om0 mt_257 144 [some (.ref 81), some (.int x1), some (.int x2), some (.long x3), none, some (.long x5), none, some (.int x7), some (.int r39), some (.int r59), some (.int r61), some (.long r65), none] [(.long r67)] SI68 SJ68 (QL Q)
          refine gj_goq gj_clT ok_257 [8, 29, 47, 65, 133, 136, 144] ?_
          show (¬ x7 = x2 → gj_Goes E om0 mt_257 155 [some (.ref 81), some (.int x1), some (.int x2), some (.long r67), none, some (.long x5), none, some (.int x7), some (.int r39), some (.int r59), some (.int r61), some (.long r65), none] [] SI68 SJ68 (QL Q)) ∧ (x7 = x2 → gj_Goes E om0 mt_257 8 [some (.ref 81), some (.int x1), some (.int x2), some (.long r67), none, some (.long r65), none, some (.int (x7 + (i3 1))), some (.int r39), some (.int r59), some (.int r61), some (.long r65), none] [] SI68 SJ68 (QL Q))
          refine ⟨fun c71 => ?_, fun c71 => ?_⟩
          · refine gj_goq gj_clT ok_257 [8, 29, 47, 65, 133, 136, 144] ?_
            show gj_Goes E om0 mt_257 8 [some (.ref 81), some (.int x1), some (.int x2), some (.long r67), none, some (.long x5), none, some (.int (x7 + (i3 1))), some (.int r39), some (.int r59), some (.int r61), some (.long r65), none] [] SI68 SJ68 (QL Q)
            exact gj_fh (q70.1 c71) (And.intro (Or.inr rfl) (And.intro (Or.inr rfl) (And.intro (Or.inr rfl) (And.intro (Or.inr rfl) (And.intro (Or.inl rfl) (And.intro (Or.inr rfl) (And.intro (Or.inl rfl) (And.intro (Or.inr rfl) (And.intro (Or.inl rfl) (And.intro (Or.inl rfl) (And.intro (Or.inl rfl) (And.intro (Or.inl rfl) (And.intro (Or.inl rfl) trivial)))))))))))))
          · exact gj_fh (q70.2 c71) (And.intro (Or.inr rfl) (And.intro (Or.inr rfl) (And.intro (Or.inr rfl) (And.intro (Or.inr rfl) (And.intro (Or.inl rfl) (And.intro (Or.inr rfl) (And.intro (Or.inl rfl) (And.intro (Or.inr rfl) (And.intro (Or.inl rfl) (And.intro (Or.inl rfl) (And.intro (Or.inl rfl) (And.intro (Or.inl rfl) (And.intro (Or.inl rfl) trivial)))))))))))))
        · refine gj_goq gj_clT ok_257 [8, 29, 47, 65, 133, 136, 144] ?_
          show gj_Do E om0 (gj_mt 256) [(.ref 81), (.int x1), (.int (i3 3))] SI60 SJ60 _
          refine gj_Do.mono (q62.2 c63) (fun v_ SI70 SJ70 h_ => ?_)
          obtain ⟨r69, rfl, q72⟩ := h_
          show gj_Goes E om0 mt_257 65 [some (.ref 81), some (.int x1), some (.int x2), some (.long x3), none, some (.long x5), none, some (.int x7), some (.int r39), some (.int r59), none, none, none] [(.int r69)] SI70 SJ70 (QL Q)
          refine gj_goq gj_clT ok_257 [8, 29, 47, 65, 133, 136, 144] ?_
          show vp_in r39 16 ∧ (vp_in r39 16 ∧ (vp_in r39 16 ∧ (vp_in r59 16 ∧ (vp_in r59 16 ∧ (vp_in r59 16 ∧ (vp_in r69 16 ∧ (vp_in r69 16 ∧ (vp_in r69 16 ∧ (gj_Do E om0 (gj_mt 221) [(.long (SJ70 85 (gj_n r39))), (.long (SJ70 86 (gj_n r39))), (.long (SJ70 87 (gj_n r39))), (.long (SJ70 85 (gj_n r59))), (.long (SJ70 86 (gj_n r59))), (.long (SJ70 87 (gj_n r59))), (.long (SJ70 85 (gj_n r69))), (.long (SJ70 86 (gj_n r69))), (.long (SJ70 87 (gj_n r69)))] SI70 SJ70 _)))))))))
          have k73 := q72.1
          refine ⟨k73, ?_⟩
          refine ⟨k73, ?_⟩
          refine ⟨k73, ?_⟩
          have k74 := q72.2.1
          refine ⟨k74, ?_⟩
          refine ⟨k74, ?_⟩
          refine ⟨k74, ?_⟩
          have k75 := q72.2.2.1
          refine ⟨k75, ?_⟩
          refine ⟨k75, ?_⟩
          refine ⟨k75, ?_⟩
          refine gj_Do.mono q72.2.2.2 (fun v_ SI72 SJ72 h_ => ?_)
          obtain ⟨r71, rfl, q76⟩ := h_
          show gj_Goes E om0 mt_257 133 [some (.ref 81), some (.int x1), some (.int x2), some (.long x3), none, some (.long x5), none, some (.int x7), some (.int r39), some (.int r59), some (.int r69), none, none] [(.long r71)] SI72 SJ72 (QL Q)
          refine gj_goq gj_clT ok_257 [8, 29, 47, 65, 133, 136, 144] ?_
          show gj_Do E om0 (gj_mt 158) [(.long r71)] SI72 SJ72 _
          refine gj_Do.mono q76 (fun v_ SI74 SJ74 h_ => ?_)
          obtain ⟨r73, rfl, q77⟩ := h_
          show gj_Goes E om0 mt_257 136 [some (.ref 81), some (.int x1), some (.int x2), some (.long x3), none, some (.long x5), none, some (.int x7), some (.int r39), some (.int r59), some (.int r69), none, none] [(.long r73)] SI74 SJ74 (QL Q)
          refine gj_goq gj_clT ok_257 [8, 29, 47, 65, 133, 136, 144] ?_
          show gj_Do E om0 (gj_mt 161) [(.long x3), (.long r73)] SI74 SJ74 _
          refine gj_Do.mono q77 (fun v_ SI76 SJ76 h_ => ?_)
          obtain ⟨r75, rfl, q78⟩ := h_
          show gj_Goes E om0 mt_257 144 [some (.ref 81), some (.int x1), some (.int x2), some (.long x3), none, some (.long x5), none, some (.int x7), some (.int r39), some (.int r59), some (.int r69), some (.long r73), none] [(.long r75)] SI76 SJ76 (QL Q)
          refine gj_goq gj_clT ok_257 [8, 29, 47, 65, 133, 136, 144] ?_
          show (¬ x7 = x2 → gj_Goes E om0 mt_257 155 [some (.ref 81), some (.int x1), some (.int x2), some (.long r75), none, some (.long x5), none, some (.int x7), some (.int r39), some (.int r59), some (.int r69), some (.long r73), none] [] SI76 SJ76 (QL Q)) ∧ (x7 = x2 → gj_Goes E om0 mt_257 8 [some (.ref 81), some (.int x1), some (.int x2), some (.long r75), none, some (.long r73), none, some (.int (x7 + (i3 1))), some (.int r39), some (.int r59), some (.int r69), some (.long r73), none] [] SI76 SJ76 (QL Q))
          refine ⟨fun c79 => ?_, fun c79 => ?_⟩
          · refine gj_goq gj_clT ok_257 [8, 29, 47, 65, 133, 136, 144] ?_
            show gj_Goes E om0 mt_257 8 [some (.ref 81), some (.int x1), some (.int x2), some (.long r75), none, some (.long x5), none, some (.int (x7 + (i3 1))), some (.int r39), some (.int r59), some (.int r69), some (.long r73), none] [] SI76 SJ76 (QL Q)
            exact gj_fh (q78.1 c79) (And.intro (Or.inr rfl) (And.intro (Or.inr rfl) (And.intro (Or.inr rfl) (And.intro (Or.inr rfl) (And.intro (Or.inl rfl) (And.intro (Or.inr rfl) (And.intro (Or.inl rfl) (And.intro (Or.inr rfl) (And.intro (Or.inl rfl) (And.intro (Or.inl rfl) (And.intro (Or.inl rfl) (And.intro (Or.inl rfl) (And.intro (Or.inl rfl) trivial)))))))))))))
          · exact gj_fh (q78.2 c79) (And.intro (Or.inr rfl) (And.intro (Or.inr rfl) (And.intro (Or.inr rfl) (And.intro (Or.inr rfl) (And.intro (Or.inl rfl) (And.intro (Or.inr rfl) (And.intro (Or.inl rfl) (And.intro (Or.inr rfl) (And.intro (Or.inl rfl) (And.intro (Or.inl rfl) (And.intro (Or.inl rfl) (And.intro (Or.inl rfl) (And.intro (Or.inl rfl) trivial)))))))))))))
set_option maxRecDepth 20000 in
/-- GraspJudgeModel.proof -/
theorem st_258 {E : gj_E} {Q : Int64 → gj_I → gj_J → Prop} (a1 : Int32) (SI : gj_I) (SJ : gj_J) (h : DoI E 155 [(.long (a1).toInt64), (.long (i6 0)), (.long (i6 5))] SI SJ (fun r1 SI2 SJ2 => (r1 = 0 → Q (i6 (-9000000000000000000)) SI2 SJ2) ∧ (¬ r1 = 0 → DoI E 195 [(.ref 81)] SI2 SJ2 (fun r3 SI4 SJ4 => (¬ r3 = 0 → DoI E 255 [(.ref 81)] SI4 SJ4 (fun r5 SI6 SJ6 => ((i3 2) ≤ a1 → DoI E 160 [(.int r5)] SI6 SJ6 (fun r7 SI8 SJ8 => (¬ r7 = (i3 4) → Q (i6 (-2)) SI8 SJ8) ∧ (r7 = (i3 4) → DoL E 257 [(.ref 81), (.int r5), (.int (a1 - (i3 2)))] SI8 SJ8 (fun r9 SI10 SJ10 => Q r9 SI10 SJ10)))) ∧ (¬ (i3 2) ≤ a1 → (¬ a1 = 0 → Q (r5).toInt64 SI6 SJ6) ∧ (a1 = 0 → DoI E 160 [(.int r5)] SI6 SJ6 (fun r11 SI12 SJ12 => Q (r11).toInt64 SI12 SJ12))))) ∧ (r3 = 0 → Q (i6 (-9000000000000000000)) SI4 SJ4))))) : DoL E 258 [(.ref 81), (.int a1)] SI SJ Q := by
  refine gj_start (M := mt_258) ok_258 (Nat.le_of_ble_eq_true rfl) ?_
  refine gj_goq gj_clT ok_258 [9, 16, 27, 41, 52, 64] ?_
  show gj_Do E om0 (gj_mt 155) [(.long (a1).toInt64), (.long (i6 0)), (.long (i6 5))] SI SJ _
  refine gj_Do.mono h (fun v_ SI2 SJ2 h_ => ?_)
  obtain ⟨r1, rfl, q1⟩ := h_
  show gj_Goes E om0 mt_258 9 [some (.ref 81), some (.int a1), none] [(.int r1)] SI2 SJ2 (QL Q)
  refine gj_goq gj_clT ok_258 [9, 16, 27, 41, 52, 64] ?_
  show (r1 = 0 → gj_Goes E om0 mt_258 19 [some (.ref 81), some (.int a1), none] [] SI2 SJ2 (QL Q)) ∧ (¬ r1 = 0 → gj_Do E om0 (gj_mt 195) [(.ref 81)] SI2 SJ2 _)
  refine ⟨fun c2 => ?_, fun c2 => ?_⟩
  · refine gj_goq gj_clT ok_258 [9, 16, 27, 41, 52, 64] ?_
    show QL Q (some (.long (i6 (-9000000000000000000)))) SI2 SJ2
    exact ⟨_, rfl, (q1.1 c2)⟩
  · refine gj_Do.mono (q1.2 c2) (fun v_ SI4 SJ4 h_ => ?_)
    obtain ⟨r3, rfl, q3⟩ := h_
    show gj_Goes E om0 mt_258 16 [some (.ref 81), some (.int a1), none] [(.int r3)] SI4 SJ4 (QL Q)
    refine gj_goq gj_clT ok_258 [9, 16, 27, 41, 52, 64] ?_
    show (¬ r3 = 0 → gj_Goes E om0 mt_258 23 [some (.ref 81), some (.int a1), none] [] SI4 SJ4 (QL Q)) ∧ (r3 = 0 → QL Q (some (.long (i6 (-9000000000000000000)))) SI4 SJ4)
    refine ⟨fun c4 => ?_, fun c4 => ?_⟩
    · refine gj_goq gj_clT ok_258 [9, 16, 27, 41, 52, 64] ?_
      show gj_Do E om0 (gj_mt 255) [(.ref 81)] SI4 SJ4 _
      refine gj_Do.mono (q3.1 c4) (fun v_ SI6 SJ6 h_ => ?_)
      obtain ⟨r5, rfl, q5⟩ := h_
      show gj_Goes E om0 mt_258 27 [some (.ref 81), some (.int a1), none] [(.int r5)] SI6 SJ6 (QL Q)
      refine gj_goq gj_clT ok_258 [9, 16, 27, 41, 52, 64] ?_
      show ((i3 2) ≤ a1 → gj_Goes E om0 mt_258 48 [some (.ref 81), some (.int a1), some (.int r5)] [] SI6 SJ6 (QL Q)) ∧ (¬ (i3 2) ≤ a1 → (¬ a1 = 0 → gj_Goes E om0 mt_258 45 [some (.ref 81), some (.int a1), some (.int r5)] [] SI6 SJ6 (QL Q)) ∧ (a1 = 0 → gj_Do E om0 (gj_mt 160) [(.int r5)] SI6 SJ6 _))
      refine ⟨fun c6 => ?_, fun c6 => ?_⟩
      · refine gj_goq gj_clT ok_258 [9, 16, 27, 41, 52, 64] ?_
        show gj_Do E om0 (gj_mt 160) [(.int r5)] SI6 SJ6 _
        refine gj_Do.mono (q5.1 c6) (fun v_ SI8 SJ8 h_ => ?_)
        obtain ⟨r7, rfl, q7⟩ := h_
        show gj_Goes E om0 mt_258 52 [some (.ref 81), some (.int a1), some (.int r5)] [(.int r7)] SI8 SJ8 (QL Q)
        refine gj_goq gj_clT ok_258 [9, 16, 27, 41, 52, 64] ?_
        show (¬ r7 = (i3 4) → gj_Goes E om0 mt_258 67 [some (.ref 81), some (.int a1), some (.int r5)] [] SI8 SJ8 (QL Q)) ∧ (r7 = (i3 4) → gj_Do E om0 (gj_mt 257) [(.ref 81), (.int r5), (.int (a1 - (i3 2)))] SI8 SJ8 _)
        refine ⟨fun c8 => ?_, fun c8 => ?_⟩
        · refine gj_goq gj_clT ok_258 [9, 16, 27, 41, 52, 64] ?_
          show QL Q (some (.long (i6 (-2)))) SI8 SJ8
          exact ⟨_, rfl, (q7.1 c8)⟩
        · refine gj_Do.mono (q7.2 c8) (fun v_ SI10 SJ10 h_ => ?_)
          obtain ⟨r9, rfl, q9⟩ := h_
          show gj_Goes E om0 mt_258 64 [some (.ref 81), some (.int a1), some (.int r5)] [(.long r9)] SI10 SJ10 (QL Q)
          refine gj_goq gj_clT ok_258 [9, 16, 27, 41, 52, 64] ?_
          show gj_Goes E om0 mt_258 70 [some (.ref 81), some (.int a1), some (.int r5)] [(.long r9)] SI10 SJ10 (QL Q)
          refine gj_goq gj_clT ok_258 [9, 16, 27, 41, 52, 64] ?_
          show QL Q (some (.long r9)) SI10 SJ10
          exact ⟨_, rfl, q9⟩
      · refine ⟨fun c10 => ?_, fun c10 => ?_⟩
        · refine gj_goq gj_clT ok_258 [9, 16, 27, 41, 52, 64] ?_
          show QL Q (some (.long (r5).toInt64)) SI6 SJ6
          exact ⟨_, rfl, ((q5.2 c6).1 c10)⟩
        · refine gj_Do.mono ((q5.2 c6).2 c10) (fun v_ SI12 SJ12 h_ => ?_)
          obtain ⟨r11, rfl, q11⟩ := h_
          show gj_Goes E om0 mt_258 41 [some (.ref 81), some (.int a1), some (.int r5)] [(.int r11)] SI12 SJ12 (QL Q)
          refine gj_goq gj_clT ok_258 [9, 16, 27, 41, 52, 64] ?_
          show gj_Goes E om0 mt_258 47 [some (.ref 81), some (.int a1), some (.int r5)] [(.long (r11).toInt64)] SI12 SJ12 (QL Q)
          refine gj_goq gj_clT ok_258 [9, 16, 27, 41, 52, 64] ?_
          show QL Q (some (.long (r11).toInt64)) SI12 SJ12
          exact ⟨_, rfl, q11⟩
    · exact ⟨_, rfl, (q3.2 c4)⟩
set_option maxRecDepth 20000 in
/-- GraspJudgeModel.fingersAll -/
theorem st_259 {E : gj_E} {Q : Int32 → gj_I → gj_J → Prop} (SI : gj_I) (SJ : gj_J) (h : Q (((i3 1) <<< ((SI 82 17) &&& 31)) - (i3 1)) SI SJ) : DoI E 259 [(.ref 81)] SI SJ Q := by
  refine gj_start (M := mt_259) ok_259 (Nat.le_of_ble_eq_true rfl) ?_
  refine gj_goq gj_clT ok_259 [] ?_
  show vp_in (i3 17) 135 ∧ (QI Q (some (.int (((i3 1) <<< ((SI 82 17) &&& 31)) - (i3 1)))) SI SJ)
  refine ⟨(gj_vin (by decide)), ?_⟩
  exact ⟨_, rfl, h⟩
set_option maxRecDepth 20000 in
/-- GraspJudgeModel.needed -/
theorem st_260 {E : gj_E} {Q : Int32 → gj_I → gj_J → Prop} (SI : gj_I) (SJ : gj_J) (h : DoI E 195 [(.ref 81)] SI SJ (fun r1 SI2 SJ2 => (¬ r1 = 0 → GoI E mt_260 14 [some (.ref 81), some (.int (i3 0)), some (.int (i3 0))] SI2 SJ2 Q) ∧ (r1 = 0 → Q (i3 (-2)) SI2 SJ2))) : DoI E 260 [(.ref 81)] SI SJ Q := by
  refine gj_start (M := mt_260) ok_260 (Nat.le_of_ble_eq_true rfl) ?_
  refine gj_goq gj_clT ok_260 [4, 14, 31, 40, 43] ?_
  show gj_Do E om0 (gj_mt 195) [(.ref 81)] SI SJ _
  refine gj_Do.mono h (fun v_ SI2 SJ2 h_ => ?_)
  obtain ⟨r1, rfl, q1⟩ := h_
  show gj_Goes E om0 mt_260 4 [some (.ref 81), none, none] [(.int r1)] SI2 SJ2 (QI Q)
  refine gj_goq gj_clT ok_260 [4, 14, 31, 40, 43] ?_
  show (¬ r1 = 0 → gj_Goes E om0 mt_260 10 [some (.ref 81), none, none] [] SI2 SJ2 (QI Q)) ∧ (r1 = 0 → QI Q (some (.int (i3 (-2)))) SI2 SJ2)
  refine ⟨fun c2 => ?_, fun c2 => ?_⟩
  · refine gj_goq gj_clT ok_260 [4, 14, 31, 40, 43] ?_
    show gj_Goes E om0 mt_260 14 [some (.ref 81), some (.int (i3 0)), some (.int (i3 0))] [] SI2 SJ2 (QI Q)
    exact (q1.1 c2)
  · exact ⟨_, rfl, (q1.2 c2)⟩
set_option maxRecDepth 20000 in
theorem lp_260_14 {E : gj_E} {Q : Int32 → gj_I → gj_J → Prop} (x1 : Int32) (x2 : Int32) (SI : gj_I) (SJ : gj_J) (h : ((SI 82 17) ≤ x2 → Q x1 SI SJ) ∧ (¬ (SI 82 17) ≤ x2 → DoI E 259 [(.ref 81)] SI SJ (fun r1 SI2 SJ2 => DoI E 186 [(.ref 81), (.int (r1 &&& (((i3 1) <<< (x2 &&& 31)) ^^^ (i3 (-1)))))] SI2 SJ2 (fun r3 SI4 SJ4 => DoI E 194 [(.ref 81), (.int r3)] SI4 SJ4 (fun r5 SI6 SJ6 => (¬ r5 = 0 → GoI E mt_260 14 [some (.ref 81), some (.int x1), some (.int (x2 + (i3 1)))] SI6 SJ6 Q) ∧ (r5 = 0 → GoI E mt_260 14 [some (.ref 81), some (.int (x1 ||| ((i3 1) <<< (x2 &&& 31)))), some (.int (x2 + (i3 1)))] SI6 SJ6 Q)))))) : GoI E mt_260 14 [some (.ref 81), some (.int x1), some (.int x2)] SI SJ Q := by
  refine gj_goq gj_clT ok_260 [4, 14, 31, 40, 43] ?_
  show vp_in (i3 17) 135 ∧ (((SI 82 17) ≤ x2 → gj_Goes E om0 mt_260 58 [some (.ref 81), some (.int x1), some (.int x2)] [] SI SJ (QI Q)) ∧ (¬ (SI 82 17) ≤ x2 → gj_Do E om0 (gj_mt 259) [(.ref 81)] SI SJ _))
  refine ⟨(gj_vin (by decide)), ?_⟩
  refine ⟨fun c1 => ?_, fun c1 => ?_⟩
  · refine gj_goq gj_clT ok_260 [4, 14, 31, 40, 43] ?_
    show QI Q (some (.int x1)) SI SJ
    exact ⟨_, rfl, (h.1 c1)⟩
  · refine gj_Do.mono (h.2 c1) (fun v_ SI2 SJ2 h_ => ?_)
    obtain ⟨r1, rfl, q2⟩ := h_
    show gj_Goes E om0 mt_260 31 [some (.ref 81), some (.int x1), some (.int x2)] [(.int r1), (.ref 81), (.ref 81)] SI2 SJ2 (QI Q)
    refine gj_goq gj_clT ok_260 [4, 14, 31, 40, 43] ?_
    show gj_Do E om0 (gj_mt 186) [(.ref 81), (.int (r1 &&& (((i3 1) <<< (x2 &&& 31)) ^^^ (i3 (-1)))))] SI2 SJ2 _
    refine gj_Do.mono q2 (fun v_ SI4 SJ4 h_ => ?_)
    obtain ⟨r3, rfl, q3⟩ := h_
    show gj_Goes E om0 mt_260 40 [some (.ref 81), some (.int x1), some (.int x2)] [(.int r3), (.ref 81)] SI4 SJ4 (QI Q)
    refine gj_goq gj_clT ok_260 [4, 14, 31, 40, 43] ?_
    show gj_Do E om0 (gj_mt 194) [(.ref 81), (.int r3)] SI4 SJ4 _
    refine gj_Do.mono q3 (fun v_ SI6 SJ6 h_ => ?_)
    obtain ⟨r5, rfl, q4⟩ := h_
    show gj_Goes E om0 mt_260 43 [some (.ref 81), some (.int x1), some (.int x2)] [(.int r5)] SI6 SJ6 (QI Q)
    refine gj_goq gj_clT ok_260 [4, 14, 31, 40, 43] ?_
    show (¬ r5 = 0 → gj_Goes E om0 mt_260 52 [some (.ref 81), some (.int x1), some (.int x2)] [] SI6 SJ6 (QI Q)) ∧ (r5 = 0 → gj_Goes E om0 mt_260 14 [some (.ref 81), some (.int (x1 ||| ((i3 1) <<< (x2 &&& 31)))), some (.int (x2 + (i3 1)))] [] SI6 SJ6 (QI Q))
    refine ⟨fun c5 => ?_, fun c5 => ?_⟩
    · refine gj_goq gj_clT ok_260 [4, 14, 31, 40, 43] ?_
      show gj_Goes E om0 mt_260 14 [some (.ref 81), some (.int x1), some (.int (x2 + (i3 1)))] [] SI6 SJ6 (QI Q)
      exact (q4.1 c5)
    · exact (q4.2 c5)
set_option maxRecDepth 20000 in
/-- GraspJudgeModel.leastSet -/
theorem st_261 {E : gj_E} {Q : Int32 → gj_I → gj_J → Prop} (SI : gj_I) (SJ : gj_J) (h : DoI E 195 [(.ref 81)] SI SJ (fun r1 SI2 SJ2 => (¬ r1 = 0 → GoI E mt_261 12 [some (.ref 81), some (.int (i3 1)), none] SI2 SJ2 Q) ∧ (r1 = 0 → Q (i3 (-2)) SI2 SJ2))) : DoI E 261 [(.ref 81)] SI SJ Q := by
  refine gj_start (M := mt_261) ok_261 (Nat.le_of_ble_eq_true rfl) ?_
  refine gj_goq gj_clT ok_261 [4, 12, 25, 30, 37, 47, 50] ?_
  show gj_Do E om0 (gj_mt 195) [(.ref 81)] SI SJ _
  refine gj_Do.mono h (fun v_ SI2 SJ2 h_ => ?_)
  obtain ⟨r1, rfl, q1⟩ := h_
  show gj_Goes E om0 mt_261 4 [some (.ref 81), none, none] [(.int r1)] SI2 SJ2 (QI Q)
  refine gj_goq gj_clT ok_261 [4, 12, 25, 30, 37, 47, 50] ?_
  show (¬ r1 = 0 → gj_Goes E om0 mt_261 10 [some (.ref 81), none, none] [] SI2 SJ2 (QI Q)) ∧ (r1 = 0 → QI Q (some (.int (i3 (-2)))) SI2 SJ2)
  refine ⟨fun c2 => ?_, fun c2 => ?_⟩
  · refine gj_goq gj_clT ok_261 [4, 12, 25, 30, 37, 47, 50] ?_
    show gj_Goes E om0 mt_261 12 [some (.ref 81), some (.int (i3 1)), none] [] SI2 SJ2 (QI Q)
    exact (q1.1 c2)
  · exact ⟨_, rfl, (q1.2 c2)⟩
set_option maxRecDepth 20000 in
theorem lp_261_12 {E : gj_E} {Q : Int32 → gj_I → gj_J → Prop} (x1 : Int32) (SI : gj_I) (SJ : gj_J) (h : ((SI 82 17) < x1 → Q (i3 (-2)) SI SJ) ∧ (¬ (SI 82 17) < x1 → GoI E mt_261 25 [some (.ref 81), some (.int x1), some (.int (i3 0))] SI SJ Q)) : GoI E mt_261 12 [some (.ref 81), some (.int x1), none] SI SJ Q := by
  refine gj_goq gj_clT ok_261 [4, 12, 25, 30, 37, 47, 50] ?_
  show vp_in (i3 17) 135 ∧ (((SI 82 17) < x1 → gj_Goes E om0 mt_261 67 [some (.ref 81), some (.int x1), none] [] SI SJ (QI Q)) ∧ (¬ (SI 82 17) < x1 → gj_Goes E om0 mt_261 25 [some (.ref 81), some (.int x1), some (.int (i3 0))] [] SI SJ (QI Q)))
  refine ⟨(gj_vin (by decide)), ?_⟩
  refine ⟨fun c1 => ?_, fun c1 => ?_⟩
  · refine gj_goq gj_clT ok_261 [4, 12, 25, 30, 37, 47, 50] ?_
    show QI Q (some (.int (i3 (-2)))) SI SJ
    exact ⟨_, rfl, (h.1 c1)⟩
  · exact (h.2 c1)
set_option maxRecDepth 20000 in
theorem lp_261_25 {E : gj_E} {Q : Int32 → gj_I → gj_J → Prop} (x1 : Int32) (x2 : Int32) (SI : gj_I) (SJ : gj_J) (h : DoI E 259 [(.ref 81)] SI SJ (fun r1 SI2 SJ2 => (r1 < x2 → GoI E mt_261 12 [some (.ref 81), some (.int (x1 + (i3 1))), none] SI2 SJ2 Q) ∧ (¬ r1 < x2 → DoI E 160 [(.int x2)] SI2 SJ2 (fun r3 SI4 SJ4 => (¬ r3 = x1 → GoI E mt_261 25 [some (.ref 81), some (.int x1), some (.int (x2 + (i3 1)))] SI4 SJ4 Q) ∧ (r3 = x1 → DoI E 186 [(.ref 81), (.int x2)] SI4 SJ4 (fun r5 SI6 SJ6 => DoI E 194 [(.ref 81), (.int r5)] SI6 SJ6 (fun r7 SI8 SJ8 => (r7 = 0 → GoI E mt_261 25 [some (.ref 81), some (.int x1), some (.int (x2 + (i3 1)))] SI8 SJ8 Q) ∧ (¬ r7 = 0 → Q x2 SI8 SJ8)))))))) : GoI E mt_261 25 [some (.ref 81), some (.int x1), some (.int x2)] SI SJ Q := by
  refine gj_goq gj_clT ok_261 [4, 12, 25, 30, 37, 47, 50] ?_
  show gj_Do E om0 (gj_mt 259) [(.ref 81)] SI SJ _
  refine gj_Do.mono h (fun v_ SI2 SJ2 h_ => ?_)
  obtain ⟨r1, rfl, q1⟩ := h_
  show gj_Goes E om0 mt_261 30 [some (.ref 81), some (.int x1), some (.int x2)] [(.int r1), (.int x2)] SI2 SJ2 (QI Q)
  refine gj_goq gj_clT ok_261 [4, 12, 25, 30, 37, 47, 50] ?_
  show (r1 < x2 → gj_Goes E om0 mt_261 61 [some (.ref 81), some (.int x1), some (.int x2)] [] SI2 SJ2 (QI Q)) ∧ (¬ r1 < x2 → gj_Do E om0 (gj_mt 160) [(.int x2)] SI2 SJ2 _)
  refine ⟨fun c2 => ?_, fun c2 => ?_⟩
  · refine gj_goq gj_clT ok_261 [4, 12, 25, 30, 37, 47, 50] ?_
    show gj_Goes E om0 mt_261 12 [some (.ref 81), some (.int (x1 + (i3 1))), some (.int x2)] [] SI2 SJ2 (QI Q)
    exact gj_fh (q1.1 c2) (And.intro (Or.inr rfl) (And.intro (Or.inr rfl) (And.intro (Or.inl rfl) trivial)))
  · refine gj_Do.mono (q1.2 c2) (fun v_ SI4 SJ4 h_ => ?_)
    obtain ⟨r3, rfl, q3⟩ := h_
    show gj_Goes E om0 mt_261 37 [some (.ref 81), some (.int x1), some (.int x2)] [(.int r3)] SI4 SJ4 (QI Q)
    refine gj_goq gj_clT ok_261 [4, 12, 25, 30, 37, 47, 50] ?_
    show (¬ r3 = x1 → gj_Goes E om0 mt_261 55 [some (.ref 81), some (.int x1), some (.int x2)] [] SI4 SJ4 (QI Q)) ∧ (r3 = x1 → gj_Do E om0 (gj_mt 186) [(.ref 81), (.int x2)] SI4 SJ4 _)
    refine ⟨fun c4 => ?_, fun c4 => ?_⟩
    · refine gj_goq gj_clT ok_261 [4, 12, 25, 30, 37, 47, 50] ?_
      show gj_Goes E om0 mt_261 25 [some (.ref 81), some (.int x1), some (.int (x2 + (i3 1)))] [] SI4 SJ4 (QI Q)
      exact (q3.1 c4)
    · refine gj_Do.mono (q3.2 c4) (fun v_ SI6 SJ6 h_ => ?_)
      obtain ⟨r5, rfl, q5⟩ := h_
      show gj_Goes E om0 mt_261 47 [some (.ref 81), some (.int x1), some (.int x2)] [(.int r5), (.ref 81)] SI6 SJ6 (QI Q)
      refine gj_goq gj_clT ok_261 [4, 12, 25, 30, 37, 47, 50] ?_
      show gj_Do E om0 (gj_mt 194) [(.ref 81), (.int r5)] SI6 SJ6 _
      refine gj_Do.mono q5 (fun v_ SI8 SJ8 h_ => ?_)
      obtain ⟨r7, rfl, q6⟩ := h_
      show gj_Goes E om0 mt_261 50 [some (.ref 81), some (.int x1), some (.int x2)] [(.int r7)] SI8 SJ8 (QI Q)
      refine gj_goq gj_clT ok_261 [4, 12, 25, 30, 37, 47, 50] ?_
      show (r7 = 0 → gj_Goes E om0 mt_261 55 [some (.ref 81), some (.int x1), some (.int x2)] [] SI8 SJ8 (QI Q)) ∧ (¬ r7 = 0 → QI Q (some (.int x2)) SI8 SJ8)
      refine ⟨fun c7 => ?_, fun c7 => ?_⟩
      · refine gj_goq gj_clT ok_261 [4, 12, 25, 30, 37, 47, 50] ?_
        show gj_Goes E om0 mt_261 25 [some (.ref 81), some (.int x1), some (.int (x2 + (i3 1)))] [] SI8 SJ8 (QI Q)
        exact (q6.1 c7)
      · exact ⟨_, rfl, (q6.2 c7)⟩
set_option maxRecDepth 20000 in
/-- GraspJudgeModel.safe -/
theorem st_262 {E : gj_E} {Q : Int32 → gj_I → gj_J → Prop} (a1 : Int32) (SI : gj_I) (SJ : gj_J) (h : DoI E 155 [(.long (a1).toInt64), (.long (i6 0)), (.long (i6 6))] SI SJ (fun r1 SI2 SJ2 => (¬ r1 = 0 → DoV E 184 [(.ref 81)] SI2 SJ2 (fun SI4 SJ4 => DoI E 156 [(.int a1), (.int (SI4 82 17))] SI4 SJ4 (fun r5 SI6 SJ6 => GoI E mt_262 32 [some (.ref 81), none, some (.int r5), some (.int (i3 0))] SI6 SJ6 Q))) ∧ (r1 = 0 → Q (i3 (-1)) SI2 SJ2))) : DoI E 262 [(.ref 81), (.int a1)] SI SJ Q := by
  refine gj_start (M := mt_262) ok_262 (Nat.le_of_ble_eq_true rfl) ?_
  refine gj_goq gj_clT ok_262 [9, 18, 29, 32, 37, 44, 54, 61, 64] ?_
  show gj_Do E om0 (gj_mt 155) [(.long (a1).toInt64), (.long (i6 0)), (.long (i6 6))] SI SJ _
  refine gj_Do.mono h (fun v_ SI2 SJ2 h_ => ?_)
  obtain ⟨r1, rfl, q1⟩ := h_
  show gj_Goes E om0 mt_262 9 [some (.ref 81), some (.int a1), none, none] [(.int r1)] SI2 SJ2 (QI Q)
  refine gj_goq gj_clT ok_262 [9, 18, 29, 32, 37, 44, 54, 61, 64] ?_
  show (¬ r1 = 0 → gj_Goes E om0 mt_262 14 [some (.ref 81), some (.int a1), none, none] [] SI2 SJ2 (QI Q)) ∧ (r1 = 0 → QI Q (some (.int (i3 (-1)))) SI2 SJ2)
  refine ⟨fun c2 => ?_, fun c2 => ?_⟩
  · refine gj_goq gj_clT ok_262 [9, 18, 29, 32, 37, 44, 54, 61, 64] ?_
    show gj_Do E om0 (gj_mt 184) [(.ref 81)] SI2 SJ2 _
    refine gj_Do.mono (q1.1 c2) (fun v_ SI4 SJ4 h_ => ?_)
    obtain ⟨rfl, q3⟩ := h_
    show gj_Goes E om0 mt_262 18 [some (.ref 81), some (.int a1), none, none] [] SI4 SJ4 (QI Q)
    refine gj_goq gj_clT ok_262 [9, 18, 29, 32, 37, 44, 54, 61, 64] ?_
    show vp_in (i3 17) 135 ∧ (gj_Do E om0 (gj_mt 156) [(.int a1), (.int (SI4 82 17))] SI4 SJ4 _)
    refine ⟨(gj_vin (by decide)), ?_⟩
    refine gj_Do.mono q3 (fun v_ SI6 SJ6 h_ => ?_)
    obtain ⟨r5, rfl, q4⟩ := h_
    show gj_Goes E om0 mt_262 29 [some (.ref 81), some (.int a1), none, none] [(.int r5)] SI6 SJ6 (QI Q)
    refine gj_goq gj_clT ok_262 [9, 18, 29, 32, 37, 44, 54, 61, 64] ?_
    show gj_Goes E om0 mt_262 32 [some (.ref 81), some (.int a1), some (.int r5), some (.int (i3 0))] [] SI6 SJ6 (QI Q)
    exact gj_fh q4 (And.intro (Or.inr rfl) (And.intro (Or.inl rfl) (And.intro (Or.inr rfl) (And.intro (Or.inr rfl) trivial))))
  · exact ⟨_, rfl, (q1.2 c2)⟩
set_option maxRecDepth 20000 in
theorem lp_262_32 {E : gj_E} {Q : Int32 → gj_I → gj_J → Prop} (x2 : Int32) (x3 : Int32) (SI : gj_I) (SJ : gj_J) (h : DoI E 259 [(.ref 81)] SI SJ (fun r1 SI2 SJ2 => (r1 < x3 → Q (i3 1) SI2 SJ2) ∧ (¬ r1 < x3 → DoI E 160 [(.int x3)] SI2 SJ2 (fun r3 SI4 SJ4 => (¬ r3 = x2 → GoI E mt_262 32 [some (.ref 81), none, some (.int x2), some (.int (x3 + (i3 1)))] SI4 SJ4 Q) ∧ (r3 = x2 → DoI E 259 [(.ref 81)] SI4 SJ4 (fun r5 SI6 SJ6 => DoI E 186 [(.ref 81), (.int (r5 &&& (x3 ^^^ (i3 (-1)))))] SI6 SJ6 (fun r7 SI8 SJ8 => DoI E 194 [(.ref 81), (.int r7)] SI8 SJ8 (fun r9 SI10 SJ10 => (¬ r9 = 0 → GoI E mt_262 32 [some (.ref 81), none, some (.int x2), some (.int (x3 + (i3 1)))] SI10 SJ10 Q) ∧ (r9 = 0 → Q (i3 0) SI10 SJ10))))))))) : GoI E mt_262 32 [some (.ref 81), none, some (.int x2), some (.int x3)] SI SJ Q := by
  refine gj_goq gj_clT ok_262 [9, 18, 29, 32, 37, 44, 54, 61, 64] ?_
  show gj_Do E om0 (gj_mt 259) [(.ref 81)] SI SJ _
  refine gj_Do.mono h (fun v_ SI2 SJ2 h_ => ?_)
  obtain ⟨r1, rfl, q1⟩ := h_
  show gj_Goes E om0 mt_262 37 [some (.ref 81), none, some (.int x2), some (.int x3)] [(.int r1), (.int x3)] SI2 SJ2 (QI Q)
  refine gj_goq gj_clT ok_262 [9, 18, 29, 32, 37, 44, 54, 61, 64] ?_
  show (r1 < x3 → gj_Goes E om0 mt_262 75 [some (.ref 81), none, some (.int x2), some (.int x3)] [] SI2 SJ2 (QI Q)) ∧ (¬ r1 < x3 → gj_Do E om0 (gj_mt 160) [(.int x3)] SI2 SJ2 _)
  refine ⟨fun c2 => ?_, fun c2 => ?_⟩
  · refine gj_goq gj_clT ok_262 [9, 18, 29, 32, 37, 44, 54, 61, 64] ?_
    show QI Q (some (.int (i3 1))) SI2 SJ2
    exact ⟨_, rfl, (q1.1 c2)⟩
  · refine gj_Do.mono (q1.2 c2) (fun v_ SI4 SJ4 h_ => ?_)
    obtain ⟨r3, rfl, q3⟩ := h_
    show gj_Goes E om0 mt_262 44 [some (.ref 81), none, some (.int x2), some (.int x3)] [(.int r3)] SI4 SJ4 (QI Q)
    refine gj_goq gj_clT ok_262 [9, 18, 29, 32, 37, 44, 54, 61, 64] ?_
    show (¬ r3 = x2 → gj_Goes E om0 mt_262 69 [some (.ref 81), none, some (.int x2), some (.int x3)] [] SI4 SJ4 (QI Q)) ∧ (r3 = x2 → gj_Do E om0 (gj_mt 259) [(.ref 81)] SI4 SJ4 _)
    refine ⟨fun c4 => ?_, fun c4 => ?_⟩
    · refine gj_goq gj_clT ok_262 [9, 18, 29, 32, 37, 44, 54, 61, 64] ?_
      show gj_Goes E om0 mt_262 32 [some (.ref 81), none, some (.int x2), some (.int (x3 + (i3 1)))] [] SI4 SJ4 (QI Q)
      exact (q3.1 c4)
    · refine gj_Do.mono (q3.2 c4) (fun v_ SI6 SJ6 h_ => ?_)
      obtain ⟨r5, rfl, q5⟩ := h_
      show gj_Goes E om0 mt_262 54 [some (.ref 81), none, some (.int x2), some (.int x3)] [(.int r5), (.ref 81), (.ref 81)] SI6 SJ6 (QI Q)
      refine gj_goq gj_clT ok_262 [9, 18, 29, 32, 37, 44, 54, 61, 64] ?_
      show gj_Do E om0 (gj_mt 186) [(.ref 81), (.int (r5 &&& (x3 ^^^ (i3 (-1)))))] SI6 SJ6 _
      refine gj_Do.mono q5 (fun v_ SI8 SJ8 h_ => ?_)
      obtain ⟨r7, rfl, q6⟩ := h_
      show gj_Goes E om0 mt_262 61 [some (.ref 81), none, some (.int x2), some (.int x3)] [(.int r7), (.ref 81)] SI8 SJ8 (QI Q)
      refine gj_goq gj_clT ok_262 [9, 18, 29, 32, 37, 44, 54, 61, 64] ?_
      show gj_Do E om0 (gj_mt 194) [(.ref 81), (.int r7)] SI8 SJ8 _
      refine gj_Do.mono q6 (fun v_ SI10 SJ10 h_ => ?_)
      obtain ⟨r9, rfl, q7⟩ := h_
      show gj_Goes E om0 mt_262 64 [some (.ref 81), none, some (.int x2), some (.int x3)] [(.int r9)] SI10 SJ10 (QI Q)
      refine gj_goq gj_clT ok_262 [9, 18, 29, 32, 37, 44, 54, 61, 64] ?_
      show (¬ r9 = 0 → gj_Goes E om0 mt_262 69 [some (.ref 81), none, some (.int x2), some (.int x3)] [] SI10 SJ10 (QI Q)) ∧ (r9 = 0 → QI Q (some (.int (i3 0))) SI10 SJ10)
      refine ⟨fun c8 => ?_, fun c8 => ?_⟩
      · refine gj_goq gj_clT ok_262 [9, 18, 29, 32, 37, 44, 54, 61, 64] ?_
        show gj_Goes E om0 mt_262 32 [some (.ref 81), none, some (.int x2), some (.int (x3 + (i3 1)))] [] SI10 SJ10 (QI Q)
        exact (q7.1 c8)
      · exact ⟨_, rfl, (q7.2 c8)⟩
set_option maxRecDepth 20000 in
/-- GraspJudgeModel.best -/
theorem st_263 {E : gj_E} {Q : Int64 → gj_I → gj_J → Prop} (a1 : Int32) (SI : gj_I) (SJ : gj_J) (h : DoI E 155 [(.long (a1).toInt64), (.long (i6 0)), (.long (i6 3))] SI SJ (fun r1 SI2 SJ2 => (¬ r1 = 0 → GoL E mt_263 26 [some (.ref 81), some (.int a1), some (.int (i3 (-1))), some (.long (i6 0)), none, some (.long (i6 1)), none, some (.int (i3 0))] SI2 SJ2 Q) ∧ (r1 = 0 → Q (i6 (-9000000000000000000)) SI2 SJ2))) : DoL E 263 [(.ref 81), (.int a1)] SI SJ Q := by
  refine gj_start (M := mt_263) ok_263 (Nat.le_of_ble_eq_true rfl) ?_
  refine gj_goq gj_clT ok_263 [9, 26, 32, 42, 48, 51, 62, 69, 75, 80, 85, 88, 98, 161, 175] ?_
  show gj_Do E om0 (gj_mt 155) [(.long (a1).toInt64), (.long (i6 0)), (.long (i6 3))] SI SJ _
  refine gj_Do.mono h (fun v_ SI2 SJ2 h_ => ?_)
  obtain ⟨r1, rfl, q1⟩ := h_
  show gj_Goes E om0 mt_263 9 [some (.ref 81), some (.int a1), none, none, none, none, none, none] [(.int r1)] SI2 SJ2 (QL Q)
  refine gj_goq gj_clT ok_263 [9, 26, 32, 42, 48, 51, 62, 69, 75, 80, 85, 88, 98, 161, 175] ?_
  show (¬ r1 = 0 → gj_Goes E om0 mt_263 16 [some (.ref 81), some (.int a1), none, none, none, none, none, none] [] SI2 SJ2 (QL Q)) ∧ (r1 = 0 → QL Q (some (.long (i6 (-9000000000000000000)))) SI2 SJ2)
  refine ⟨fun c2 => ?_, fun c2 => ?_⟩
  · refine gj_goq gj_clT ok_263 [9, 26, 32, 42, 48, 51, 62, 69, 75, 80, 85, 88, 98, 161, 175] ?_
    show gj_Goes E om0 mt_263 26 [some (.ref 81), some (.int a1), some (.int (i3 (-1))), some (.long (i6 0)), none, some (.long (i6 1)), none, some (.int (i3 0))] [] SI2 SJ2 (QL Q)
    exact (q1.1 c2)
  · exact ⟨_, rfl, (q1.2 c2)⟩
set_option maxRecDepth 20000 in
theorem lp_263_26 {E : gj_E} {Q : Int64 → gj_I → gj_J → Prop} (x1 : Int32) (x2 : Int32) (x3 : Int64) (x5 : Int64) (x7 : Int32) (SI : gj_I) (SJ : gj_J) (h : DoI E 176 [(.ref 81)] SI SJ (fun r1 SI2 SJ2 => (r1 ≤ x7 → (¬ x2 = (i3 (-1)) → (¬ x1 = 0 → (¬ x1 = (i3 1) → (¬ x1 = (i3 2) → Q x5 SI2 SJ2) ∧ (x1 = (i3 2) → Q x3 SI2 SJ2)) ∧ (x1 = (i3 1) → DoI E 178 [(.ref 81), (.int x2)] SI2 SJ2 (fun r3 SI4 SJ4 => Q (r3).toInt64 SI4 SJ4))) ∧ (x1 = 0 → DoI E 177 [(.ref 81), (.int x2)] SI2 SJ2 (fun r5 SI6 SJ6 => Q (r5).toInt64 SI6 SJ6))) ∧ (x2 = (i3 (-1)) → Q (i6 (-2)) SI2 SJ2)) ∧ (¬ r1 ≤ x7 → DoI E 177 [(.ref 81), (.int x7)] SI2 SJ2 (fun r7 SI8 SJ8 => DoI E 178 [(.ref 81), (.int x7)] SI8 SJ8 (fun r9 SI10 SJ10 => DoI E 180 [(.ref 81), (.int r7), (.int r9)] SI10 SJ10 (fun r11 SI12 SJ12 => (r11 = (i3 (-1)) → DoV E 184 [(.ref 81)] SI12 SJ12 (fun SI14 SJ14 => DoI E 177 [(.ref 81), (.int x7)] SI14 SJ14 (fun r15 SI16 SJ16 => DoI E 178 [(.ref 81), (.int x7)] SI16 SJ16 (fun r17 SI18 SJ18 => DoV E 183 [(.ref 81), (.int r15), (.int r17), (.int (i3 6))] SI18 SJ18 (fun SI20 SJ20 => DoI E 185 [(.ref 81)] SI20 SJ20 (fun r21 SI22 SJ22 => DoI E 194 [(.ref 81), (.int r21)] SI22 SJ22 (fun r23 SI24 SJ24 => (¬ r23 = 0 → DoV E 253 [(.ref 81)] SI24 SJ24 (fun SI26 SJ26 => (x2 = (i3 (-1)) → GoL E mt_263 26 [some (.ref 81), some (.int x1), some (.int x7), some (.long (SJ26 81 43)), none, some (.long (SJ26 81 44)), none, some (.int (x7 + (i3 1)))] SI26 SJ26 Q) ∧ (¬ x2 = (i3 (-1)) → (((SJ26 81 43) * x5) > (x3 * (SJ26 81 44)) → GoL E mt_263 26 [some (.ref 81), some (.int x1), some (.int x7), some (.long (SJ26 81 43)), none, some (.long (SJ26 81 44)), none, some (.int (x7 + (i3 1)))] SI26 SJ26 Q) ∧ (¬ ((SJ26 81 43) * x5) > (x3 * (SJ26 81 44)) → GoL E mt_263 26 [some (.ref 81), some (.int x1), some (.int x2), some (.long x3), none, some (.long x5), none, some (.int (x7 + (i3 1)))] SI26 SJ26 Q)))) ∧ (r23 = 0 → GoL E mt_263 26 [some (.ref 81), some (.int x1), some (.int x2), some (.long x3), none, some (.long x5), none, some (.int (x7 + (i3 1)))] SI24 SJ24 Q)))))))) ∧ (¬ r11 = (i3 (-1)) → GoL E mt_263 26 [some (.ref 81), some (.int x1), some (.int x2), some (.long x3), none, some (.long x5), none, some (.int (x7 + (i3 1)))] SI12 SJ12 Q))))))) : GoL E mt_263 26 [some (.ref 81), some (.int x1), some (.int x2), some (.long x3), none, some (.long x5), none, some (.int x7)] SI SJ Q := by
  refine gj_goq gj_clT ok_263 [9, 26, 32, 42, 48, 51, 62, 69, 75, 80, 85, 88, 98, 161, 175] ?_
  show gj_Do E om0 (gj_mt 176) [(.ref 81)] SI SJ _
  refine gj_Do.mono h (fun v_ SI2 SJ2 h_ => ?_)
  obtain ⟨r1, rfl, q1⟩ := h_
  show gj_Goes E om0 mt_263 32 [some (.ref 81), some (.int x1), some (.int x2), some (.long x3), none, some (.long x5), none, some (.int x7)] [(.int r1), (.int x7)] SI2 SJ2 (QL Q)
  refine gj_goq gj_clT ok_263 [9, 26, 32, 42, 48, 51, 62, 69, 75, 80, 85, 88, 98, 161, 175] ?_
  show (r1 ≤ x7 → gj_Goes E om0 mt_263 143 [some (.ref 81), some (.int x1), some (.int x2), some (.long x3), none, some (.long x5), none, some (.int x7)] [] SI2 SJ2 (QL Q)) ∧ (¬ r1 ≤ x7 → gj_Do E om0 (gj_mt 177) [(.ref 81), (.int x7)] SI2 SJ2 _)
  refine ⟨fun c2 => ?_, fun c2 => ?_⟩
  · refine gj_goq gj_clT ok_263 [9, 26, 32, 42, 48, 51, 62, 69, 75, 80, 85, 88, 98, 161, 175] ?_
    show (¬ x2 = (i3 (-1)) → gj_Goes E om0 mt_263 152 [some (.ref 81), some (.int x1), some (.int x2), some (.long x3), none, some (.long x5), none, some (.int x7)] [] SI2 SJ2 (QL Q)) ∧ (x2 = (i3 (-1)) → QL Q (some (.long (i6 (-2)))) SI2 SJ2)
    refine ⟨fun c3 => ?_, fun c3 => ?_⟩
    · refine gj_goq gj_clT ok_263 [9, 26, 32, 42, 48, 51, 62, 69, 75, 80, 85, 88, 98, 161, 175] ?_
      show (¬ x1 = 0 → gj_Goes E om0 mt_263 165 [some (.ref 81), some (.int x1), some (.int x2), some (.long x3), none, some (.long x5), none, some (.int x7)] [] SI2 SJ2 (QL Q)) ∧ (x1 = 0 → gj_Do E om0 (gj_mt 177) [(.ref 81), (.int x2)] SI2 SJ2 _)
      refine ⟨fun c4 => ?_, fun c4 => ?_⟩
      · refine gj_goq gj_clT ok_263 [9, 26, 32, 42, 48, 51, 62, 69, 75, 80, 85, 88, 98, 161, 175] ?_
        show (¬ x1 = (i3 1) → gj_Goes E om0 mt_263 179 [some (.ref 81), some (.int x1), some (.int x2), some (.long x3), none, some (.long x5), none, some (.int x7)] [] SI2 SJ2 (QL Q)) ∧ (x1 = (i3 1) → gj_Do E om0 (gj_mt 178) [(.ref 81), (.int x2)] SI2 SJ2 _)
        refine ⟨fun c5 => ?_, fun c5 => ?_⟩
        · refine gj_goq gj_clT ok_263 [9, 26, 32, 42, 48, 51, 62, 69, 75, 80, 85, 88, 98, 161, 175] ?_
          show (¬ x1 = (i3 2) → gj_Goes E om0 mt_263 188 [some (.ref 81), some (.int x1), some (.int x2), some (.long x3), none, some (.long x5), none, some (.int x7)] [] SI2 SJ2 (QL Q)) ∧ (x1 = (i3 2) → gj_Goes E om0 mt_263 190 [some (.ref 81), some (.int x1), some (.int x2), some (.long x3), none, some (.long x5), none, some (.int x7)] [(.long x3)] SI2 SJ2 (QL Q))
          refine ⟨fun c6 => ?_, fun c6 => ?_⟩
          · refine gj_goq gj_clT ok_263 [9, 26, 32, 42, 48, 51, 62, 69, 75, 80, 85, 88, 98, 161, 175] ?_
            show QL Q (some (.long x5)) SI2 SJ2
            exact ⟨_, rfl, (((((q1.1 c2).1 c3).1 c4).1 c5).1 c6)⟩
          · refine gj_goq gj_clT ok_263 [9, 26, 32, 42, 48, 51, 62, 69, 75, 80, 85, 88, 98, 161, 175] ?_
            show QL Q (some (.long x3)) SI2 SJ2
            exact ⟨_, rfl, (((((q1.1 c2).1 c3).1 c4).1 c5).2 c6)⟩
        · refine gj_Do.mono ((((q1.1 c2).1 c3).1 c4).2 c5) (fun v_ SI4 SJ4 h_ => ?_)
          obtain ⟨r3, rfl, q7⟩ := h_
          show gj_Goes E om0 mt_263 175 [some (.ref 81), some (.int x1), some (.int x2), some (.long x3), none, some (.long x5), none, some (.int x7)] [(.int r3)] SI4 SJ4 (QL Q)
          refine gj_goq gj_clT ok_263 [9, 26, 32, 42, 48, 51, 62, 69, 75, 80, 85, 88, 98, 161, 175] ?_
          show gj_Goes E om0 mt_263 190 [some (.ref 81), some (.int x1), some (.int x2), some (.long x3), none, some (.long x5), none, some (.int x7)] [(.long (r3).toInt64)] SI4 SJ4 (QL Q)
          refine gj_goq gj_clT ok_263 [9, 26, 32, 42, 48, 51, 62, 69, 75, 80, 85, 88, 98, 161, 175] ?_
          show QL Q (some (.long (r3).toInt64)) SI4 SJ4
          exact ⟨_, rfl, q7⟩
      · refine gj_Do.mono (((q1.1 c2).1 c3).2 c4) (fun v_ SI6 SJ6 h_ => ?_)
        obtain ⟨r5, rfl, q8⟩ := h_
        show gj_Goes E om0 mt_263 161 [some (.ref 81), some (.int x1), some (.int x2), some (.long x3), none, some (.long x5), none, some (.int x7)] [(.int r5)] SI6 SJ6 (QL Q)
        refine gj_goq gj_clT ok_263 [9, 26, 32, 42, 48, 51, 62, 69, 75, 80, 85, 88, 98, 161, 175] ?_
        show gj_Goes E om0 mt_263 190 [some (.ref 81), some (.int x1), some (.int x2), some (.long x3), none, some (.long x5), none, some (.int x7)] [(.long (r5).toInt64)] SI6 SJ6 (QL Q)
        refine gj_goq gj_clT ok_263 [9, 26, 32, 42, 48, 51, 62, 69, 75, 80, 85, 88, 98, 161, 175] ?_
        show QL Q (some (.long (r5).toInt64)) SI6 SJ6
        exact ⟨_, rfl, q8⟩
    · exact ⟨_, rfl, ((q1.1 c2).2 c3)⟩
  · refine gj_Do.mono (q1.2 c2) (fun v_ SI8 SJ8 h_ => ?_)
    obtain ⟨r7, rfl, q9⟩ := h_
    show gj_Goes E om0 mt_263 42 [some (.ref 81), some (.int x1), some (.int x2), some (.long x3), none, some (.long x5), none, some (.int x7)] [(.int r7), (.ref 81)] SI8 SJ8 (QL Q)
    refine gj_goq gj_clT ok_263 [9, 26, 32, 42, 48, 51, 62, 69, 75, 80, 85, 88, 98, 161, 175] ?_
    show gj_Do E om0 (gj_mt 178) [(.ref 81), (.int x7)] SI8 SJ8 _
    refine gj_Do.mono q9 (fun v_ SI10 SJ10 h_ => ?_)
    obtain ⟨r9, rfl, q10⟩ := h_
    show gj_Goes E om0 mt_263 48 [some (.ref 81), some (.int x1), some (.int x2), some (.long x3), none, some (.long x5), none, some (.int x7)] [(.int r9), (.int r7), (.ref 81)] SI10 SJ10 (QL Q)
    refine gj_goq gj_clT ok_263 [9, 26, 32, 42, 48, 51, 62, 69, 75, 80, 85, 88, 98, 161, 175] ?_
    show gj_Do E om0 (gj_mt 180) [(.ref 81), (.int r7), (.int r9)] SI10 SJ10 _
    refine gj_Do.mono q10 (fun v_ SI12 SJ12 h_ => ?_)
    obtain ⟨r11, rfl, q11⟩ := h_
    show gj_Goes E om0 mt_263 51 [some (.ref 81), some (.int x1), some (.int x2), some (.long x3), none, some (.long x5), none, some (.int x7)] [(.int r11)] SI12 SJ12 (QL Q)
    refine gj_goq gj_clT ok_263 [9, 26, 32, 42, 48, 51, 62, 69, 75, 80, 85, 88, 98, 161, 175] ?_
    show (r11 = (i3 (-1)) → gj_Goes E om0 mt_263 58 [some (.ref 81), some (.int x1), some (.int x2), some (.long x3), none, some (.long x5), none, some (.int x7)] [] SI12 SJ12 (QL Q)) ∧ (¬ r11 = (i3 (-1)) → gj_Goes E om0 mt_263 137 [some (.ref 81), some (.int x1), some (.int x2), some (.long x3), none, some (.long x5), none, some (.int x7)] [] SI12 SJ12 (QL Q))
    refine ⟨fun c12 => ?_, fun c12 => ?_⟩
    · refine gj_goq gj_clT ok_263 [9, 26, 32, 42, 48, 51, 62, 69, 75, 80, 85, 88, 98, 161, 175] ?_
      show gj_Do E om0 (gj_mt 184) [(.ref 81)] SI12 SJ12 _
      refine gj_Do.mono (q11.1 c12) (fun v_ SI14 SJ14 h_ => ?_)
      obtain ⟨rfl, q13⟩ := h_
      show gj_Goes E om0 mt_263 62 [some (.ref 81), some (.int x1), some (.int x2), some (.long x3), none, some (.long x5), none, some (.int x7)] [] SI14 SJ14 (QL Q)
      refine gj_goq gj_clT ok_263 [9, 26, 32, 42, 48, 51, 62, 69, 75, 80, 85, 88, 98, 161, 175] ?_
      show gj_Do E om0 (gj_mt 177) [(.ref 81), (.int x7)] SI14 SJ14 _
      refine gj_Do.mono q13 (fun v_ SI16 SJ16 h_ => ?_)
      obtain ⟨r15, rfl, q14⟩ := h_
      show gj_Goes E om0 mt_263 69 [some (.ref 81), some (.int x1), some (.int x2), some (.long x3), none, some (.long x5), none, some (.int x7)] [(.int r15), (.ref 81)] SI16 SJ16 (QL Q)
      refine gj_goq gj_clT ok_263 [9, 26, 32, 42, 48, 51, 62, 69, 75, 80, 85, 88, 98, 161, 175] ?_
      show gj_Do E om0 (gj_mt 178) [(.ref 81), (.int x7)] SI16 SJ16 _
      refine gj_Do.mono q14 (fun v_ SI18 SJ18 h_ => ?_)
      obtain ⟨r17, rfl, q15⟩ := h_
      show gj_Goes E om0 mt_263 75 [some (.ref 81), some (.int x1), some (.int x2), some (.long x3), none, some (.long x5), none, some (.int x7)] [(.int r17), (.int r15), (.ref 81)] SI18 SJ18 (QL Q)
      refine gj_goq gj_clT ok_263 [9, 26, 32, 42, 48, 51, 62, 69, 75, 80, 85, 88, 98, 161, 175] ?_
      show gj_Do E om0 (gj_mt 183) [(.ref 81), (.int r15), (.int r17), (.int (i3 6))] SI18 SJ18 _
      refine gj_Do.mono q15 (fun v_ SI20 SJ20 h_ => ?_)
      obtain ⟨rfl, q16⟩ := h_
      show gj_Goes E om0 mt_263 80 [some (.ref 81), some (.int x1), some (.int x2), some (.long x3), none, some (.long x5), none, some (.int x7)] [] SI20 SJ20 (QL Q)
      refine gj_goq gj_clT ok_263 [9, 26, 32, 42, 48, 51, 62, 69, 75, 80, 85, 88, 98, 161, 175] ?_
      show gj_Do E om0 (gj_mt 185) [(.ref 81)] SI20 SJ20 _
      refine gj_Do.mono q16 (fun v_ SI22 SJ22 h_ => ?_)
      obtain ⟨r21, rfl, q17⟩ := h_
      show gj_Goes E om0 mt_263 85 [some (.ref 81), some (.int x1), some (.int x2), some (.long x3), none, some (.long x5), none, some (.int x7)] [(.int r21), (.ref 81)] SI22 SJ22 (QL Q)
      refine gj_goq gj_clT ok_263 [9, 26, 32, 42, 48, 51, 62, 69, 75, 80, 85, 88, 98, 161, 175] ?_
      show gj_Do E om0 (gj_mt 194) [(.ref 81), (.int r21)] SI22 SJ22 _
      refine gj_Do.mono q17 (fun v_ SI24 SJ24 h_ => ?_)
      obtain ⟨r23, rfl, q18⟩ := h_
      show gj_Goes E om0 mt_263 88 [some (.ref 81), some (.int x1), some (.int x2), some (.long x3), none, some (.long x5), none, some (.int x7)] [(.int r23)] SI24 SJ24 (QL Q)
      refine gj_goq gj_clT ok_263 [9, 26, 32, 42, 48, 51, 62, 69, 75, 80, 85, 88, 98, 161, 175] ?_
      show (¬ r23 = 0 → gj_Goes E om0 mt_263 94 [some (.ref 81), some (.int x1), some (.int x2), some (.long x3), none, some (.long x5), none, some (.int x7)] [] SI24 SJ24 (QL Q)) ∧ (r23 = 0 → gj_Goes E om0 mt_263 137 [some (.ref 81), some (.int x1), some (.int x2), some (.long x3), none, some (.long x5), none, some (.int x7)] [] SI24 SJ24 (QL Q))
      refine ⟨fun c19 => ?_, fun c19 => ?_⟩
      · refine gj_goq gj_clT ok_263 [9, 26, 32, 42, 48, 51, 62, 69, 75, 80, 85, 88, 98, 161, 175] ?_
        show gj_Do E om0 (gj_mt 253) [(.ref 81)] SI24 SJ24 _
        refine gj_Do.mono (q18.1 c19) (fun v_ SI26 SJ26 h_ => ?_)
        obtain ⟨rfl, q20⟩ := h_
        show gj_Goes E om0 mt_263 98 [some (.ref 81), some (.int x1), some (.int x2), some (.long x3), none, some (.long x5), none, some (.int x7)] [] SI26 SJ26 (QL Q)
        refine gj_goq gj_clT ok_263 [9, 26, 32, 42, 48, 51, 62, 69, 75, 80, 85, 88, 98, 161, 175] ?_
        show (x2 = (i3 (-1)) → gj_Goes E om0 mt_263 123 [some (.ref 81), some (.int x1), some (.int x2), some (.long x3), none, some (.long x5), none, some (.int x7)] [] SI26 SJ26 (QL Q)) ∧ (¬ x2 = (i3 (-1)) → (0 < (lg_cmp ((SJ26 81 43) * x5) (x3 * (SJ26 81 44))) → gj_Goes E om0 mt_263 123 [some (.ref 81), some (.int x1), some (.int x2), some (.long x3), none, some (.long x5), none, some (.int x7)] [] SI26 SJ26 (QL Q)) ∧ (¬ 0 < (lg_cmp ((SJ26 81 43) * x5) (x3 * (SJ26 81 44))) → gj_Goes E om0 mt_263 137 [some (.ref 81), some (.int x1), some (.int x2), some (.long x3), none, some (.long x5), none, some (.int x7)] [] SI26 SJ26 (QL Q)))
        refine ⟨fun c21 => ?_, fun c21 => ?_⟩
        · refine gj_goq gj_clT ok_263 [9, 26, 32, 42, 48, 51, 62, 69, 75, 80, 85, 88, 98, 161, 175] ?_
          show gj_Goes E om0 mt_263 26 [some (.ref 81), some (.int x1), some (.int x7), some (.long (SJ26 81 43)), none, some (.long (SJ26 81 44)), none, some (.int (x7 + (i3 1)))] [] SI26 SJ26 (QL Q)
          exact (q20.1 c21)
        · refine ⟨fun c22 => ?_, fun c22 => ?_⟩
          · refine gj_goq gj_clT ok_263 [9, 26, 32, 42, 48, 51, 62, 69, 75, 80, 85, 88, 98, 161, 175] ?_
            show gj_Goes E om0 mt_263 26 [some (.ref 81), some (.int x1), some (.int x7), some (.long (SJ26 81 43)), none, some (.long (SJ26 81 44)), none, some (.int (x7 + (i3 1)))] [] SI26 SJ26 (QL Q)
            exact ((q20.2 c21).1 (lgc_gt.mp c22))
          · refine gj_goq gj_clT ok_263 [9, 26, 32, 42, 48, 51, 62, 69, 75, 80, 85, 88, 98, 161, 175] ?_
            show gj_Goes E om0 mt_263 26 [some (.ref 81), some (.int x1), some (.int x2), some (.long x3), none, some (.long x5), none, some (.int (x7 + (i3 1)))] [] SI26 SJ26 (QL Q)
            exact ((q20.2 c21).2 (fun z_ => c22 (lgc_gt.mpr z_)))
      · refine gj_goq gj_clT ok_263 [9, 26, 32, 42, 48, 51, 62, 69, 75, 80, 85, 88, 98, 161, 175] ?_
        show gj_Goes E om0 mt_263 26 [some (.ref 81), some (.int x1), some (.int x2), some (.long x3), none, some (.long x5), none, some (.int (x7 + (i3 1)))] [] SI24 SJ24 (QL Q)
        exact (q18.2 c19)
    · refine gj_goq gj_clT ok_263 [9, 26, 32, 42, 48, 51, 62, 69, 75, 80, 85, 88, 98, 161, 175] ?_
      show gj_Goes E om0 mt_263 26 [some (.ref 81), some (.int x1), some (.int x2), some (.long x3), none, some (.long x5), none, some (.int (x7 + (i3 1)))] [] SI12 SJ12 (QL Q)
      exact (q11.2 c12)
set_option maxRecDepth 20000 in
/-- GraspJudgeModel.two -/
theorem st_264 {E : gj_E} {Q : Int64 → gj_I → gj_J → Prop} (a1 : Int32) (SI : gj_I) (SJ : gj_J) (h : DoI E 155 [(.long (a1).toInt64), (.long (i6 0)), (.long (i6 4))] SI SJ (fun r1 SI2 SJ2 => (¬ r1 = 0 → DoI E 176 [(.ref 81)] SI2 SJ2 (fun r3 SI4 SJ4 => GoL E mt_264 44 [some (.ref 81), some (.int a1), some (.int (i3 0)), some (.int (i3 (-2))), some (.int (i3 (-2))), some (.long (i6 (-2))), none, some (.long (i6 (-2))), none, some (.int r3), some (.int (i3 0)), none] SI4 SJ4 Q)) ∧ (r1 = 0 → Q (i6 (-9000000000000000000)) SI2 SJ2))) : DoL E 264 [(.ref 81), (.int a1)] SI SJ Q := by
  refine gj_start (M := mt_264) ok_264 (Nat.le_of_ble_eq_true rfl) ?_
  refine gj_goq gj_clT ok_264 [9, 39, 44, 57, 76, 82, 86, 93, 99, 103, 108, 111, 121] ?_
  show gj_Do E om0 (gj_mt 155) [(.long (a1).toInt64), (.long (i6 0)), (.long (i6 4))] SI SJ _
  refine gj_Do.mono h (fun v_ SI2 SJ2 h_ => ?_)
  obtain ⟨r1, rfl, q1⟩ := h_
  show gj_Goes E om0 mt_264 9 [some (.ref 81), some (.int a1), none, none, none, none, none, none, none, none, none, none] [(.int r1)] SI2 SJ2 (QL Q)
  refine gj_goq gj_clT ok_264 [9, 39, 44, 57, 76, 82, 86, 93, 99, 103, 108, 111, 121] ?_
  show (¬ r1 = 0 → gj_Goes E om0 mt_264 16 [some (.ref 81), some (.int a1), none, none, none, none, none, none, none, none, none, none] [] SI2 SJ2 (QL Q)) ∧ (r1 = 0 → QL Q (some (.long (i6 (-9000000000000000000)))) SI2 SJ2)
  refine ⟨fun c2 => ?_, fun c2 => ?_⟩
  · refine gj_goq gj_clT ok_264 [9, 39, 44, 57, 76, 82, 86, 93, 99, 103, 108, 111, 121] ?_
    show gj_Do E om0 (gj_mt 176) [(.ref 81)] SI2 SJ2 _
    refine gj_Do.mono (q1.1 c2) (fun v_ SI4 SJ4 h_ => ?_)
    obtain ⟨r3, rfl, q3⟩ := h_
    show gj_Goes E om0 mt_264 39 [some (.ref 81), some (.int a1), some (.int (i3 0)), some (.int (i3 (-2))), some (.int (i3 (-2))), some (.long (i6 (-2))), none, some (.long (i6 (-2))), none, none, none, none] [(.int r3)] SI4 SJ4 (QL Q)
    refine gj_goq gj_clT ok_264 [9, 39, 44, 57, 76, 82, 86, 93, 99, 103, 108, 111, 121] ?_
    show gj_Goes E om0 mt_264 44 [some (.ref 81), some (.int a1), some (.int (i3 0)), some (.int (i3 (-2))), some (.int (i3 (-2))), some (.long (i6 (-2))), none, some (.long (i6 (-2))), none, some (.int r3), some (.int (i3 0)), none] [] SI4 SJ4 (QL Q)
    exact q3
  · exact ⟨_, rfl, (q1.2 c2)⟩
set_option maxRecDepth 20000 in
theorem lp_264_44 {E : gj_E} {Q : Int64 → gj_I → gj_J → Prop} (x1 : Int32) (x2 : Int32) (x3 : Int32) (x4 : Int32) (x5 : Int64) (x7 : Int64) (x9 : Int32) (x10 : Int32) (SI : gj_I) (SJ : gj_J) (h : (x9 ≤ x10 → (¬ x1 = 0 → (¬ x1 = (i3 1) → (¬ x1 = (i3 2) → (¬ x1 = (i3 3) → Q x7 SI SJ) ∧ (x1 = (i3 3) → Q x5 SI SJ)) ∧ (x1 = (i3 2) → Q (x4).toInt64 SI SJ)) ∧ (x1 = (i3 1) → Q (x3).toInt64 SI SJ)) ∧ (x1 = 0 → Q (x2).toInt64 SI SJ)) ∧ (¬ x9 ≤ x10 → GoL E mt_264 57 [some (.ref 81), some (.int x1), some (.int x2), some (.int x3), some (.int x4), some (.long x5), none, some (.long x7), none, some (.int x9), some (.int x10), some (.int (x10 + (i3 1)))] SI SJ Q)) : GoL E mt_264 44 [some (.ref 81), some (.int x1), some (.int x2), some (.int x3), some (.int x4), some (.long x5), none, some (.long x7), none, some (.int x9), some (.int x10), none] SI SJ Q := by
  refine gj_goq gj_clT ok_264 [9, 39, 44, 57, 76, 82, 86, 93, 99, 103, 108, 111, 121] ?_
  show (x9 ≤ x10 → gj_Goes E om0 mt_264 181 [some (.ref 81), some (.int x1), some (.int x2), some (.int x3), some (.int x4), some (.long x5), none, some (.long x7), none, some (.int x9), some (.int x10), none] [] SI SJ (QL Q)) ∧ (¬ x9 ≤ x10 → gj_Goes E om0 mt_264 57 [some (.ref 81), some (.int x1), some (.int x2), some (.int x3), some (.int x4), some (.long x5), none, some (.long x7), none, some (.int x9), some (.int x10), some (.int (x10 + (i3 1)))] [] SI SJ (QL Q))
  refine ⟨fun c1 => ?_, fun c1 => ?_⟩
  · refine gj_goq gj_clT ok_264 [9, 39, 44, 57, 76, 82, 86, 93, 99, 103, 108, 111, 121] ?_
    show (¬ x1 = 0 → gj_Goes E om0 mt_264 190 [some (.ref 81), some (.int x1), some (.int x2), some (.int x3), some (.int x4), some (.long x5), none, some (.long x7), none, some (.int x9), some (.int x10), none] [] SI SJ (QL Q)) ∧ (x1 = 0 → gj_Goes E om0 mt_264 223 [some (.ref 81), some (.int x1), some (.int x2), some (.int x3), some (.int x4), some (.long x5), none, some (.long x7), none, some (.int x9), some (.int x10), none] [(.long (x2).toInt64)] SI SJ (QL Q))
    refine ⟨fun c2 => ?_, fun c2 => ?_⟩
    · refine gj_goq gj_clT ok_264 [9, 39, 44, 57, 76, 82, 86, 93, 99, 103, 108, 111, 121] ?_
      show (¬ x1 = (i3 1) → gj_Goes E om0 mt_264 200 [some (.ref 81), some (.int x1), some (.int x2), some (.int x3), some (.int x4), some (.long x5), none, some (.long x7), none, some (.int x9), some (.int x10), none] [] SI SJ (QL Q)) ∧ (x1 = (i3 1) → gj_Goes E om0 mt_264 223 [some (.ref 81), some (.int x1), some (.int x2), some (.int x3), some (.int x4), some (.long x5), none, some (.long x7), none, some (.int x9), some (.int x10), none] [(.long (x3).toInt64)] SI SJ (QL Q))
      refine ⟨fun c3 => ?_, fun c3 => ?_⟩
      · refine gj_goq gj_clT ok_264 [9, 39, 44, 57, 76, 82, 86, 93, 99, 103, 108, 111, 121] ?_
        show (¬ x1 = (i3 2) → gj_Goes E om0 mt_264 211 [some (.ref 81), some (.int x1), some (.int x2), some (.int x3), some (.int x4), some (.long x5), none, some (.long x7), none, some (.int x9), some (.int x10), none] [] SI SJ (QL Q)) ∧ (x1 = (i3 2) → gj_Goes E om0 mt_264 223 [some (.ref 81), some (.int x1), some (.int x2), some (.int x3), some (.int x4), some (.long x5), none, some (.long x7), none, some (.int x9), some (.int x10), none] [(.long (x4).toInt64)] SI SJ (QL Q))
        refine ⟨fun c4 => ?_, fun c4 => ?_⟩
        · refine gj_goq gj_clT ok_264 [9, 39, 44, 57, 76, 82, 86, 93, 99, 103, 108, 111, 121] ?_
          show (¬ x1 = (i3 3) → gj_Goes E om0 mt_264 221 [some (.ref 81), some (.int x1), some (.int x2), some (.int x3), some (.int x4), some (.long x5), none, some (.long x7), none, some (.int x9), some (.int x10), none] [] SI SJ (QL Q)) ∧ (x1 = (i3 3) → gj_Goes E om0 mt_264 223 [some (.ref 81), some (.int x1), some (.int x2), some (.int x3), some (.int x4), some (.long x5), none, some (.long x7), none, some (.int x9), some (.int x10), none] [(.long x5)] SI SJ (QL Q))
          refine ⟨fun c5 => ?_, fun c5 => ?_⟩
          · refine gj_goq gj_clT ok_264 [9, 39, 44, 57, 76, 82, 86, 93, 99, 103, 108, 111, 121] ?_
            show QL Q (some (.long x7)) SI SJ
            exact ⟨_, rfl, (((((h.1 c1).1 c2).1 c3).1 c4).1 c5)⟩
          · refine gj_goq gj_clT ok_264 [9, 39, 44, 57, 76, 82, 86, 93, 99, 103, 108, 111, 121] ?_
            show QL Q (some (.long x5)) SI SJ
            exact ⟨_, rfl, (((((h.1 c1).1 c2).1 c3).1 c4).2 c5)⟩
        · refine gj_goq gj_clT ok_264 [9, 39, 44, 57, 76, 82, 86, 93, 99, 103, 108, 111, 121] ?_
          show QL Q (some (.long (x4).toInt64)) SI SJ
          exact ⟨_, rfl, ((((h.1 c1).1 c2).1 c3).2 c4)⟩
      · refine gj_goq gj_clT ok_264 [9, 39, 44, 57, 76, 82, 86, 93, 99, 103, 108, 111, 121] ?_
        show QL Q (some (.long (x3).toInt64)) SI SJ
        exact ⟨_, rfl, (((h.1 c1).1 c2).2 c3)⟩
    · refine gj_goq gj_clT ok_264 [9, 39, 44, 57, 76, 82, 86, 93, 99, 103, 108, 111, 121] ?_
      show QL Q (some (.long (x2).toInt64)) SI SJ
      exact ⟨_, rfl, ((h.1 c1).2 c2)⟩
  · exact (h.2 c1)
set_option maxRecDepth 20000 in
theorem lp_264_57 {E : gj_E} {Q : Int64 → gj_I → gj_J → Prop} (x1 : Int32) (x2 : Int32) (x3 : Int32) (x4 : Int32) (x5 : Int64) (x7 : Int64) (x9 : Int32) (x10 : Int32) (x11 : Int32) (SI : gj_I) (SJ : gj_J) (h : (x9 ≤ x11 → GoL E mt_264 44 [some (.ref 81), some (.int x1), some (.int x2), some (.int x3), some (.int x4), some (.long x5), none, some (.long x7), none, some (.int x9), some (.int (x10 + (i3 1))), none] SI SJ Q) ∧ (¬ x9 ≤ x11 → DoI E 177 [(.ref 81), (.int x10)] (gj_u2 SI 81 8 (i3 0)) SJ (fun r1 SI2 SJ2 => DoI E 178 [(.ref 81), (.int x10)] SI2 SJ2 (fun r3 SI4 SJ4 => DoV E 183 [(.ref 81), (.int r1), (.int r3), (.int (i3 0))] SI4 SJ4 (fun SI6 SJ6 => DoI E 177 [(.ref 81), (.int x11)] SI6 SJ6 (fun r7 SI8 SJ8 => DoI E 178 [(.ref 81), (.int x11)] SI8 SJ8 (fun r9 SI10 SJ10 => DoV E 183 [(.ref 81), (.int r7), (.int r9), (.int (i3 1))] SI10 SJ10 (fun SI12 SJ12 => DoI E 185 [(.ref 81)] SI12 SJ12 (fun r13 SI14 SJ14 => DoI E 194 [(.ref 81), (.int r13)] SI14 SJ14 (fun r15 SI16 SJ16 => (¬ r15 = 0 → DoV E 253 [(.ref 81)] SI16 SJ16 (fun SI18 SJ18 => (x3 < 0 → GoL E mt_264 57 [some (.ref 81), some (.int x1), some (.int (x2 + (i3 1))), some (.int x10), some (.int x11), some (.long (SJ18 81 43)), none, some (.long (SJ18 81 44)), none, some (.int x9), some (.int x10), some (.int (x11 + (i3 1)))] SI18 SJ18 Q) ∧ (¬ x3 < 0 → (((SJ18 81 43) * x7) > (x5 * (SJ18 81 44)) → GoL E mt_264 57 [some (.ref 81), some (.int x1), some (.int (x2 + (i3 1))), some (.int x10), some (.int x11), some (.long (SJ18 81 43)), none, some (.long (SJ18 81 44)), none, some (.int x9), some (.int x10), some (.int (x11 + (i3 1)))] SI18 SJ18 Q) ∧ (¬ ((SJ18 81 43) * x7) > (x5 * (SJ18 81 44)) → GoL E mt_264 57 [some (.ref 81), some (.int x1), some (.int (x2 + (i3 1))), some (.int x3), some (.int x4), some (.long x5), none, some (.long x7), none, some (.int x9), some (.int x10), some (.int (x11 + (i3 1)))] SI18 SJ18 Q)))) ∧ (r15 = 0 → GoL E mt_264 57 [some (.ref 81), some (.int x1), some (.int x2), some (.int x3), some (.int x4), some (.long x5), none, some (.long x7), none, some (.int x9), some (.int x10), some (.int (x11 + (i3 1)))] SI16 SJ16 Q))))))))))) : GoL E mt_264 57 [some (.ref 81), some (.int x1), some (.int x2), some (.int x3), some (.int x4), some (.long x5), none, some (.long x7), none, some (.int x9), some (.int x10), some (.int x11)] SI SJ Q := by
  refine gj_goq gj_clT ok_264 [9, 39, 44, 57, 76, 82, 86, 93, 99, 103, 108, 111, 121] ?_
  show (x9 ≤ x11 → gj_Goes E om0 mt_264 175 [some (.ref 81), some (.int x1), some (.int x2), some (.int x3), some (.int x4), some (.long x5), none, some (.long x7), none, some (.int x9), some (.int x10), some (.int x11)] [] SI SJ (QL Q)) ∧ (¬ x9 ≤ x11 → gj_Do E om0 (gj_mt 177) [(.ref 81), (.int x10)] (gj_u2 SI 81 8 (i3 0)) SJ _)
  refine ⟨fun c1 => ?_, fun c1 => ?_⟩
  · refine gj_goq gj_clT ok_264 [9, 39, 44, 57, 76, 82, 86, 93, 99, 103, 108, 111, 121] ?_
    show gj_Goes E om0 mt_264 44 [some (.ref 81), some (.int x1), some (.int x2), some (.int x3), some (.int x4), some (.long x5), none, some (.long x7), none, some (.int x9), some (.int (x10 + (i3 1))), some (.int x11)] [] SI SJ (QL Q)
    exact gj_fh (h.1 c1) (And.intro (Or.inr rfl) (And.intro (Or.inr rfl) (And.intro (Or.inr rfl) (And.intro (Or.inr rfl) (And.intro (Or.inr rfl) (And.intro (Or.inr rfl) (And.intro (Or.inl rfl) (And.intro (Or.inr rfl) (And.intro (Or.inl rfl) (And.intro (Or.inr rfl) (And.intro (Or.inr rfl) (And.intro (Or.inl rfl) trivial))))))))))))
  · refine gj_Do.mono (h.2 c1) (fun v_ SI2 SJ2 h_ => ?_)
    obtain ⟨r1, rfl, q2⟩ := h_
    show gj_Goes E om0 mt_264 76 [some (.ref 81), some (.int x1), some (.int x2), some (.int x3), some (.int x4), some (.long x5), none, some (.long x7), none, some (.int x9), some (.int x10), some (.int x11)] [(.int r1), (.ref 81)] SI2 SJ2 (QL Q)
    refine gj_goq gj_clT ok_264 [9, 39, 44, 57, 76, 82, 86, 93, 99, 103, 108, 111, 121] ?_
    show gj_Do E om0 (gj_mt 178) [(.ref 81), (.int x10)] SI2 SJ2 _
    refine gj_Do.mono q2 (fun v_ SI4 SJ4 h_ => ?_)
    obtain ⟨r3, rfl, q3⟩ := h_
    show gj_Goes E om0 mt_264 82 [some (.ref 81), some (.int x1), some (.int x2), some (.int x3), some (.int x4), some (.long x5), none, some (.long x7), none, some (.int x9), some (.int x10), some (.int x11)] [(.int r3), (.int r1), (.ref 81)] SI4 SJ4 (QL Q)
    refine gj_goq gj_clT ok_264 [9, 39, 44, 57, 76, 82, 86, 93, 99, 103, 108, 111, 121] ?_
    show gj_Do E om0 (gj_mt 183) [(.ref 81), (.int r1), (.int r3), (.int (i3 0))] SI4 SJ4 _
    refine gj_Do.mono q3 (fun v_ SI6 SJ6 h_ => ?_)
    obtain ⟨rfl, q4⟩ := h_
    show gj_Goes E om0 mt_264 86 [some (.ref 81), some (.int x1), some (.int x2), some (.int x3), some (.int x4), some (.long x5), none, some (.long x7), none, some (.int x9), some (.int x10), some (.int x11)] [] SI6 SJ6 (QL Q)
    refine gj_goq gj_clT ok_264 [9, 39, 44, 57, 76, 82, 86, 93, 99, 103, 108, 111, 121] ?_
    show gj_Do E om0 (gj_mt 177) [(.ref 81), (.int x11)] SI6 SJ6 _
    refine gj_Do.mono q4 (fun v_ SI8 SJ8 h_ => ?_)
    obtain ⟨r7, rfl, q5⟩ := h_
    show gj_Goes E om0 mt_264 93 [some (.ref 81), some (.int x1), some (.int x2), some (.int x3), some (.int x4), some (.long x5), none, some (.long x7), none, some (.int x9), some (.int x10), some (.int x11)] [(.int r7), (.ref 81)] SI8 SJ8 (QL Q)
    refine gj_goq gj_clT ok_264 [9, 39, 44, 57, 76, 82, 86, 93, 99, 103, 108, 111, 121] ?_
    show gj_Do E om0 (gj_mt 178) [(.ref 81), (.int x11)] SI8 SJ8 _
    refine gj_Do.mono q5 (fun v_ SI10 SJ10 h_ => ?_)
    obtain ⟨r9, rfl, q6⟩ := h_
    show gj_Goes E om0 mt_264 99 [some (.ref 81), some (.int x1), some (.int x2), some (.int x3), some (.int x4), some (.long x5), none, some (.long x7), none, some (.int x9), some (.int x10), some (.int x11)] [(.int r9), (.int r7), (.ref 81)] SI10 SJ10 (QL Q)
    refine gj_goq gj_clT ok_264 [9, 39, 44, 57, 76, 82, 86, 93, 99, 103, 108, 111, 121] ?_
    show gj_Do E om0 (gj_mt 183) [(.ref 81), (.int r7), (.int r9), (.int (i3 1))] SI10 SJ10 _
    refine gj_Do.mono q6 (fun v_ SI12 SJ12 h_ => ?_)
    obtain ⟨rfl, q7⟩ := h_
    show gj_Goes E om0 mt_264 103 [some (.ref 81), some (.int x1), some (.int x2), some (.int x3), some (.int x4), some (.long x5), none, some (.long x7), none, some (.int x9), some (.int x10), some (.int x11)] [] SI12 SJ12 (QL Q)
    refine gj_goq gj_clT ok_264 [9, 39, 44, 57, 76, 82, 86, 93, 99, 103, 108, 111, 121] ?_
    show gj_Do E om0 (gj_mt 185) [(.ref 81)] SI12 SJ12 _
    refine gj_Do.mono q7 (fun v_ SI14 SJ14 h_ => ?_)
    obtain ⟨r13, rfl, q8⟩ := h_
    show gj_Goes E om0 mt_264 108 [some (.ref 81), some (.int x1), some (.int x2), some (.int x3), some (.int x4), some (.long x5), none, some (.long x7), none, some (.int x9), some (.int x10), some (.int x11)] [(.int r13), (.ref 81)] SI14 SJ14 (QL Q)
    refine gj_goq gj_clT ok_264 [9, 39, 44, 57, 76, 82, 86, 93, 99, 103, 108, 111, 121] ?_
    show gj_Do E om0 (gj_mt 194) [(.ref 81), (.int r13)] SI14 SJ14 _
    refine gj_Do.mono q8 (fun v_ SI16 SJ16 h_ => ?_)
    obtain ⟨r15, rfl, q9⟩ := h_
    show gj_Goes E om0 mt_264 111 [some (.ref 81), some (.int x1), some (.int x2), some (.int x3), some (.int x4), some (.long x5), none, some (.long x7), none, some (.int x9), some (.int x10), some (.int x11)] [(.int r15)] SI16 SJ16 (QL Q)
    refine gj_goq gj_clT ok_264 [9, 39, 44, 57, 76, 82, 86, 93, 99, 103, 108, 111, 121] ?_
    show (¬ r15 = 0 → gj_Goes E om0 mt_264 117 [some (.ref 81), some (.int x1), some (.int x2), some (.int x3), some (.int x4), some (.long x5), none, some (.long x7), none, some (.int x9), some (.int x10), some (.int x11)] [] SI16 SJ16 (QL Q)) ∧ (r15 = 0 → gj_Goes E om0 mt_264 169 [some (.ref 81), some (.int x1), some (.int x2), some (.int x3), some (.int x4), some (.long x5), none, some (.long x7), none, some (.int x9), some (.int x10), some (.int x11)] [] SI16 SJ16 (QL Q))
    refine ⟨fun c10 => ?_, fun c10 => ?_⟩
    · refine gj_goq gj_clT ok_264 [9, 39, 44, 57, 76, 82, 86, 93, 99, 103, 108, 111, 121] ?_
      show gj_Do E om0 (gj_mt 253) [(.ref 81)] SI16 SJ16 _
      refine gj_Do.mono (q9.1 c10) (fun v_ SI18 SJ18 h_ => ?_)
      obtain ⟨rfl, q11⟩ := h_
      show gj_Goes E om0 mt_264 121 [some (.ref 81), some (.int x1), some (.int x2), some (.int x3), some (.int x4), some (.long x5), none, some (.long x7), none, some (.int x9), some (.int x10), some (.int x11)] [] SI18 SJ18 (QL Q)
      refine gj_goq gj_clT ok_264 [9, 39, 44, 57, 76, 82, 86, 93, 99, 103, 108, 111, 121] ?_
      show (x3 < 0 → gj_Goes E om0 mt_264 150 [some (.ref 81), some (.int x1), some (.int (x2 + (i3 1))), some (.int x3), some (.int x4), some (.long x5), none, some (.long x7), none, some (.int x9), some (.int x10), some (.int x11)] [] SI18 SJ18 (QL Q)) ∧ (¬ x3 < 0 → (0 < (lg_cmp ((SJ18 81 43) * x7) (x5 * (SJ18 81 44))) → gj_Goes E om0 mt_264 150 [some (.ref 81), some (.int x1), some (.int (x2 + (i3 1))), some (.int x3), some (.int x4), some (.long x5), none, some (.long x7), none, some (.int x9), some (.int x10), some (.int x11)] [] SI18 SJ18 (QL Q)) ∧ (¬ 0 < (lg_cmp ((SJ18 81 43) * x7) (x5 * (SJ18 81 44))) → gj_Goes E om0 mt_264 169 [some (.ref 81), some (.int x1), some (.int (x2 + (i3 1))), some (.int x3), some (.int x4), some (.long x5), none, some (.long x7), none, some (.int x9), some (.int x10), some (.int x11)] [] SI18 SJ18 (QL Q)))
      refine ⟨fun c12 => ?_, fun c12 => ?_⟩
      · refine gj_goq gj_clT ok_264 [9, 39, 44, 57, 76, 82, 86, 93, 99, 103, 108, 111, 121] ?_
        show gj_Goes E om0 mt_264 57 [some (.ref 81), some (.int x1), some (.int (x2 + (i3 1))), some (.int x10), some (.int x11), some (.long (SJ18 81 43)), none, some (.long (SJ18 81 44)), none, some (.int x9), some (.int x10), some (.int (x11 + (i3 1)))] [] SI18 SJ18 (QL Q)
        exact (q11.1 c12)
      · refine ⟨fun c13 => ?_, fun c13 => ?_⟩
        · refine gj_goq gj_clT ok_264 [9, 39, 44, 57, 76, 82, 86, 93, 99, 103, 108, 111, 121] ?_
          show gj_Goes E om0 mt_264 57 [some (.ref 81), some (.int x1), some (.int (x2 + (i3 1))), some (.int x10), some (.int x11), some (.long (SJ18 81 43)), none, some (.long (SJ18 81 44)), none, some (.int x9), some (.int x10), some (.int (x11 + (i3 1)))] [] SI18 SJ18 (QL Q)
          exact ((q11.2 c12).1 (lgc_gt.mp c13))
        · refine gj_goq gj_clT ok_264 [9, 39, 44, 57, 76, 82, 86, 93, 99, 103, 108, 111, 121] ?_
          show gj_Goes E om0 mt_264 57 [some (.ref 81), some (.int x1), some (.int (x2 + (i3 1))), some (.int x3), some (.int x4), some (.long x5), none, some (.long x7), none, some (.int x9), some (.int x10), some (.int (x11 + (i3 1)))] [] SI18 SJ18 (QL Q)
          exact ((q11.2 c12).2 (fun z_ => c13 (lgc_gt.mpr z_)))
    · refine gj_goq gj_clT ok_264 [9, 39, 44, 57, 76, 82, 86, 93, 99, 103, 108, 111, 121] ?_
      show gj_Goes E om0 mt_264 57 [some (.ref 81), some (.int x1), some (.int x2), some (.int x3), some (.int x4), some (.long x5), none, some (.long x7), none, some (.int x9), some (.int x10), some (.int (x11 + (i3 1)))] [] SI16 SJ16 (QL Q)
      exact (q9.2 c10)
set_option maxRecDepth 20000 in
/-- GraspJudgeModel.isFirmAt -/
theorem st_265 {E : gj_E} {Q : Int32 → gj_I → gj_J → Prop} (a1 : Int32) (a2 : Int32) (SI : gj_I) (SJ : gj_J) (h : vp_in ((i3 24) + a1) 135 ∧ (DoI E 195 [(.ref 81)] (gj_u2 SI 82 (gj_n ((i3 24) + a1)) a2) SJ (fun r1 SI2 SJ2 => (r1 = 0 ∨ r1 = 1) ∧ (Q r1 (gj_u2 SI2 82 (gj_n ((i3 24) + a1)) (SI 82 (gj_n ((i3 24) + a1)))) SJ2)))) : DoI E 265 [(.ref 81), (.int a1), (.int a2)] SI SJ Q := by
  refine gj_start (M := mt_265) ok_265 (Nat.le_of_ble_eq_true rfl) ?_
  refine gj_goq gj_clT ok_265 [24] ?_
  show vp_in ((i3 24) + a1) 135 ∧ (vp_in ((i3 24) + a1) 135 ∧ (gj_Do E om0 (gj_mt 195) [(.ref 81)] (gj_u2 SI 82 (gj_n ((i3 24) + a1)) a2) SJ _))
  have k1 := h.1
  refine ⟨k1, ?_⟩
  refine ⟨k1, ?_⟩
  refine gj_Do.mono h.2 (fun v_ SI2 SJ2 h_ => ?_)
  obtain ⟨r1, rfl, q2⟩ := h_
  show gj_Goes E om0 mt_265 24 [some (.ref 81), some (.int a1), some (.int a2), some (.int (SI 82 (gj_n ((i3 24) + a1)))), none] [(.int r1)] SI2 SJ2 (QI Q)
  refine gj_goq gj_clT ok_265 [24] ?_
  show vp_in ((i3 24) + a1) 135 ∧ ((r1 = 0 ∨ r1 = 1) ∧ (QI Q (some (.int r1)) (gj_u2 SI2 82 (gj_n ((i3 24) + a1)) (SI 82 (gj_n ((i3 24) + a1)))) SJ2))
  refine ⟨k1, ?_⟩
  have k3 := q2.1
  refine ⟨k3, ?_⟩
  exact ⟨_, rfl, q2.2⟩
set_option maxRecDepth 20000 in
/-- GraspJudgeModel.slide -/
theorem st_266 {E : gj_E} {Q : Int32 → gj_I → gj_J → Prop} (a1 : Int32) (a2 : Int32) (SI : gj_I) (SJ : gj_J) (h : DoI E 181 [(.ref 81), (.int a1)] SI SJ (fun r1 SI2 SJ2 => (r1 = 0 → Q (i3 (-1)) SI2 SJ2) ∧ (¬ r1 = 0 → DoI E 155 [(.long (a2).toInt64), (.long (i6 0)), (.long (i6 1))] SI2 SJ2 (fun r3 SI4 SJ4 => (¬ r3 = 0 → DoI E 195 [(.ref 81)] SI4 SJ4 (fun r5 SI6 SJ6 => (¬ r5 = 0 → vp_in ((i3 18) + a1) 135 ∧ ((¬ a2 = 0 → vp_in ((i3 24) + a1) 135 ∧ (GoI E mt_266 62 [some (.ref 81), some (.int a1), none, some (.int (SI6 82 (gj_n ((i3 18) + a1)))), some (.int (i3 1)), some (.int (SI6 82 (gj_n ((i3 24) + a1))))] SI6 SJ6 Q)) ∧ (a2 = 0 → vp_in ((i3 24) + a1) 135 ∧ (GoI E mt_266 62 [some (.ref 81), some (.int a1), none, some (.int (SI6 82 (gj_n ((i3 18) + a1)))), some (.int (i3 (-1))), some (.int (SI6 82 (gj_n ((i3 24) + a1))))] SI6 SJ6 Q)))) ∧ (r5 = 0 → Q (i3 (-2)) SI6 SJ6))) ∧ (r3 = 0 → Q (i3 (-1)) SI4 SJ4))))) : DoI E 266 [(.ref 81), (.int a1), (.int a2)] SI SJ Q := by
  refine gj_start (M := mt_266) ok_266 (Nat.le_of_ble_eq_true rfl) ?_
  refine gj_goq gj_clT ok_266 [5, 15, 24, 62, 74, 80, 93, 107] ?_
  show gj_Do E om0 (gj_mt 181) [(.ref 81), (.int a1)] SI SJ _
  refine gj_Do.mono h (fun v_ SI2 SJ2 h_ => ?_)
  obtain ⟨r1, rfl, q1⟩ := h_
  show gj_Goes E om0 mt_266 5 [some (.ref 81), some (.int a1), some (.int a2), none, none, none] [(.int r1)] SI2 SJ2 (QI Q)
  refine gj_goq gj_clT ok_266 [5, 15, 24, 62, 74, 80, 93, 107] ?_
  show (r1 = 0 → gj_Goes E om0 mt_266 18 [some (.ref 81), some (.int a1), some (.int a2), none, none, none] [] SI2 SJ2 (QI Q)) ∧ (¬ r1 = 0 → gj_Do E om0 (gj_mt 155) [(.long (a2).toInt64), (.long (i6 0)), (.long (i6 1))] SI2 SJ2 _)
  refine ⟨fun c2 => ?_, fun c2 => ?_⟩
  · refine gj_goq gj_clT ok_266 [5, 15, 24, 62, 74, 80, 93, 107] ?_
    show QI Q (some (.int (i3 (-1)))) SI2 SJ2
    exact ⟨_, rfl, (q1.1 c2)⟩
  · refine gj_Do.mono (q1.2 c2) (fun v_ SI4 SJ4 h_ => ?_)
    obtain ⟨r3, rfl, q3⟩ := h_
    show gj_Goes E om0 mt_266 15 [some (.ref 81), some (.int a1), some (.int a2), none, none, none] [(.int r3)] SI4 SJ4 (QI Q)
    refine gj_goq gj_clT ok_266 [5, 15, 24, 62, 74, 80, 93, 107] ?_
    show (¬ r3 = 0 → gj_Goes E om0 mt_266 20 [some (.ref 81), some (.int a1), some (.int a2), none, none, none] [] SI4 SJ4 (QI Q)) ∧ (r3 = 0 → QI Q (some (.int (i3 (-1)))) SI4 SJ4)
    refine ⟨fun c4 => ?_, fun c4 => ?_⟩
    · refine gj_goq gj_clT ok_266 [5, 15, 24, 62, 74, 80, 93, 107] ?_
      show gj_Do E om0 (gj_mt 195) [(.ref 81)] SI4 SJ4 _
      refine gj_Do.mono (q3.1 c4) (fun v_ SI6 SJ6 h_ => ?_)
      obtain ⟨r5, rfl, q5⟩ := h_
      show gj_Goes E om0 mt_266 24 [some (.ref 81), some (.int a1), some (.int a2), none, none, none] [(.int r5)] SI6 SJ6 (QI Q)
      refine gj_goq gj_clT ok_266 [5, 15, 24, 62, 74, 80, 93, 107] ?_
      show (¬ r5 = 0 → gj_Goes E om0 mt_266 30 [some (.ref 81), some (.int a1), some (.int a2), none, none, none] [] SI6 SJ6 (QI Q)) ∧ (r5 = 0 → QI Q (some (.int (i3 (-2)))) SI6 SJ6)
      refine ⟨fun c6 => ?_, fun c6 => ?_⟩
      · refine gj_goq gj_clT ok_266 [5, 15, 24, 62, 74, 80, 93, 107] ?_
        show vp_in ((i3 18) + a1) 135 ∧ ((¬ a2 = 0 → gj_Goes E om0 mt_266 48 [some (.ref 81), some (.int a1), some (.int a2), some (.int (SI6 82 (gj_n ((i3 18) + a1)))), none, none] [] SI6 SJ6 (QI Q)) ∧ (a2 = 0 → gj_Goes E om0 mt_266 49 [some (.ref 81), some (.int a1), some (.int a2), some (.int (SI6 82 (gj_n ((i3 18) + a1)))), none, none] [(.int (i3 (-1)))] SI6 SJ6 (QI Q)))
        have k7 := (q5.1 c6).1
        refine ⟨k7, ?_⟩
        refine ⟨fun c8 => ?_, fun c8 => ?_⟩
        · refine gj_goq gj_clT ok_266 [5, 15, 24, 62, 74, 80, 93, 107] ?_
          show vp_in ((i3 24) + a1) 135 ∧ (gj_Goes E om0 mt_266 62 [some (.ref 81), some (.int a1), some (.int a2), some (.int (SI6 82 (gj_n ((i3 18) + a1)))), some (.int (i3 1)), some (.int (SI6 82 (gj_n ((i3 24) + a1))))] [] SI6 SJ6 (QI Q))
          have k9 := ((q5.1 c6).2.1 c8).1
          refine ⟨k9, ?_⟩
          exact gj_fh ((q5.1 c6).2.1 c8).2 (And.intro (Or.inr rfl) (And.intro (Or.inr rfl) (And.intro (Or.inl rfl) (And.intro (Or.inr rfl) (And.intro (Or.inr rfl) (And.intro (Or.inr rfl) trivial))))))
        · refine gj_goq gj_clT ok_266 [5, 15, 24, 62, 74, 80, 93, 107] ?_
          show vp_in ((i3 24) + a1) 135 ∧ (gj_Goes E om0 mt_266 62 [some (.ref 81), some (.int a1), some (.int a2), some (.int (SI6 82 (gj_n ((i3 18) + a1)))), some (.int (i3 (-1))), some (.int (SI6 82 (gj_n ((i3 24) + a1))))] [] SI6 SJ6 (QI Q))
          have k10 := ((q5.1 c6).2.2 c8).1
          refine ⟨k10, ?_⟩
          exact gj_fh ((q5.1 c6).2.2 c8).2 (And.intro (Or.inr rfl) (And.intro (Or.inr rfl) (And.intro (Or.inl rfl) (And.intro (Or.inr rfl) (And.intro (Or.inr rfl) (And.intro (Or.inr rfl) trivial))))))
      · exact ⟨_, rfl, (q5.2 c6)⟩
    · exact ⟨_, rfl, (q3.2 c4)⟩
set_option maxRecDepth 20000 in
theorem lp_266_62 {E : gj_E} {Q : Int32 → gj_I → gj_J → Prop} (x1 : Int32) (x3 : Int32) (x4 : Int32) (x5 : Int32) (SI : gj_I) (SJ : gj_J) (h : DoI E 165 [(.ref 81), (.int x3)] SI SJ (fun r1 SI2 SJ2 => DoI E 155 [(.long (x5 + x4).toInt64), (.long (i6 1)), (.long (r1 - (i3 1)).toInt64)] SI2 SJ2 (fun r3 SI4 SJ4 => (r3 = 0 → Q x5 SI4 SJ4) ∧ (¬ r3 = 0 → DoI E 180 [(.ref 81), (.int x3), (.int (x5 + x4))] SI4 SJ4 (fun r5 SI6 SJ6 => (¬ r5 = (i3 (-1)) → Q x5 SI6 SJ6) ∧ (r5 = (i3 (-1)) → DoI E 265 [(.ref 81), (.int x1), (.int (x5 + x4))] SI6 SJ6 (fun r7 SI8 SJ8 => (r7 = 0 → Q x5 SI8 SJ8) ∧ (¬ r7 = 0 → GoI E mt_266 62 [some (.ref 81), some (.int x1), none, some (.int x3), some (.int x4), some (.int (x5 + x4))] SI8 SJ8 Q)))))))) : GoI E mt_266 62 [some (.ref 81), some (.int x1), none, some (.int x3), some (.int x4), some (.int x5)] SI SJ Q := by
  refine gj_goq gj_clT ok_266 [5, 15, 24, 62, 74, 80, 93, 107] ?_
  show gj_Do E om0 (gj_mt 165) [(.ref 81), (.int x3)] SI SJ _
  refine gj_Do.mono h (fun v_ SI2 SJ2 h_ => ?_)
  obtain ⟨r1, rfl, q1⟩ := h_
  show gj_Goes E om0 mt_266 74 [some (.ref 81), some (.int x1), none, some (.int x3), some (.int x4), some (.int x5)] [(.int r1), (.long (i6 1)), (.long (x5 + x4).toInt64)] SI2 SJ2 (QI Q)
  refine gj_goq gj_clT ok_266 [5, 15, 24, 62, 74, 80, 93, 107] ?_
  show gj_Do E om0 (gj_mt 155) [(.long (x5 + x4).toInt64), (.long (i6 1)), (.long (r1 - (i3 1)).toInt64)] SI2 SJ2 _
  refine gj_Do.mono q1 (fun v_ SI4 SJ4 h_ => ?_)
  obtain ⟨r3, rfl, q2⟩ := h_
  show gj_Goes E om0 mt_266 80 [some (.ref 81), some (.int x1), none, some (.int x3), some (.int x4), some (.int x5)] [(.int r3)] SI4 SJ4 (QI Q)
  refine gj_goq gj_clT ok_266 [5, 15, 24, 62, 74, 80, 93, 107] ?_
  show (r3 = 0 → gj_Goes E om0 mt_266 120 [some (.ref 81), some (.int x1), none, some (.int x3), some (.int x4), some (.int x5)] [] SI4 SJ4 (QI Q)) ∧ (¬ r3 = 0 → gj_Do E om0 (gj_mt 180) [(.ref 81), (.int x3), (.int (x5 + x4))] SI4 SJ4 _)
  refine ⟨fun c3 => ?_, fun c3 => ?_⟩
  · refine gj_goq gj_clT ok_266 [5, 15, 24, 62, 74, 80, 93, 107] ?_
    show QI Q (some (.int x5)) SI4 SJ4
    exact ⟨_, rfl, (q2.1 c3)⟩
  · refine gj_Do.mono (q2.2 c3) (fun v_ SI6 SJ6 h_ => ?_)
    obtain ⟨r5, rfl, q4⟩ := h_
    show gj_Goes E om0 mt_266 93 [some (.ref 81), some (.int x1), none, some (.int x3), some (.int x4), some (.int x5)] [(.int r5)] SI6 SJ6 (QI Q)
    refine gj_goq gj_clT ok_266 [5, 15, 24, 62, 74, 80, 93, 107] ?_
    show (¬ r5 = (i3 (-1)) → gj_Goes E om0 mt_266 120 [some (.ref 81), some (.int x1), none, some (.int x3), some (.int x4), some (.int x5)] [] SI6 SJ6 (QI Q)) ∧ (r5 = (i3 (-1)) → gj_Do E om0 (gj_mt 265) [(.ref 81), (.int x1), (.int (x5 + x4))] SI6 SJ6 _)
    refine ⟨fun c5 => ?_, fun c5 => ?_⟩
    · refine gj_goq gj_clT ok_266 [5, 15, 24, 62, 74, 80, 93, 107] ?_
      show QI Q (some (.int x5)) SI6 SJ6
      exact ⟨_, rfl, (q4.1 c5)⟩
    · refine gj_Do.mono (q4.2 c5) (fun v_ SI8 SJ8 h_ => ?_)
      obtain ⟨r7, rfl, q6⟩ := h_
      show gj_Goes E om0 mt_266 107 [some (.ref 81), some (.int x1), none, some (.int x3), some (.int x4), some (.int x5)] [(.int r7)] SI8 SJ8 (QI Q)
      refine gj_goq gj_clT ok_266 [5, 15, 24, 62, 74, 80, 93, 107] ?_
      show (r7 = 0 → gj_Goes E om0 mt_266 120 [some (.ref 81), some (.int x1), none, some (.int x3), some (.int x4), some (.int x5)] [] SI8 SJ8 (QI Q)) ∧ (¬ r7 = 0 → gj_Goes E om0 mt_266 62 [some (.ref 81), some (.int x1), none, some (.int x3), some (.int x4), some (.int (x5 + x4))] [] SI8 SJ8 (QI Q))
      refine ⟨fun c7 => ?_, fun c7 => ?_⟩
      · refine gj_goq gj_clT ok_266 [5, 15, 24, 62, 74, 80, 93, 107] ?_
        show QI Q (some (.int x5)) SI8 SJ8
        exact ⟨_, rfl, (q6.1 c7)⟩
      · exact (q6.2 c7)
set_option maxRecDepth 20000 in
/-- GraspJudgeModel.rough -/
theorem st_267 {E : gj_E} {Q : Int32 → gj_I → gj_J → Prop} (a1 : Int32) (SI : gj_I) (SJ : gj_J) (h : DoI E 155 [(.long (a1).toInt64), (.long (i6 0)), (.long (i6 1))] SI SJ (fun r1 SI2 SJ2 => (¬ r1 = 0 → GoI E mt_267 37 [some (.ref 81), some (.int a1), some (.int (SI2 82 30)), some (.int (SI2 82 31)), some (.int (i3 (-1))), some (.int (i3 1)), some (.int (i3 0)), none] SI2 SJ2 Q) ∧ (r1 = 0 → Q (i3 (-1)) SI2 SJ2))) : DoI E 267 [(.ref 81), (.int a1)] SI SJ Q := by
  refine gj_start (M := mt_267) ok_267 (Nat.le_of_ble_eq_true rfl) ?_
  refine gj_goq gj_clT ok_267 [7, 37, 46, 93, 153] ?_
  show gj_Do E om0 (gj_mt 155) [(.long (a1).toInt64), (.long (i6 0)), (.long (i6 1))] SI SJ _
  refine gj_Do.mono h (fun v_ SI2 SJ2 h_ => ?_)
  obtain ⟨r1, rfl, q1⟩ := h_
  show gj_Goes E om0 mt_267 7 [some (.ref 81), some (.int a1), none, none, none, none, none, none] [(.int r1)] SI2 SJ2 (QI Q)
  refine gj_goq gj_clT ok_267 [7, 37, 46, 93, 153] ?_
  show (¬ r1 = 0 → gj_Goes E om0 mt_267 12 [some (.ref 81), some (.int a1), none, none, none, none, none, none] [] SI2 SJ2 (QI Q)) ∧ (r1 = 0 → QI Q (some (.int (i3 (-1)))) SI2 SJ2)
  refine ⟨fun c2 => ?_, fun c2 => ?_⟩
  · refine gj_goq gj_clT ok_267 [7, 37, 46, 93, 153] ?_
    show vp_in (i3 30) 135 ∧ (vp_in (i3 31) 135 ∧ (gj_Goes E om0 mt_267 37 [some (.ref 81), some (.int a1), some (.int (SI2 82 30)), some (.int (SI2 82 31)), some (.int (i3 (-1))), some (.int (i3 1)), some (.int (i3 0)), none] [] SI2 SJ2 (QI Q)))
    refine ⟨(gj_vin (by decide)), ?_⟩
    refine ⟨(gj_vin (by decide)), ?_⟩
    exact (q1.1 c2)
  · exact ⟨_, rfl, (q1.2 c2)⟩
set_option maxRecDepth 20000 in
theorem lp_267_37 {E : gj_E} {Q : Int32 → gj_I → gj_J → Prop} (x1 : Int32) (x2 : Int32) (x3 : Int32) (x4 : Int32) (x5 : Int32) (x6 : Int32) (SI : gj_I) (SJ : gj_J) (h : ((i3 4) ≤ x6 → (¬ x4 = (i3 (-1)) → DoL E 161 [(.long (x4).toInt64), (.long (x5).toInt64)] (gj_u2 (gj_u2 SI 82 30 x2) 82 31 x3) SJ (fun r1 SI2 SJ2 => (¬ x1 = 0 → ¬ (r1).toInt32 = 0 ∧ (Q (x5 / (r1).toInt32) SI2 SJ2)) ∧ (x1 = 0 → ¬ (r1).toInt32 = 0 ∧ (Q (x4 / (r1).toInt32) SI2 SJ2)))) ∧ (x4 = (i3 (-1)) → Q (i3 (-2)) (gj_u2 (gj_u2 SI 82 30 x2) 82 31 x3) SJ)) ∧ (¬ (i3 4) ≤ x6 → GoI E mt_267 46 [some (.ref 81), some (.int x1), some (.int x2), some (.int x3), some (.int x4), some (.int x5), some (.int x6), some (.int (i3 1))] SI SJ Q)) : GoI E mt_267 37 [some (.ref 81), some (.int x1), some (.int x2), some (.int x3), some (.int x4), some (.int x5), some (.int x6), none] SI SJ Q := by
  refine gj_goq gj_clT ok_267 [7, 37, 46, 93, 153] ?_
  show ((i3 4) ≤ x6 → gj_Goes E om0 mt_267 119 [some (.ref 81), some (.int x1), some (.int x2), some (.int x3), some (.int x4), some (.int x5), some (.int x6), none] [] SI SJ (QI Q)) ∧ (¬ (i3 4) ≤ x6 → gj_Goes E om0 mt_267 46 [some (.ref 81), some (.int x1), some (.int x2), some (.int x3), some (.int x4), some (.int x5), some (.int x6), some (.int (i3 1))] [] SI SJ (QI Q))
  refine ⟨fun c1 => ?_, fun c1 => ?_⟩
  · refine gj_goq gj_clT ok_267 [7, 37, 46, 93, 153] ?_
    show vp_in (i3 30) 135 ∧ (vp_in (i3 31) 135 ∧ ((¬ x4 = (i3 (-1)) → gj_Goes E om0 mt_267 144 [some (.ref 81), some (.int x1), some (.int x2), some (.int x3), some (.int x4), some (.int x5), some (.int x6), none] [] (gj_u2 (gj_u2 SI 82 30 x2) 82 31 x3) SJ (QI Q)) ∧ (x4 = (i3 (-1)) → QI Q (some (.int (i3 (-2)))) (gj_u2 (gj_u2 SI 82 30 x2) 82 31 x3) SJ)))
    refine ⟨(gj_vin (by decide)), ?_⟩
    refine ⟨(gj_vin (by decide)), ?_⟩
    refine ⟨fun c2 => ?_, fun c2 => ?_⟩
    · refine gj_goq gj_clT ok_267 [7, 37, 46, 93, 153] ?_
      show gj_Do E om0 (gj_mt 161) [(.long (x4).toInt64), (.long (x5).toInt64)] (gj_u2 (gj_u2 SI 82 30 x2) 82 31 x3) SJ _
      refine gj_Do.mono ((h.1 c1).1 c2) (fun v_ SI2 SJ2 h_ => ?_)
      obtain ⟨r1, rfl, q3⟩ := h_
      show gj_Goes E om0 mt_267 153 [some (.ref 81), some (.int x1), some (.int x2), some (.int x3), some (.int x4), some (.int x5), some (.int x6), none] [(.long r1)] SI2 SJ2 (QI Q)
      refine gj_goq gj_clT ok_267 [7, 37, 46, 93, 153] ?_
      show (¬ x1 = 0 → gj_Goes E om0 mt_267 168 [some (.ref 81), some (.int x1), some (.int x2), some (.int x3), some (.int x4), some (.int x5), some (.int (r1).toInt32), none] [] SI2 SJ2 (QI Q)) ∧ (x1 = 0 → ¬ (r1).toInt32 = 0 ∧ (gj_Goes E om0 mt_267 173 [some (.ref 81), some (.int x1), some (.int x2), some (.int x3), some (.int x4), some (.int x5), some (.int (r1).toInt32), none] [(.int (x4 / (r1).toInt32))] SI2 SJ2 (QI Q)))
      refine ⟨fun c4 => ?_, fun c4 => ?_⟩
      · refine gj_goq gj_clT ok_267 [7, 37, 46, 93, 153] ?_
        show ¬ (r1).toInt32 = 0 ∧ (QI Q (some (.int (x5 / (r1).toInt32))) SI2 SJ2)
        have k5 := (q3.1 c4).1
        refine ⟨k5, ?_⟩
        exact ⟨_, rfl, (q3.1 c4).2⟩
      · have k6 := (q3.2 c4).1
        refine ⟨k6, ?_⟩
        refine gj_goq gj_clT ok_267 [7, 37, 46, 93, 153] ?_
        show QI Q (some (.int (x4 / (r1).toInt32))) SI2 SJ2
        exact ⟨_, rfl, (q3.2 c4).2⟩
    · exact ⟨_, rfl, ((h.1 c1).2 c2)⟩
  · exact (h.2 c1)
set_option maxRecDepth 20000 in
theorem lp_267_46 {E : gj_E} {Q : Int32 → gj_I → gj_J → Prop} (x1 : Int32) (x2 : Int32) (x3 : Int32) (x4 : Int32) (x5 : Int32) (x6 : Int32) (x7 : Int32) (SI : gj_I) (SJ : gj_J) (h : ((i3 4) ≤ x7 → GoI E mt_267 37 [some (.ref 81), some (.int x1), some (.int x2), some (.int x3), some (.int x4), some (.int x5), some (.int (x6 + (i3 1))), none] SI SJ Q) ∧ (¬ (i3 4) ≤ x7 → (x4 = (i3 (-1)) → DoI E 195 [(.ref 81)] (gj_u2 (gj_u2 SI 82 30 x6) 82 31 x7) SJ (fun r1 SI2 SJ2 => (¬ r1 = 0 → GoI E mt_267 46 [some (.ref 81), some (.int x1), some (.int x2), some (.int x3), some (.int x6), some (.int x7), some (.int x6), some (.int (x7 + (i3 1)))] SI2 SJ2 Q) ∧ (r1 = 0 → GoI E mt_267 46 [some (.ref 81), some (.int x1), some (.int x2), some (.int x3), some (.int x4), some (.int x5), some (.int x6), some (.int (x7 + (i3 1)))] SI2 SJ2 Q))) ∧ (¬ x4 = (i3 (-1)) → ((x4 * x7) ≤ (x6 * x5) → GoI E mt_267 46 [some (.ref 81), some (.int x1), some (.int x2), some (.int x3), some (.int x4), some (.int x5), some (.int x6), some (.int (x7 + (i3 1)))] (gj_u2 (gj_u2 SI 82 30 x6) 82 31 x7) SJ Q) ∧ (¬ (x4 * x7) ≤ (x6 * x5) → DoI E 195 [(.ref 81)] (gj_u2 (gj_u2 SI 82 30 x6) 82 31 x7) SJ (fun r3 SI4 SJ4 => (¬ r3 = 0 → GoI E mt_267 46 [some (.ref 81), some (.int x1), some (.int x2), some (.int x3), some (.int x6), some (.int x7), some (.int x6), some (.int (x7 + (i3 1)))] SI4 SJ4 Q) ∧ (r3 = 0 → GoI E mt_267 46 [some (.ref 81), some (.int x1), some (.int x2), some (.int x3), some (.int x4), some (.int x5), some (.int x6), some (.int (x7 + (i3 1)))] SI4 SJ4 Q)))))) : GoI E mt_267 46 [some (.ref 81), some (.int x1), some (.int x2), some (.int x3), some (.int x4), some (.int x5), some (.int x6), some (.int x7)] SI SJ Q := by
  refine gj_goq gj_clT ok_267 [7, 37, 46, 93, 153] ?_
  show ((i3 4) ≤ x7 → gj_Goes E om0 mt_267 113 [some (.ref 81), some (.int x1), some (.int x2), some (.int x3), some (.int x4), some (.int x5), some (.int x6), some (.int x7)] [] SI SJ (QI Q)) ∧ (¬ (i3 4) ≤ x7 → vp_in (i3 30) 135 ∧ (vp_in (i3 31) 135 ∧ ((x4 = (i3 (-1)) → gj_Goes E om0 mt_267 89 [some (.ref 81), some (.int x1), some (.int x2), some (.int x3), some (.int x4), some (.int x5), some (.int x6), some (.int x7)] [] (gj_u2 (gj_u2 SI 82 30 x6) 82 31 x7) SJ (QI Q)) ∧ (¬ x4 = (i3 (-1)) → ((x4 * x7) ≤ (x6 * x5) → gj_Goes E om0 mt_267 107 [some (.ref 81), some (.int x1), some (.int x2), some (.int x3), some (.int x4), some (.int x5), some (.int x6), some (.int x7)] [] (gj_u2 (gj_u2 SI 82 30 x6) 82 31 x7) SJ (QI Q)) ∧ (¬ (x4 * x7) ≤ (x6 * x5) → gj_Do E om0 (gj_mt 195) [(.ref 81)] (gj_u2 (gj_u2 SI 82 30 x6) 82 31 x7) SJ _)))))
  refine ⟨fun c1 => ?_, fun c1 => ?_⟩
  · refine gj_goq gj_clT ok_267 [7, 37, 46, 93, 153] ?_
    show gj_Goes E om0 mt_267 37 [some (.ref 81), some (.int x1), some (.int x2), some (.int x3), some (.int x4), some (.int x5), some (.int (x6 + (i3 1))), some (.int x7)] [] SI SJ (QI Q)
    exact gj_fh (h.1 c1) (And.intro (Or.inr rfl) (And.intro (Or.inr rfl) (And.intro (Or.inr rfl) (And.intro (Or.inr rfl) (And.intro (Or.inr rfl) (And.intro (Or.inr rfl) (And.intro (Or.inr rfl) (And.intro (Or.inl rfl) trivial))))))))
  · refine ⟨(gj_vin (by decide)), ?_⟩
    refine ⟨(gj_vin (by decide)), ?_⟩
    refine ⟨fun c2 => ?_, fun c2 => ?_⟩
    · refine gj_goq gj_clT ok_267 [7, 37, 46, 93, 153] ?_
      show gj_Do E om0 (gj_mt 195) [(.ref 81)] (gj_u2 (gj_u2 SI 82 30 x6) 82 31 x7) SJ _
      refine gj_Do.mono ((h.2 c1).1 c2) (fun v_ SI2 SJ2 h_ => ?_)
      obtain ⟨r1, rfl, q3⟩ := h_
      show gj_Goes E om0 mt_267 93 [some (.ref 81), some (.int x1), some (.int x2), some (.int x3), some (.int x4), some (.int x5), some (.int x6), some (.int x7)] [(.int r1)] SI2 SJ2 (QI Q)
      refine gj_goq gj_clT ok_267 [7, 37, 46, 93, 153] ?_
      show (¬ r1 = 0 → gj_Goes E om0 mt_267 99 [some (.ref 81), some (.int x1), some (.int x2), some (.int x3), some (.int x4), some (.int x5), some (.int x6), some (.int x7)] [] SI2 SJ2 (QI Q)) ∧ (r1 = 0 → gj_Goes E om0 mt_267 107 [some (.ref 81), some (.int x1), some (.int x2), some (.int x3), some (.int x4), some (.int x5), some (.int x6), some (.int x7)] [] SI2 SJ2 (QI Q))
      refine ⟨fun c4 => ?_, fun c4 => ?_⟩
      · refine gj_goq gj_clT ok_267 [7, 37, 46, 93, 153] ?_
        show gj_Goes E om0 mt_267 46 [some (.ref 81), some (.int x1), some (.int x2), some (.int x3), some (.int x6), some (.int x7), some (.int x6), some (.int (x7 + (i3 1)))] [] SI2 SJ2 (QI Q)
        exact (q3.1 c4)
      · refine gj_goq gj_clT ok_267 [7, 37, 46, 93, 153] ?_
        show gj_Goes E om0 mt_267 46 [some (.ref 81), some (.int x1), some (.int x2), some (.int x3), some (.int x4), some (.int x5), some (.int x6), some (.int (x7 + (i3 1)))] [] SI2 SJ2 (QI Q)
        exact (q3.2 c4)
    · refine ⟨fun c5 => ?_, fun c5 => ?_⟩
      · refine gj_goq gj_clT ok_267 [7, 37, 46, 93, 153] ?_
        show gj_Goes E om0 mt_267 46 [some (.ref 81), some (.int x1), some (.int x2), some (.int x3), some (.int x4), some (.int x5), some (.int x6), some (.int (x7 + (i3 1)))] [] (gj_u2 (gj_u2 SI 82 30 x6) 82 31 x7) SJ (QI Q)
        exact (((h.2 c1).2 c2).1 c5)
      · refine gj_Do.mono (((h.2 c1).2 c2).2 c5) (fun v_ SI4 SJ4 h_ => ?_)
        obtain ⟨r3, rfl, q6⟩ := h_
        show gj_Goes E om0 mt_267 93 [some (.ref 81), some (.int x1), some (.int x2), some (.int x3), some (.int x4), some (.int x5), some (.int x6), some (.int x7)] [(.int r3)] SI4 SJ4 (QI Q)
        refine gj_goq gj_clT ok_267 [7, 37, 46, 93, 153] ?_
        show (¬ r3 = 0 → gj_Goes E om0 mt_267 99 [some (.ref 81), some (.int x1), some (.int x2), some (.int x3), some (.int x4), some (.int x5), some (.int x6), some (.int x7)] [] SI4 SJ4 (QI Q)) ∧ (r3 = 0 → gj_Goes E om0 mt_267 107 [some (.ref 81), some (.int x1), some (.int x2), some (.int x3), some (.int x4), some (.int x5), some (.int x6), some (.int x7)] [] SI4 SJ4 (QI Q))
        refine ⟨fun c7 => ?_, fun c7 => ?_⟩
        · refine gj_goq gj_clT ok_267 [7, 37, 46, 93, 153] ?_
          show gj_Goes E om0 mt_267 46 [some (.ref 81), some (.int x1), some (.int x2), some (.int x3), some (.int x6), some (.int x7), some (.int x6), some (.int (x7 + (i3 1)))] [] SI4 SJ4 (QI Q)
          exact (q6.1 c7)
        · refine gj_goq gj_clT ok_267 [7, 37, 46, 93, 153] ?_
          show gj_Goes E om0 mt_267 46 [some (.ref 81), some (.int x1), some (.int x2), some (.int x3), some (.int x4), some (.int x5), some (.int x6), some (.int (x7 + (i3 1)))] [] SI4 SJ4 (QI Q)
          exact (q6.2 c7)
set_option maxRecDepth 20000 in
/-- GraspJudgeModel.sees -/
theorem st_268 {E : gj_E} {Q : Int32 → gj_I → gj_J → Prop} (a1 : Int32) (a2 : Int32) (SI : gj_I) (SJ : gj_J) (h : DoI E 177 [(.ref 81), (.int a1)] SI SJ (fun r1 SI2 SJ2 => DoI E 177 [(.ref 81), (.int a2)] SI2 SJ2 (fun r3 SI4 SJ4 => DoI E 178 [(.ref 81), (.int a2)] SI4 SJ4 (fun r5 SI6 SJ6 => DoI E 168 [(.ref 81), (.int r3), (.int r5)] SI6 SJ6 (fun r7 SI8 SJ8 => DoI E 178 [(.ref 81), (.int a1)] SI8 SJ8 (fun r9 SI10 SJ10 => DoI E 168 [(.ref 81), (.int r1), (.int r9)] SI10 SJ10 (fun r11 SI12 SJ12 => DoI E 177 [(.ref 81), (.int a2)] SI12 SJ12 (fun r13 SI14 SJ14 => DoI E 178 [(.ref 81), (.int a2)] SI14 SJ14 (fun r15 SI16 SJ16 => DoI E 169 [(.ref 81), (.int r13), (.int r15)] SI16 SJ16 (fun r17 SI18 SJ18 => DoI E 178 [(.ref 81), (.int a1)] SI18 SJ18 (fun r19 SI20 SJ20 => DoI E 169 [(.ref 81), (.int r1), (.int r19)] SI20 SJ20 (fun r21 SI22 SJ22 => DoI E 167 [(.ref 81), (.int r1)] SI22 SJ22 (fun r23 SI24 SJ24 => DoI E 166 [(.ref 81), (.int r1)] SI24 SJ24 (fun r25 SI26 SJ26 => DoI E 166 [(.ref 81), (.int r1)] SI26 SJ26 (fun r27 SI28 SJ28 => DoI E 167 [(.ref 81), (.int r1)] SI28 SJ28 (fun r29 SI30 SJ30 => ((((-(r7 - r11).toInt64) * (r23).toInt64) + ((r17 - r21).toInt64 * (r25).toInt64)) < (i6 0) → Q (i3 0) SI30 SJ30) ∧ (¬ (((-(r7 - r11).toInt64) * (r23).toInt64) + ((r17 - r21).toInt64 * (r25).toInt64)) < (i6 0) → DoL E 158 [(.long (((r7 - r11).toInt64 * (r27).toInt64) + ((r17 - r21).toInt64 * (r29).toInt64)))] SI30 SJ30 (fun r31 SI32 SJ32 => (((SI30 82 31).toInt64 * r31) > ((SI32 82 30).toInt64 * (((-(r7 - r11).toInt64) * (r23).toInt64) + ((r17 - r21).toInt64 * (r25).toInt64))) → Q (i3 0) SI32 SJ32) ∧ (¬ ((SI30 82 31).toInt64 * r31) > ((SI32 82 30).toInt64 * (((-(r7 - r11).toInt64) * (r23).toInt64) + ((r17 - r21).toInt64 * (r25).toInt64))) → Q (i3 1) SI32 SJ32))))))))))))))))))) : DoI E 268 [(.ref 81), (.int a1), (.int a2)] SI SJ Q := by
  refine gj_start (M := mt_268) ok_268 (Nat.le_of_ble_eq_true rfl) ?_
  refine gj_goq gj_clT ok_268 [5, 12, 17, 20, 27, 30, 40, 45, 48, 55, 58, 70, 79, 91, 100, 125] ?_
  show gj_Do E om0 (gj_mt 177) [(.ref 81), (.int a1)] SI SJ _
  refine gj_Do.mono h (fun v_ SI2 SJ2 h_ => ?_)
  obtain ⟨r1, rfl, q1⟩ := h_
  show gj_Goes E om0 mt_268 5 [some (.ref 81), some (.int a1), some (.int a2), none, none, none, none, none, none, none, none, none] [(.int r1)] SI2 SJ2 (QI Q)
  refine gj_goq gj_clT ok_268 [5, 12, 17, 20, 27, 30, 40, 45, 48, 55, 58, 70, 79, 91, 100, 125] ?_
  show gj_Do E om0 (gj_mt 177) [(.ref 81), (.int a2)] SI2 SJ2 _
  refine gj_Do.mono q1 (fun v_ SI4 SJ4 h_ => ?_)
  obtain ⟨r3, rfl, q2⟩ := h_
  show gj_Goes E om0 mt_268 12 [some (.ref 81), some (.int a1), some (.int a2), some (.int r1), none, none, none, none, none, none, none, none] [(.int r3), (.ref 81)] SI4 SJ4 (QI Q)
  refine gj_goq gj_clT ok_268 [5, 12, 17, 20, 27, 30, 40, 45, 48, 55, 58, 70, 79, 91, 100, 125] ?_
  show gj_Do E om0 (gj_mt 178) [(.ref 81), (.int a2)] SI4 SJ4 _
  refine gj_Do.mono q2 (fun v_ SI6 SJ6 h_ => ?_)
  obtain ⟨r5, rfl, q3⟩ := h_
  show gj_Goes E om0 mt_268 17 [some (.ref 81), some (.int a1), some (.int a2), some (.int r1), none, none, none, none, none, none, none, none] [(.int r5), (.int r3), (.ref 81)] SI6 SJ6 (QI Q)
  refine gj_goq gj_clT ok_268 [5, 12, 17, 20, 27, 30, 40, 45, 48, 55, 58, 70, 79, 91, 100, 125] ?_
  show gj_Do E om0 (gj_mt 168) [(.ref 81), (.int r3), (.int r5)] SI6 SJ6 _
  refine gj_Do.mono q3 (fun v_ SI8 SJ8 h_ => ?_)
  obtain ⟨r7, rfl, q4⟩ := h_
  show gj_Goes E om0 mt_268 20 [some (.ref 81), some (.int a1), some (.int a2), some (.int r1), none, none, none, none, none, none, none, none] [(.int r7)] SI8 SJ8 (QI Q)
  refine gj_goq gj_clT ok_268 [5, 12, 17, 20, 27, 30, 40, 45, 48, 55, 58, 70, 79, 91, 100, 125] ?_
  show gj_Do E om0 (gj_mt 178) [(.ref 81), (.int a1)] SI8 SJ8 _
  refine gj_Do.mono q4 (fun v_ SI10 SJ10 h_ => ?_)
  obtain ⟨r9, rfl, q5⟩ := h_
  show gj_Goes E om0 mt_268 27 [some (.ref 81), some (.int a1), some (.int a2), some (.int r1), none, none, none, none, none, none, none, none] [(.int r9), (.int r1), (.ref 81), (.int r7)] SI10 SJ10 (QI Q)
  refine gj_goq gj_clT ok_268 [5, 12, 17, 20, 27, 30, 40, 45, 48, 55, 58, 70, 79, 91, 100, 125] ?_
  show gj_Do E om0 (gj_mt 168) [(.ref 81), (.int r1), (.int r9)] SI10 SJ10 _
  refine gj_Do.mono q5 (fun v_ SI12 SJ12 h_ => ?_)
  obtain ⟨r11, rfl, q6⟩ := h_
  show gj_Goes E om0 mt_268 30 [some (.ref 81), some (.int a1), some (.int a2), some (.int r1), none, none, none, none, none, none, none, none] [(.int r11), (.int r7)] SI12 SJ12 (QI Q)
  refine gj_goq gj_clT ok_268 [5, 12, 17, 20, 27, 30, 40, 45, 48, 55, 58, 70, 79, 91, 100, 125] ?_
  show gj_Do E om0 (gj_mt 177) [(.ref 81), (.int a2)] SI12 SJ12 _
  refine gj_Do.mono q6 (fun v_ SI14 SJ14 h_ => ?_)
  obtain ⟨r13, rfl, q7⟩ := h_
  show gj_Goes E om0 mt_268 40 [some (.ref 81), some (.int a1), some (.int a2), some (.int r1), some (.long (r7 - r11).toInt64), none, none, none, none, none, none, none] [(.int r13), (.ref 81)] SI14 SJ14 (QI Q)
  refine gj_goq gj_clT ok_268 [5, 12, 17, 20, 27, 30, 40, 45, 48, 55, 58, 70, 79, 91, 100, 125] ?_
  show gj_Do E om0 (gj_mt 178) [(.ref 81), (.int a2)] SI14 SJ14 _
  refine gj_Do.mono q7 (fun v_ SI16 SJ16 h_ => ?_)
  obtain ⟨r15, rfl, q8⟩ := h_
  show gj_Goes E om0 mt_268 45 [some (.ref 81), some (.int a1), some (.int a2), some (.int r1), some (.long (r7 - r11).toInt64), none, none, none, none, none, none, none] [(.int r15), (.int r13), (.ref 81)] SI16 SJ16 (QI Q)
  refine gj_goq gj_clT ok_268 [5, 12, 17, 20, 27, 30, 40, 45, 48, 55, 58, 70, 79, 91, 100, 125] ?_
  show gj_Do E om0 (gj_mt 169) [(.ref 81), (.int r13), (.int r15)] SI16 SJ16 _
  refine gj_Do.mono q8 (fun v_ SI18 SJ18 h_ => ?_)
  obtain ⟨r17, rfl, q9⟩ := h_
  show gj_Goes E om0 mt_268 48 [some (.ref 81), some (.int a1), some (.int a2), some (.int r1), some (.long (r7 - r11).toInt64), none, none, none, none, none, none, none] [(.int r17)] SI18 SJ18 (QI Q)
  refine gj_goq gj_clT ok_268 [5, 12, 17, 20, 27, 30, 40, 45, 48, 55, 58, 70, 79, 91, 100, 125] ?_
  show gj_Do E om0 (gj_mt 178) [(.ref 81), (.int a1)] SI18 SJ18 _
  refine gj_Do.mono q9 (fun v_ SI20 SJ20 h_ => ?_)
  obtain ⟨r19, rfl, q10⟩ := h_
  show gj_Goes E om0 mt_268 55 [some (.ref 81), some (.int a1), some (.int a2), some (.int r1), some (.long (r7 - r11).toInt64), none, none, none, none, none, none, none] [(.int r19), (.int r1), (.ref 81), (.int r17)] SI20 SJ20 (QI Q)
  refine gj_goq gj_clT ok_268 [5, 12, 17, 20, 27, 30, 40, 45, 48, 55, 58, 70, 79, 91, 100, 125] ?_
  show gj_Do E om0 (gj_mt 169) [(.ref 81), (.int r1), (.int r19)] SI20 SJ20 _
  refine gj_Do.mono q10 (fun v_ SI22 SJ22 h_ => ?_)
  obtain ⟨r21, rfl, q11⟩ := h_
  show gj_Goes E om0 mt_268 58 [some (.ref 81), some (.int a1), some (.int a2), some (.int r1), some (.long (r7 - r11).toInt64), none, none, none, none, none, none, none] [(.int r21), (.int r17)] SI22 SJ22 (QI Q)
  refine gj_goq gj_clT ok_268 [5, 12, 17, 20, 27, 30, 40, 45, 48, 55, 58, 70, 79, 91, 100, 125] ?_
  show gj_Do E om0 (gj_mt 167) [(.ref 81), (.int r1)] SI22 SJ22 _
  refine gj_Do.mono q11 (fun v_ SI24 SJ24 h_ => ?_)
  obtain ⟨r23, rfl, q12⟩ := h_
  show gj_Goes E om0 mt_268 70 [some (.ref 81), some (.int a1), some (.int a2), some (.int r1), some (.long (r7 - r11).toInt64), none, some (.long (r17 - r21).toInt64), none, none, none, none, none] [(.int r23), (.long (-(r7 - r11).toInt64))] SI24 SJ24 (QI Q)
  refine gj_goq gj_clT ok_268 [5, 12, 17, 20, 27, 30, 40, 45, 48, 55, 58, 70, 79, 91, 100, 125] ?_
  show gj_Do E om0 (gj_mt 166) [(.ref 81), (.int r1)] SI24 SJ24 _
  refine gj_Do.mono q12 (fun v_ SI26 SJ26 h_ => ?_)
  obtain ⟨r25, rfl, q13⟩ := h_
  show gj_Goes E om0 mt_268 79 [some (.ref 81), some (.int a1), some (.int a2), some (.int r1), some (.long (r7 - r11).toInt64), none, some (.long (r17 - r21).toInt64), none, none, none, none, none] [(.int r25), (.long (r17 - r21).toInt64), (.long ((-(r7 - r11).toInt64) * (r23).toInt64))] SI26 SJ26 (QI Q)
  refine gj_goq gj_clT ok_268 [5, 12, 17, 20, 27, 30, 40, 45, 48, 55, 58, 70, 79, 91, 100, 125] ?_
  show gj_Do E om0 (gj_mt 166) [(.ref 81), (.int r1)] SI26 SJ26 _
  refine gj_Do.mono q13 (fun v_ SI28 SJ28 h_ => ?_)
  obtain ⟨r27, rfl, q14⟩ := h_
  show gj_Goes E om0 mt_268 91 [some (.ref 81), some (.int a1), some (.int a2), some (.int r1), some (.long (r7 - r11).toInt64), none, some (.long (r17 - r21).toInt64), none, some (.long (((-(r7 - r11).toInt64) * (r23).toInt64) + ((r17 - r21).toInt64 * (r25).toInt64))), none, none, none] [(.int r27), (.long (r7 - r11).toInt64)] SI28 SJ28 (QI Q)
  refine gj_goq gj_clT ok_268 [5, 12, 17, 20, 27, 30, 40, 45, 48, 55, 58, 70, 79, 91, 100, 125] ?_
  show gj_Do E om0 (gj_mt 167) [(.ref 81), (.int r1)] SI28 SJ28 _
  refine gj_Do.mono q14 (fun v_ SI30 SJ30 h_ => ?_)
  obtain ⟨r29, rfl, q15⟩ := h_
  show gj_Goes E om0 mt_268 100 [some (.ref 81), some (.int a1), some (.int a2), some (.int r1), some (.long (r7 - r11).toInt64), none, some (.long (r17 - r21).toInt64), none, some (.long (((-(r7 - r11).toInt64) * (r23).toInt64) + ((r17 - r21).toInt64 * (r25).toInt64))), none, none, none] [(.int r29), (.long (r17 - r21).toInt64), (.long ((r7 - r11).toInt64 * (r27).toInt64))] SI30 SJ30 (QI Q)
  refine gj_goq gj_clT ok_268 [5, 12, 17, 20, 27, 30, 40, 45, 48, 55, 58, 70, 79, 91, 100, 125] ?_
  show ((lg_cmp (((-(r7 - r11).toInt64) * (r23).toInt64) + ((r17 - r21).toInt64 * (r25).toInt64)) (i6 0)) < 0 → gj_Goes E om0 mt_268 145 [some (.ref 81), some (.int a1), some (.int a2), some (.int r1), some (.long (r7 - r11).toInt64), none, some (.long (r17 - r21).toInt64), none, some (.long (((-(r7 - r11).toInt64) * (r23).toInt64) + ((r17 - r21).toInt64 * (r25).toInt64))), none, some (.long (((r7 - r11).toInt64 * (r27).toInt64) + ((r17 - r21).toInt64 * (r29).toInt64))), none] [] SI30 SJ30 (QI Q)) ∧ (¬ (lg_cmp (((-(r7 - r11).toInt64) * (r23).toInt64) + ((r17 - r21).toInt64 * (r25).toInt64)) (i6 0)) < 0 → vp_in (i3 31) 135 ∧ (gj_Do E om0 (gj_mt 158) [(.long (((r7 - r11).toInt64 * (r27).toInt64) + ((r17 - r21).toInt64 * (r29).toInt64)))] SI30 SJ30 _))
  refine ⟨fun c16 => ?_, fun c16 => ?_⟩
  · refine gj_goq gj_clT ok_268 [5, 12, 17, 20, 27, 30, 40, 45, 48, 55, 58, 70, 79, 91, 100, 125] ?_
    show ((i3 0) = 0 ∨ (i3 0) = 1) ∧ (QI Q (some (.int (i3 0))) SI30 SJ30)
    refine ⟨(Or.inl rfl), ?_⟩
    exact ⟨_, rfl, (q15.1 (lgc_lt.mp c16))⟩
  · refine ⟨(gj_vin (by decide)), ?_⟩
    refine gj_Do.mono (q15.2 (fun z_ => c16 (lgc_lt.mpr z_))) (fun v_ SI32 SJ32 h_ => ?_)
    obtain ⟨r31, rfl, q17⟩ := h_
    show gj_Goes E om0 mt_268 125 [some (.ref 81), some (.int a1), some (.int a2), some (.int r1), some (.long (r7 - r11).toInt64), none, some (.long (r17 - r21).toInt64), none, some (.long (((-(r7 - r11).toInt64) * (r23).toInt64) + ((r17 - r21).toInt64 * (r25).toInt64))), none, some (.long (((r7 - r11).toInt64 * (r27).toInt64) + ((r17 - r21).toInt64 * (r29).toInt64))), none] [(.long r31), (.long (SI30 82 31).toInt64)] SI32 SJ32 (QI Q)
    refine gj_goq gj_clT ok_268 [5, 12, 17, 20, 27, 30, 40, 45, 48, 55, 58, 70, 79, 91, 100, 125] ?_
    show vp_in (i3 30) 135 ∧ ((0 < (lg_cmp ((SI30 82 31).toInt64 * r31) ((SI32 82 30).toInt64 * (((-(r7 - r11).toInt64) * (r23).toInt64) + ((r17 - r21).toInt64 * (r25).toInt64)))) → gj_Goes E om0 mt_268 145 [some (.ref 81), some (.int a1), some (.int a2), some (.int r1), some (.long (r7 - r11).toInt64), none, some (.long (r17 - r21).toInt64), none, some (.long (((-(r7 - r11).toInt64) * (r23).toInt64) + ((r17 - r21).toInt64 * (r25).toInt64))), none, some (.long (((r7 - r11).toInt64 * (r27).toInt64) + ((r17 - r21).toInt64 * (r29).toInt64))), none] [] SI32 SJ32 (QI Q)) ∧ (¬ 0 < (lg_cmp ((SI30 82 31).toInt64 * r31) ((SI32 82 30).toInt64 * (((-(r7 - r11).toInt64) * (r23).toInt64) + ((r17 - r21).toInt64 * (r25).toInt64)))) → gj_Goes E om0 mt_268 146 [some (.ref 81), some (.int a1), some (.int a2), some (.int r1), some (.long (r7 - r11).toInt64), none, some (.long (r17 - r21).toInt64), none, some (.long (((-(r7 - r11).toInt64) * (r23).toInt64) + ((r17 - r21).toInt64 * (r25).toInt64))), none, some (.long (((r7 - r11).toInt64 * (r27).toInt64) + ((r17 - r21).toInt64 * (r29).toInt64))), none] [(.int (i3 1))] SI32 SJ32 (QI Q)))
    refine ⟨(gj_vin (by decide)), ?_⟩
    refine ⟨fun c18 => ?_, fun c18 => ?_⟩
    · refine gj_goq gj_clT ok_268 [5, 12, 17, 20, 27, 30, 40, 45, 48, 55, 58, 70, 79, 91, 100, 125] ?_
      show ((i3 0) = 0 ∨ (i3 0) = 1) ∧ (QI Q (some (.int (i3 0))) SI32 SJ32)
      refine ⟨(Or.inl rfl), ?_⟩
      exact ⟨_, rfl, (q17.1 (lgc_gt.mp c18))⟩
    · refine gj_goq gj_clT ok_268 [5, 12, 17, 20, 27, 30, 40, 45, 48, 55, 58, 70, 79, 91, 100, 125] ?_
      show ((i3 1) = 0 ∨ (i3 1) = 1) ∧ (QI Q (some (.int (i3 1))) SI32 SJ32)
      refine ⟨(Or.inr rfl), ?_⟩
      exact ⟨_, rfl, (q17.2 (fun z_ => c18 (lgc_gt.mpr z_)))⟩
set_option maxRecDepth 20000 in
/-- GraspJudgeModel.areOpposite -/
theorem st_269 {E : gj_E} {Q : Int32 → gj_I → gj_J → Prop} (a1 : Int32) (a2 : Int32) (SI : gj_I) (SJ : gj_J) (h : (a1 = a2 → Q (i3 0) SI SJ) ∧ (¬ a1 = a2 → DoI E 268 [(.ref 81), (.int a1), (.int a2)] SI SJ (fun r1 SI2 SJ2 => (r1 = 0 → Q (i3 0) SI2 SJ2) ∧ (¬ r1 = 0 → DoI E 268 [(.ref 81), (.int a2), (.int a1)] SI2 SJ2 (fun r3 SI4 SJ4 => (r3 = 0 → Q (i3 0) SI4 SJ4) ∧ (¬ r3 = 0 → Q (i3 1) SI4 SJ4)))))) : DoI E 269 [(.ref 81), (.int a1), (.int a2)] SI SJ Q := by
  refine gj_start (M := mt_269) ok_269 (Nat.le_of_ble_eq_true rfl) ?_
  refine gj_goq gj_clT ok_269 [11, 20] ?_
  show (a1 = a2 → gj_Goes E om0 mt_269 27 [some (.ref 81), some (.int a1), some (.int a2)] [] SI SJ (QI Q)) ∧ (¬ a1 = a2 → gj_Do E om0 (gj_mt 268) [(.ref 81), (.int a1), (.int a2)] SI SJ _)
  refine ⟨fun c1 => ?_, fun c1 => ?_⟩
  · refine gj_goq gj_clT ok_269 [11, 20] ?_
    show ((i3 0) = 0 ∨ (i3 0) = 1) ∧ (QI Q (some (.int (i3 0))) SI SJ)
    refine ⟨(Or.inl rfl), ?_⟩
    exact ⟨_, rfl, (h.1 c1)⟩
  · refine gj_Do.mono (h.2 c1) (fun v_ SI2 SJ2 h_ => ?_)
    obtain ⟨r1, rfl, q2⟩ := h_
    show gj_Goes E om0 mt_269 11 [some (.ref 81), some (.int a1), some (.int a2)] [(.int r1)] SI2 SJ2 (QI Q)
    refine gj_goq gj_clT ok_269 [11, 20] ?_
    show (r1 = 0 → gj_Goes E om0 mt_269 27 [some (.ref 81), some (.int a1), some (.int a2)] [] SI2 SJ2 (QI Q)) ∧ (¬ r1 = 0 → gj_Do E om0 (gj_mt 268) [(.ref 81), (.int a2), (.int a1)] SI2 SJ2 _)
    refine ⟨fun c3 => ?_, fun c3 => ?_⟩
    · refine gj_goq gj_clT ok_269 [11, 20] ?_
      show ((i3 0) = 0 ∨ (i3 0) = 1) ∧ (QI Q (some (.int (i3 0))) SI2 SJ2)
      refine ⟨(Or.inl rfl), ?_⟩
      exact ⟨_, rfl, (q2.1 c3)⟩
    · refine gj_Do.mono (q2.2 c3) (fun v_ SI4 SJ4 h_ => ?_)
      obtain ⟨r3, rfl, q4⟩ := h_
      show gj_Goes E om0 mt_269 20 [some (.ref 81), some (.int a1), some (.int a2)] [(.int r3)] SI4 SJ4 (QI Q)
      refine gj_goq gj_clT ok_269 [11, 20] ?_
      show (r3 = 0 → gj_Goes E om0 mt_269 27 [some (.ref 81), some (.int a1), some (.int a2)] [] SI4 SJ4 (QI Q)) ∧ (¬ r3 = 0 → gj_Goes E om0 mt_269 28 [some (.ref 81), some (.int a1), some (.int a2)] [(.int (i3 1))] SI4 SJ4 (QI Q))
      refine ⟨fun c5 => ?_, fun c5 => ?_⟩
      · refine gj_goq gj_clT ok_269 [11, 20] ?_
        show ((i3 0) = 0 ∨ (i3 0) = 1) ∧ (QI Q (some (.int (i3 0))) SI4 SJ4)
        refine ⟨(Or.inl rfl), ?_⟩
        exact ⟨_, rfl, (q4.1 c5)⟩
      · refine gj_goq gj_clT ok_269 [11, 20] ?_
        show ((i3 1) = 0 ∨ (i3 1) = 1) ∧ (QI Q (some (.int (i3 1))) SI4 SJ4)
        refine ⟨(Or.inr rfl), ?_⟩
        exact ⟨_, rfl, (q4.2 c5)⟩
set_option maxRecDepth 20000 in
/-- GraspJudgeModel.opposite -/
theorem st_270 {E : gj_E} {Q : Int32 → gj_I → gj_J → Prop} (a1 : Int32) (a2 : Int32) (SI : gj_I) (SJ : gj_J) (h : DoI E 179 [(.ref 81), (.int a1)] SI SJ (fun r1 SI2 SJ2 => (r1 = 0 → Q (i3 (-1)) SI2 SJ2) ∧ (¬ r1 = 0 → DoI E 179 [(.ref 81), (.int a2)] SI2 SJ2 (fun r3 SI4 SJ4 => (¬ r3 = 0 → DoI E 269 [(.ref 81), (.int a1), (.int a2)] SI4 SJ4 (fun r5 SI6 SJ6 => (r5 = 0 → Q (i3 0) SI6 SJ6) ∧ (¬ r5 = 0 → Q (i3 1) SI6 SJ6))) ∧ (r3 = 0 → Q (i3 (-1)) SI4 SJ4))))) : DoI E 270 [(.ref 81), (.int a1), (.int a2)] SI SJ Q := by
  refine gj_start (M := mt_270) ok_270 (Nat.le_of_ble_eq_true rfl) ?_
  refine gj_goq gj_clT ok_270 [5, 13, 24] ?_
  show gj_Do E om0 (gj_mt 179) [(.ref 81), (.int a1)] SI SJ _
  refine gj_Do.mono h (fun v_ SI2 SJ2 h_ => ?_)
  obtain ⟨r1, rfl, q1⟩ := h_
  show gj_Goes E om0 mt_270 5 [some (.ref 81), some (.int a1), some (.int a2)] [(.int r1)] SI2 SJ2 (QI Q)
  refine gj_goq gj_clT ok_270 [5, 13, 24] ?_
  show (r1 = 0 → gj_Goes E om0 mt_270 16 [some (.ref 81), some (.int a1), some (.int a2)] [] SI2 SJ2 (QI Q)) ∧ (¬ r1 = 0 → gj_Do E om0 (gj_mt 179) [(.ref 81), (.int a2)] SI2 SJ2 _)
  refine ⟨fun c2 => ?_, fun c2 => ?_⟩
  · refine gj_goq gj_clT ok_270 [5, 13, 24] ?_
    show QI Q (some (.int (i3 (-1)))) SI2 SJ2
    exact ⟨_, rfl, (q1.1 c2)⟩
  · refine gj_Do.mono (q1.2 c2) (fun v_ SI4 SJ4 h_ => ?_)
    obtain ⟨r3, rfl, q3⟩ := h_
    show gj_Goes E om0 mt_270 13 [some (.ref 81), some (.int a1), some (.int a2)] [(.int r3)] SI4 SJ4 (QI Q)
    refine gj_goq gj_clT ok_270 [5, 13, 24] ?_
    show (¬ r3 = 0 → gj_Goes E om0 mt_270 18 [some (.ref 81), some (.int a1), some (.int a2)] [] SI4 SJ4 (QI Q)) ∧ (r3 = 0 → QI Q (some (.int (i3 (-1)))) SI4 SJ4)
    refine ⟨fun c4 => ?_, fun c4 => ?_⟩
    · refine gj_goq gj_clT ok_270 [5, 13, 24] ?_
      show gj_Do E om0 (gj_mt 269) [(.ref 81), (.int a1), (.int a2)] SI4 SJ4 _
      refine gj_Do.mono (q3.1 c4) (fun v_ SI6 SJ6 h_ => ?_)
      obtain ⟨r5, rfl, q5⟩ := h_
      show gj_Goes E om0 mt_270 24 [some (.ref 81), some (.int a1), some (.int a2)] [(.int r5)] SI6 SJ6 (QI Q)
      refine gj_goq gj_clT ok_270 [5, 13, 24] ?_
      show (r5 = 0 → gj_Goes E om0 mt_270 31 [some (.ref 81), some (.int a1), some (.int a2)] [] SI6 SJ6 (QI Q)) ∧ (¬ r5 = 0 → gj_Goes E om0 mt_270 32 [some (.ref 81), some (.int a1), some (.int a2)] [(.int (i3 1))] SI6 SJ6 (QI Q))
      refine ⟨fun c6 => ?_, fun c6 => ?_⟩
      · refine gj_goq gj_clT ok_270 [5, 13, 24] ?_
        show QI Q (some (.int (i3 0))) SI6 SJ6
        exact ⟨_, rfl, (q5.1 c6)⟩
      · refine gj_goq gj_clT ok_270 [5, 13, 24] ?_
        show QI Q (some (.int (i3 1))) SI6 SJ6
        exact ⟨_, rfl, (q5.2 c6)⟩
    · exact ⟨_, rfl, (q3.2 c4)⟩
set_option maxRecDepth 20000 in
/-- GraspJudgeModel.oppositeMany -/
theorem st_271 {E : gj_E} {Q : Int32 → gj_I → gj_J → Prop} (a1 : Int32) (SI : gj_I) (SJ : gj_J) (h : GoI E mt_271 4 [some (.ref 81), some (.int a1), some (.int (i3 0)), some (.int (i3 0))] SI SJ Q) : DoI E 271 [(.ref 81), (.int a1)] SI SJ Q := by
  refine gj_start (M := mt_271) ok_271 (Nat.le_of_ble_eq_true rfl) ?_
  refine gj_goq gj_clT ok_271 [4, 9, 18] ?_
  show gj_Goes E om0 mt_271 4 [some (.ref 81), some (.int a1), some (.int (i3 0)), some (.int (i3 0))] [] SI SJ (QI Q)
  exact h
set_option maxRecDepth 20000 in
theorem lp_271_4 {E : gj_E} {Q : Int32 → gj_I → gj_J → Prop} (x1 : Int32) (x2 : Int32) (x3 : Int32) (SI : gj_I) (SJ : gj_J) (h : DoI E 176 [(.ref 81)] SI SJ (fun r1 SI2 SJ2 => (r1 ≤ x3 → Q x2 SI2 SJ2) ∧ (¬ r1 ≤ x3 → DoI E 269 [(.ref 81), (.int x1), (.int x3)] SI2 SJ2 (fun r3 SI4 SJ4 => (r3 = 0 → GoI E mt_271 4 [some (.ref 81), some (.int x1), some (.int x2), some (.int (x3 + (i3 1)))] SI4 SJ4 Q) ∧ (¬ r3 = 0 → GoI E mt_271 4 [some (.ref 81), some (.int x1), some (.int (x2 + (i3 1))), some (.int (x3 + (i3 1)))] SI4 SJ4 Q))))) : GoI E mt_271 4 [some (.ref 81), some (.int x1), some (.int x2), some (.int x3)] SI SJ Q := by
  refine gj_goq gj_clT ok_271 [4, 9, 18] ?_
  show gj_Do E om0 (gj_mt 176) [(.ref 81)] SI SJ _
  refine gj_Do.mono h (fun v_ SI2 SJ2 h_ => ?_)
  obtain ⟨r1, rfl, q1⟩ := h_
  show gj_Goes E om0 mt_271 9 [some (.ref 81), some (.int x1), some (.int x2), some (.int x3)] [(.int r1), (.int x3)] SI2 SJ2 (QI Q)
  refine gj_goq gj_clT ok_271 [4, 9, 18] ?_
  show (r1 ≤ x3 → gj_Goes E om0 mt_271 31 [some (.ref 81), some (.int x1), some (.int x2), some (.int x3)] [] SI2 SJ2 (QI Q)) ∧ (¬ r1 ≤ x3 → gj_Do E om0 (gj_mt 269) [(.ref 81), (.int x1), (.int x3)] SI2 SJ2 _)
  refine ⟨fun c2 => ?_, fun c2 => ?_⟩
  · refine gj_goq gj_clT ok_271 [4, 9, 18] ?_
    show QI Q (some (.int x2)) SI2 SJ2
    exact ⟨_, rfl, (q1.1 c2)⟩
  · refine gj_Do.mono (q1.2 c2) (fun v_ SI4 SJ4 h_ => ?_)
    obtain ⟨r3, rfl, q3⟩ := h_
    show gj_Goes E om0 mt_271 18 [some (.ref 81), some (.int x1), some (.int x2), some (.int x3)] [(.int r3)] SI4 SJ4 (QI Q)
    refine gj_goq gj_clT ok_271 [4, 9, 18] ?_
    show (r3 = 0 → gj_Goes E om0 mt_271 25 [some (.ref 81), some (.int x1), some (.int x2), some (.int x3)] [] SI4 SJ4 (QI Q)) ∧ (¬ r3 = 0 → gj_Goes E om0 mt_271 4 [some (.ref 81), some (.int x1), some (.int (x2 + (i3 1))), some (.int (x3 + (i3 1)))] [] SI4 SJ4 (QI Q))
    refine ⟨fun c4 => ?_, fun c4 => ?_⟩
    · refine gj_goq gj_clT ok_271 [4, 9, 18] ?_
      show gj_Goes E om0 mt_271 4 [some (.ref 81), some (.int x1), some (.int x2), some (.int (x3 + (i3 1)))] [] SI4 SJ4 (QI Q)
      exact (q3.1 c4)
    · exact (q3.2 c4)
set_option maxRecDepth 20000 in
/-- GraspJudgeModel.oppositeFirst -/
theorem st_272 {E : gj_E} {Q : Int32 → gj_I → gj_J → Prop} (a1 : Int32) (SI : gj_I) (SJ : gj_J) (h : GoI E mt_272 2 [some (.ref 81), some (.int a1), some (.int (i3 0))] SI SJ Q) : DoI E 272 [(.ref 81), (.int a1)] SI SJ Q := by
  refine gj_start (M := mt_272) ok_272 (Nat.le_of_ble_eq_true rfl) ?_
  refine gj_goq gj_clT ok_272 [2, 7, 16] ?_
  show gj_Goes E om0 mt_272 2 [some (.ref 81), some (.int a1), some (.int (i3 0))] [] SI SJ (QI Q)
  exact h
set_option maxRecDepth 20000 in
theorem lp_272_2 {E : gj_E} {Q : Int32 → gj_I → gj_J → Prop} (x1 : Int32) (x2 : Int32) (SI : gj_I) (SJ : gj_J) (h : DoI E 176 [(.ref 81)] SI SJ (fun r1 SI2 SJ2 => (r1 ≤ x2 → Q (i3 (-2)) SI2 SJ2) ∧ (¬ r1 ≤ x2 → DoI E 269 [(.ref 81), (.int x1), (.int x2)] SI2 SJ2 (fun r3 SI4 SJ4 => (r3 = 0 → GoI E mt_272 2 [some (.ref 81), some (.int x1), some (.int (x2 + (i3 1)))] SI4 SJ4 Q) ∧ (¬ r3 = 0 → Q x2 SI4 SJ4))))) : GoI E mt_272 2 [some (.ref 81), some (.int x1), some (.int x2)] SI SJ Q := by
  refine gj_goq gj_clT ok_272 [2, 7, 16] ?_
  show gj_Do E om0 (gj_mt 176) [(.ref 81)] SI SJ _
  refine gj_Do.mono h (fun v_ SI2 SJ2 h_ => ?_)
  obtain ⟨r1, rfl, q1⟩ := h_
  show gj_Goes E om0 mt_272 7 [some (.ref 81), some (.int x1), some (.int x2)] [(.int r1), (.int x2)] SI2 SJ2 (QI Q)
  refine gj_goq gj_clT ok_272 [2, 7, 16] ?_
  show (r1 ≤ x2 → gj_Goes E om0 mt_272 27 [some (.ref 81), some (.int x1), some (.int x2)] [] SI2 SJ2 (QI Q)) ∧ (¬ r1 ≤ x2 → gj_Do E om0 (gj_mt 269) [(.ref 81), (.int x1), (.int x2)] SI2 SJ2 _)
  refine ⟨fun c2 => ?_, fun c2 => ?_⟩
  · refine gj_goq gj_clT ok_272 [2, 7, 16] ?_
    show QI Q (some (.int (i3 (-2)))) SI2 SJ2
    exact ⟨_, rfl, (q1.1 c2)⟩
  · refine gj_Do.mono (q1.2 c2) (fun v_ SI4 SJ4 h_ => ?_)
    obtain ⟨r3, rfl, q3⟩ := h_
    show gj_Goes E om0 mt_272 16 [some (.ref 81), some (.int x1), some (.int x2)] [(.int r3)] SI4 SJ4 (QI Q)
    refine gj_goq gj_clT ok_272 [2, 7, 16] ?_
    show (r3 = 0 → gj_Goes E om0 mt_272 21 [some (.ref 81), some (.int x1), some (.int x2)] [] SI4 SJ4 (QI Q)) ∧ (¬ r3 = 0 → QI Q (some (.int x2)) SI4 SJ4)
    refine ⟨fun c4 => ?_, fun c4 => ?_⟩
    · refine gj_goq gj_clT ok_272 [2, 7, 16] ?_
      show gj_Goes E om0 mt_272 2 [some (.ref 81), some (.int x1), some (.int (x2 + (i3 1)))] [] SI4 SJ4 (QI Q)
      exact (q3.1 c4)
    · exact ⟨_, rfl, (q3.2 c4)⟩
set_option maxRecDepth 20000 in
/-- GraspJudgeModel.opposites -/
theorem st_273 {E : gj_E} {Q : Int32 → gj_I → gj_J → Prop} (SI : gj_I) (SJ : gj_J) (h : GoI E mt_273 4 [some (.ref 81), some (.int (i3 0)), some (.int (i3 0))] SI SJ Q) : DoI E 273 [(.ref 81)] SI SJ Q := by
  refine gj_start (M := mt_273) ok_273 (Nat.le_of_ble_eq_true rfl) ?_
  refine gj_goq gj_clT ok_273 [4, 9, 18] ?_
  show gj_Goes E om0 mt_273 4 [some (.ref 81), some (.int (i3 0)), some (.int (i3 0))] [] SI SJ (QI Q)
  exact h
set_option maxRecDepth 20000 in
theorem lp_273_4 {E : gj_E} {Q : Int32 → gj_I → gj_J → Prop} (x1 : Int32) (x2 : Int32) (SI : gj_I) (SJ : gj_J) (h : DoI E 176 [(.ref 81)] SI SJ (fun r1 SI2 SJ2 => (r1 ≤ x2 → Q (x1 / (i3 2)) SI2 SJ2) ∧ (¬ r1 ≤ x2 → DoI E 271 [(.ref 81), (.int x2)] SI2 SJ2 (fun r3 SI4 SJ4 => GoI E mt_273 4 [some (.ref 81), some (.int (x1 + r3)), some (.int (x2 + (i3 1)))] SI4 SJ4 Q)))) : GoI E mt_273 4 [some (.ref 81), some (.int x1), some (.int x2)] SI SJ Q := by
  refine gj_goq gj_clT ok_273 [4, 9, 18] ?_
  show gj_Do E om0 (gj_mt 176) [(.ref 81)] SI SJ _
  refine gj_Do.mono h (fun v_ SI2 SJ2 h_ => ?_)
  obtain ⟨r1, rfl, q1⟩ := h_
  show gj_Goes E om0 mt_273 9 [some (.ref 81), some (.int x1), some (.int x2)] [(.int r1), (.int x2)] SI2 SJ2 (QI Q)
  refine gj_goq gj_clT ok_273 [4, 9, 18] ?_
  show (r1 ≤ x2 → gj_Goes E om0 mt_273 26 [some (.ref 81), some (.int x1), some (.int x2)] [] SI2 SJ2 (QI Q)) ∧ (¬ r1 ≤ x2 → gj_Do E om0 (gj_mt 271) [(.ref 81), (.int x2)] SI2 SJ2 _)
  refine ⟨fun c2 => ?_, fun c2 => ?_⟩
  · refine gj_goq gj_clT ok_273 [4, 9, 18] ?_
    show ¬ (i3 2) = 0 ∧ (QI Q (some (.int (x1 / (i3 2)))) SI2 SJ2)
    refine ⟨(by decide), ?_⟩
    exact ⟨_, rfl, (q1.1 c2)⟩
  · refine gj_Do.mono (q1.2 c2) (fun v_ SI4 SJ4 h_ => ?_)
    obtain ⟨r3, rfl, q3⟩ := h_
    show gj_Goes E om0 mt_273 18 [some (.ref 81), some (.int x1), some (.int x2)] [(.int r3), (.int x1)] SI4 SJ4 (QI Q)
    refine gj_goq gj_clT ok_273 [4, 9, 18] ?_
    show gj_Goes E om0 mt_273 4 [some (.ref 81), some (.int (x1 + r3)), some (.int (x2 + (i3 1)))] [] SI4 SJ4 (QI Q)
    exact q3
set_option maxRecDepth 20000 in
/-- GraspJudgeModel.count -/
theorem st_274 {E : gj_E} {Q : Int32 → gj_I → gj_J → Prop} (a1 : Int32) (SI : gj_I) (SJ : gj_J) (h : DoV E 184 [(.ref 81)] SI SJ (fun SI2 SJ2 => (a1 = (i3 0) → DoI E 162 [(.ref 81)] SI2 SJ2 (fun r3 SI4 SJ4 => Q r3 SI4 SJ4)) ∧ (a1 = (i3 1) → DoL E 174 [(.ref 81)] SI2 SJ2 (fun r5 SI6 SJ6 => Q (r5).toInt32 SI6 SJ6)) ∧ (a1 = (i3 2) → Q (SI2 82 17) SI2 SJ2) ∧ (a1 = (i3 3) → Q (SI2 81 8) SI2 SJ2) ∧ (a1 = (i3 4) → DoI E 185 [(.ref 81)] SI2 SJ2 (fun r7 SI8 SJ8 => DoI E 193 [(.ref 81), (.int r7)] SI8 SJ8 (fun r9 SI10 SJ10 => Q r9 SI10 SJ10))) ∧ (a1 = (i3 5) → DoI E 185 [(.ref 81)] SI2 SJ2 (fun r11 SI12 SJ12 => DoI E 194 [(.ref 81), (.int r11)] SI12 SJ12 (fun r13 SI14 SJ14 => (r13 = 0 → Q (i3 0) SI14 SJ14) ∧ (¬ r13 = 0 → Q (i3 1) SI14 SJ14)))) ∧ (a1 = (i3 6) → DoI E 176 [(.ref 81)] SI2 SJ2 (fun r15 SI16 SJ16 => Q r15 SI16 SJ16)) ∧ (a1 = (i3 7) → Q (SI2 82 30) SI2 SJ2) ∧ (a1 = (i3 8) → Q (SI2 82 31) SI2 SJ2) ∧ (a1 = (i3 9) → Q (SI2 82 32) SI2 SJ2) ∧ (a1 = (i3 10) → Q (SI2 82 33) SI2 SJ2) ∧ (a1 = (i3 11) → DoI E 260 [(.ref 81)] SI2 SJ2 (fun r17 SI18 SJ18 => Q r17 SI18 SJ18)) ∧ (a1 = (i3 12) → DoI E 261 [(.ref 81)] SI2 SJ2 (fun r19 SI20 SJ20 => (0 ≤ r19 → DoI E 261 [(.ref 81)] SI20 SJ20 (fun r21 SI22 SJ22 => DoI E 160 [(.int r21)] SI22 SJ22 (fun r23 SI24 SJ24 => Q r23 SI24 SJ24))) ∧ (¬ 0 ≤ r19 → Q (i3 (-2)) SI20 SJ20))) ∧ (a1 = (i3 13) → DoI E 261 [(.ref 81)] SI2 SJ2 (fun r25 SI26 SJ26 => Q r25 SI26 SJ26)) ∧ (a1 = (i3 14) → Q (SI2 81 13) SI2 SJ2) ∧ (a1 = (i3 15) → Q (SI2 82 34) SI2 SJ2) ∧ (a1 = (i3 16) → DoI E 273 [(.ref 81)] SI2 SJ2 (fun r27 SI28 SJ28 => Q r27 SI28 SJ28)) ∧ (a1.toInt < 0 ∨ 16 < a1.toInt → Q (i3 (-1)) SI2 SJ2))) : DoI E 274 [(.ref 81), (.int a1)] SI SJ Q := by
  refine gj_start (M := mt_274) ok_274 (Nat.le_of_ble_eq_true rfl) ?_
  refine gj_goq gj_clT ok_274 [4, 92, 97, 117, 120, 126, 129, 142, 179, 184, 196, 199, 204, 222] ?_
  show gj_Do E om0 (gj_mt 184) [(.ref 81)] SI SJ _
  refine gj_Do.mono h (fun v_ SI2 SJ2 h_ => ?_)
  obtain ⟨rfl, q1⟩ := h_
  show gj_Goes E om0 mt_274 4 [some (.ref 81), some (.int a1)] [] SI2 SJ2 (QI Q)
  refine gj_goq gj_clT ok_274 [4, 92, 97, 117, 120, 126, 129, 142, 179, 184, 196, 199, 204, 222] ?_
  show ((a1 = Int32.ofInt (0) → gj_Goes E om0 mt_274 88 [some (.ref 81), some (.int a1)] [] SI2 SJ2 (QI Q)) ∧ (a1 = Int32.ofInt (1) → gj_Goes E om0 mt_274 93 [some (.ref 81), some (.int a1)] [] SI2 SJ2 (QI Q)) ∧ (a1 = Int32.ofInt (2) → gj_Goes E om0 mt_274 99 [some (.ref 81), some (.int a1)] [] SI2 SJ2 (QI Q)) ∧ (a1 = Int32.ofInt (3) → gj_Goes E om0 mt_274 107 [some (.ref 81), some (.int a1)] [] SI2 SJ2 (QI Q)) ∧ (a1 = Int32.ofInt (4) → gj_Goes E om0 mt_274 112 [some (.ref 81), some (.int a1)] [] SI2 SJ2 (QI Q)) ∧ (a1 = Int32.ofInt (5) → gj_Goes E om0 mt_274 121 [some (.ref 81), some (.int a1)] [] SI2 SJ2 (QI Q)) ∧ (a1 = Int32.ofInt (6) → gj_Goes E om0 mt_274 138 [some (.ref 81), some (.int a1)] [] SI2 SJ2 (QI Q)) ∧ (a1 = Int32.ofInt (7) → gj_Goes E om0 mt_274 143 [some (.ref 81), some (.int a1)] [] SI2 SJ2 (QI Q)) ∧ (a1 = Int32.ofInt (8) → gj_Goes E om0 mt_274 151 [some (.ref 81), some (.int a1)] [] SI2 SJ2 (QI Q)) ∧ (a1 = Int32.ofInt (9) → gj_Goes E om0 mt_274 159 [some (.ref 81), some (.int a1)] [] SI2 SJ2 (QI Q)) ∧ (a1 = Int32.ofInt (10) → gj_Goes E om0 mt_274 167 [some (.ref 81), some (.int a1)] [] SI2 SJ2 (QI Q)) ∧ (a1 = Int32.ofInt (11) → gj_Goes E om0 mt_274 175 [some (.ref 81), some (.int a1)] [] SI2 SJ2 (QI Q)) ∧ (a1 = Int32.ofInt (12) → gj_Goes E om0 mt_274 180 [some (.ref 81), some (.int a1)] [] SI2 SJ2 (QI Q)) ∧ (a1 = Int32.ofInt (13) → gj_Goes E om0 mt_274 200 [some (.ref 81), some (.int a1)] [] SI2 SJ2 (QI Q)) ∧ (a1 = Int32.ofInt (14) → gj_Goes E om0 mt_274 205 [some (.ref 81), some (.int a1)] [] SI2 SJ2 (QI Q)) ∧ (a1 = Int32.ofInt (15) → gj_Goes E om0 mt_274 210 [some (.ref 81), some (.int a1)] [] SI2 SJ2 (QI Q)) ∧ (a1 = Int32.ofInt (16) → gj_Goes E om0 mt_274 218 [some (.ref 81), some (.int a1)] [] SI2 SJ2 (QI Q)) ∧ True) ∧ (a1.toInt < 0 ∨ 16 < a1.toInt → gj_Goes E om0 mt_274 223 [some (.ref 81), some (.int a1)] [] SI2 SJ2 (QI Q))
  refine ⟨⟨fun c2 => ?_, ⟨fun c2 => ?_, ⟨fun c2 => ?_, ⟨fun c2 => ?_, ⟨fun c2 => ?_, ⟨fun c2 => ?_, ⟨fun c2 => ?_, ⟨fun c2 => ?_, ⟨fun c2 => ?_, ⟨fun c2 => ?_, ⟨fun c2 => ?_, ⟨fun c2 => ?_, ⟨fun c2 => ?_, ⟨fun c2 => ?_, ⟨fun c2 => ?_, ⟨fun c2 => ?_, ⟨fun c2 => ?_, trivial⟩⟩⟩⟩⟩⟩⟩⟩⟩⟩⟩⟩⟩⟩⟩⟩⟩, fun c2 => ?_⟩
  · refine gj_goq gj_clT ok_274 [4, 92, 97, 117, 120, 126, 129, 142, 179, 184, 196, 199, 204, 222] ?_
    show gj_Do E om0 (gj_mt 162) [(.ref 81)] SI2 SJ2 _
    refine gj_Do.mono (q1.1 c2) (fun v_ SI4 SJ4 h_ => ?_)
    obtain ⟨r3, rfl, q3⟩ := h_
    show gj_Goes E om0 mt_274 92 [some (.ref 81), some (.int a1)] [(.int r3)] SI4 SJ4 (QI Q)
    refine gj_goq gj_clT ok_274 [4, 92, 97, 117, 120, 126, 129, 142, 179, 184, 196, 199, 204, 222] ?_
    show QI Q (some (.int r3)) SI4 SJ4
    exact ⟨_, rfl, q3⟩
  · refine gj_goq gj_clT ok_274 [4, 92, 97, 117, 120, 126, 129, 142, 179, 184, 196, 199, 204, 222] ?_
    show gj_Do E om0 (gj_mt 174) [(.ref 81)] SI2 SJ2 _
    refine gj_Do.mono (q1.2.1 c2) (fun v_ SI6 SJ6 h_ => ?_)
    obtain ⟨r5, rfl, q4⟩ := h_
    show gj_Goes E om0 mt_274 97 [some (.ref 81), some (.int a1)] [(.long r5)] SI6 SJ6 (QI Q)
    refine gj_goq gj_clT ok_274 [4, 92, 97, 117, 120, 126, 129, 142, 179, 184, 196, 199, 204, 222] ?_
    show QI Q (some (.int (r5).toInt32)) SI6 SJ6
    exact ⟨_, rfl, q4⟩
  · refine gj_goq gj_clT ok_274 [4, 92, 97, 117, 120, 126, 129, 142, 179, 184, 196, 199, 204, 222] ?_
    show vp_in (i3 17) 135 ∧ (QI Q (some (.int (SI2 82 17))) SI2 SJ2)
    refine ⟨(gj_vin (by decide)), ?_⟩
    exact ⟨_, rfl, (q1.2.2.1 c2)⟩
  · refine gj_goq gj_clT ok_274 [4, 92, 97, 117, 120, 126, 129, 142, 179, 184, 196, 199, 204, 222] ?_
    show QI Q (some (.int (SI2 81 8))) SI2 SJ2
    exact ⟨_, rfl, (q1.2.2.2.1 c2)⟩
  · refine gj_goq gj_clT ok_274 [4, 92, 97, 117, 120, 126, 129, 142, 179, 184, 196, 199, 204, 222] ?_
    show gj_Do E om0 (gj_mt 185) [(.ref 81)] SI2 SJ2 _
    refine gj_Do.mono (q1.2.2.2.2.1 c2) (fun v_ SI8 SJ8 h_ => ?_)
    obtain ⟨r7, rfl, q5⟩ := h_
    show gj_Goes E om0 mt_274 117 [some (.ref 81), some (.int a1)] [(.int r7), (.ref 81)] SI8 SJ8 (QI Q)
    refine gj_goq gj_clT ok_274 [4, 92, 97, 117, 120, 126, 129, 142, 179, 184, 196, 199, 204, 222] ?_
    show gj_Do E om0 (gj_mt 193) [(.ref 81), (.int r7)] SI8 SJ8 _
    refine gj_Do.mono q5 (fun v_ SI10 SJ10 h_ => ?_)
    obtain ⟨r9, rfl, q6⟩ := h_
    show gj_Goes E om0 mt_274 120 [some (.ref 81), some (.int a1)] [(.int r9)] SI10 SJ10 (QI Q)
    refine gj_goq gj_clT ok_274 [4, 92, 97, 117, 120, 126, 129, 142, 179, 184, 196, 199, 204, 222] ?_
    show QI Q (some (.int r9)) SI10 SJ10
    exact ⟨_, rfl, q6⟩
  · refine gj_goq gj_clT ok_274 [4, 92, 97, 117, 120, 126, 129, 142, 179, 184, 196, 199, 204, 222] ?_
    show gj_Do E om0 (gj_mt 185) [(.ref 81)] SI2 SJ2 _
    refine gj_Do.mono (q1.2.2.2.2.2.1 c2) (fun v_ SI12 SJ12 h_ => ?_)
    obtain ⟨r11, rfl, q7⟩ := h_
    show gj_Goes E om0 mt_274 126 [some (.ref 81), some (.int a1)] [(.int r11), (.ref 81)] SI12 SJ12 (QI Q)
    refine gj_goq gj_clT ok_274 [4, 92, 97, 117, 120, 126, 129, 142, 179, 184, 196, 199, 204, 222] ?_
    show gj_Do E om0 (gj_mt 194) [(.ref 81), (.int r11)] SI12 SJ12 _
    refine gj_Do.mono q7 (fun v_ SI14 SJ14 h_ => ?_)
    obtain ⟨r13, rfl, q8⟩ := h_
    show gj_Goes E om0 mt_274 129 [some (.ref 81), some (.int a1)] [(.int r13)] SI14 SJ14 (QI Q)
    refine gj_goq gj_clT ok_274 [4, 92, 97, 117, 120, 126, 129, 142, 179, 184, 196, 199, 204, 222] ?_
    show (r13 = 0 → gj_Goes E om0 mt_274 136 [some (.ref 81), some (.int a1)] [] SI14 SJ14 (QI Q)) ∧ (¬ r13 = 0 → gj_Goes E om0 mt_274 137 [some (.ref 81), some (.int a1)] [(.int (i3 1))] SI14 SJ14 (QI Q))
    refine ⟨fun c9 => ?_, fun c9 => ?_⟩
    · refine gj_goq gj_clT ok_274 [4, 92, 97, 117, 120, 126, 129, 142, 179, 184, 196, 199, 204, 222] ?_
      show QI Q (some (.int (i3 0))) SI14 SJ14
      exact ⟨_, rfl, (q8.1 c9)⟩
    · refine gj_goq gj_clT ok_274 [4, 92, 97, 117, 120, 126, 129, 142, 179, 184, 196, 199, 204, 222] ?_
      show QI Q (some (.int (i3 1))) SI14 SJ14
      exact ⟨_, rfl, (q8.2 c9)⟩
  · refine gj_goq gj_clT ok_274 [4, 92, 97, 117, 120, 126, 129, 142, 179, 184, 196, 199, 204, 222] ?_
    show gj_Do E om0 (gj_mt 176) [(.ref 81)] SI2 SJ2 _
    refine gj_Do.mono (q1.2.2.2.2.2.2.1 c2) (fun v_ SI16 SJ16 h_ => ?_)
    obtain ⟨r15, rfl, q10⟩ := h_
    show gj_Goes E om0 mt_274 142 [some (.ref 81), some (.int a1)] [(.int r15)] SI16 SJ16 (QI Q)
    refine gj_goq gj_clT ok_274 [4, 92, 97, 117, 120, 126, 129, 142, 179, 184, 196, 199, 204, 222] ?_
    show QI Q (some (.int r15)) SI16 SJ16
    exact ⟨_, rfl, q10⟩
  · refine gj_goq gj_clT ok_274 [4, 92, 97, 117, 120, 126, 129, 142, 179, 184, 196, 199, 204, 222] ?_
    show vp_in (i3 30) 135 ∧ (QI Q (some (.int (SI2 82 30))) SI2 SJ2)
    refine ⟨(gj_vin (by decide)), ?_⟩
    exact ⟨_, rfl, (q1.2.2.2.2.2.2.2.1 c2)⟩
  · refine gj_goq gj_clT ok_274 [4, 92, 97, 117, 120, 126, 129, 142, 179, 184, 196, 199, 204, 222] ?_
    show vp_in (i3 31) 135 ∧ (QI Q (some (.int (SI2 82 31))) SI2 SJ2)
    refine ⟨(gj_vin (by decide)), ?_⟩
    exact ⟨_, rfl, (q1.2.2.2.2.2.2.2.2.1 c2)⟩
  · refine gj_goq gj_clT ok_274 [4, 92, 97, 117, 120, 126, 129, 142, 179, 184, 196, 199, 204, 222] ?_
    show vp_in (i3 32) 135 ∧ (QI Q (some (.int (SI2 82 32))) SI2 SJ2)
    refine ⟨(gj_vin (by decide)), ?_⟩
    exact ⟨_, rfl, (q1.2.2.2.2.2.2.2.2.2.1 c2)⟩
  · refine gj_goq gj_clT ok_274 [4, 92, 97, 117, 120, 126, 129, 142, 179, 184, 196, 199, 204, 222] ?_
    show vp_in (i3 33) 135 ∧ (QI Q (some (.int (SI2 82 33))) SI2 SJ2)
    refine ⟨(gj_vin (by decide)), ?_⟩
    exact ⟨_, rfl, (q1.2.2.2.2.2.2.2.2.2.2.1 c2)⟩
  · refine gj_goq gj_clT ok_274 [4, 92, 97, 117, 120, 126, 129, 142, 179, 184, 196, 199, 204, 222] ?_
    show gj_Do E om0 (gj_mt 260) [(.ref 81)] SI2 SJ2 _
    refine gj_Do.mono (q1.2.2.2.2.2.2.2.2.2.2.2.1 c2) (fun v_ SI18 SJ18 h_ => ?_)
    obtain ⟨r17, rfl, q11⟩ := h_
    show gj_Goes E om0 mt_274 179 [some (.ref 81), some (.int a1)] [(.int r17)] SI18 SJ18 (QI Q)
    refine gj_goq gj_clT ok_274 [4, 92, 97, 117, 120, 126, 129, 142, 179, 184, 196, 199, 204, 222] ?_
    show QI Q (some (.int r17)) SI18 SJ18
    exact ⟨_, rfl, q11⟩
  · refine gj_goq gj_clT ok_274 [4, 92, 97, 117, 120, 126, 129, 142, 179, 184, 196, 199, 204, 222] ?_
    show gj_Do E om0 (gj_mt 261) [(.ref 81)] SI2 SJ2 _
    refine gj_Do.mono (q1.2.2.2.2.2.2.2.2.2.2.2.2.1 c2) (fun v_ SI20 SJ20 h_ => ?_)
    obtain ⟨r19, rfl, q12⟩ := h_
    show gj_Goes E om0 mt_274 184 [some (.ref 81), some (.int a1)] [(.int r19)] SI20 SJ20 (QI Q)
    refine gj_goq gj_clT ok_274 [4, 92, 97, 117, 120, 126, 129, 142, 179, 184, 196, 199, 204, 222] ?_
    show (0 ≤ r19 → gj_Goes E om0 mt_274 192 [some (.ref 81), some (.int a1)] [] SI20 SJ20 (QI Q)) ∧ (¬ 0 ≤ r19 → gj_Goes E om0 mt_274 199 [some (.ref 81), some (.int a1)] [(.int (i3 (-2)))] SI20 SJ20 (QI Q))
    refine ⟨fun c13 => ?_, fun c13 => ?_⟩
    · refine gj_goq gj_clT ok_274 [4, 92, 97, 117, 120, 126, 129, 142, 179, 184, 196, 199, 204, 222] ?_
      show gj_Do E om0 (gj_mt 261) [(.ref 81)] SI20 SJ20 _
      refine gj_Do.mono (q12.1 c13) (fun v_ SI22 SJ22 h_ => ?_)
      obtain ⟨r21, rfl, q14⟩ := h_
      show gj_Goes E om0 mt_274 196 [some (.ref 81), some (.int a1)] [(.int r21)] SI22 SJ22 (QI Q)
      refine gj_goq gj_clT ok_274 [4, 92, 97, 117, 120, 126, 129, 142, 179, 184, 196, 199, 204, 222] ?_
      show gj_Do E om0 (gj_mt 160) [(.int r21)] SI22 SJ22 _
      refine gj_Do.mono q14 (fun v_ SI24 SJ24 h_ => ?_)
      obtain ⟨r23, rfl, q15⟩ := h_
      show gj_Goes E om0 mt_274 199 [some (.ref 81), some (.int a1)] [(.int r23)] SI24 SJ24 (QI Q)
      refine gj_goq gj_clT ok_274 [4, 92, 97, 117, 120, 126, 129, 142, 179, 184, 196, 199, 204, 222] ?_
      show QI Q (some (.int r23)) SI24 SJ24
      exact ⟨_, rfl, q15⟩
    · refine gj_goq gj_clT ok_274 [4, 92, 97, 117, 120, 126, 129, 142, 179, 184, 196, 199, 204, 222] ?_
      show QI Q (some (.int (i3 (-2)))) SI20 SJ20
      exact ⟨_, rfl, (q12.2 c13)⟩
  · refine gj_goq gj_clT ok_274 [4, 92, 97, 117, 120, 126, 129, 142, 179, 184, 196, 199, 204, 222] ?_
    show gj_Do E om0 (gj_mt 261) [(.ref 81)] SI2 SJ2 _
    refine gj_Do.mono (q1.2.2.2.2.2.2.2.2.2.2.2.2.2.1 c2) (fun v_ SI26 SJ26 h_ => ?_)
    obtain ⟨r25, rfl, q16⟩ := h_
    show gj_Goes E om0 mt_274 204 [some (.ref 81), some (.int a1)] [(.int r25)] SI26 SJ26 (QI Q)
    refine gj_goq gj_clT ok_274 [4, 92, 97, 117, 120, 126, 129, 142, 179, 184, 196, 199, 204, 222] ?_
    show QI Q (some (.int r25)) SI26 SJ26
    exact ⟨_, rfl, q16⟩
  · refine gj_goq gj_clT ok_274 [4, 92, 97, 117, 120, 126, 129, 142, 179, 184, 196, 199, 204, 222] ?_
    show QI Q (some (.int (SI2 81 13))) SI2 SJ2
    exact ⟨_, rfl, (q1.2.2.2.2.2.2.2.2.2.2.2.2.2.2.1 c2)⟩
  · refine gj_goq gj_clT ok_274 [4, 92, 97, 117, 120, 126, 129, 142, 179, 184, 196, 199, 204, 222] ?_
    show vp_in (i3 34) 135 ∧ (QI Q (some (.int (SI2 82 34))) SI2 SJ2)
    refine ⟨(gj_vin (by decide)), ?_⟩
    exact ⟨_, rfl, (q1.2.2.2.2.2.2.2.2.2.2.2.2.2.2.2.1 c2)⟩
  · refine gj_goq gj_clT ok_274 [4, 92, 97, 117, 120, 126, 129, 142, 179, 184, 196, 199, 204, 222] ?_
    show gj_Do E om0 (gj_mt 273) [(.ref 81)] SI2 SJ2 _
    refine gj_Do.mono (q1.2.2.2.2.2.2.2.2.2.2.2.2.2.2.2.2.1 c2) (fun v_ SI28 SJ28 h_ => ?_)
    obtain ⟨r27, rfl, q17⟩ := h_
    show gj_Goes E om0 mt_274 222 [some (.ref 81), some (.int a1)] [(.int r27)] SI28 SJ28 (QI Q)
    refine gj_goq gj_clT ok_274 [4, 92, 97, 117, 120, 126, 129, 142, 179, 184, 196, 199, 204, 222] ?_
    show QI Q (some (.int r27)) SI28 SJ28
    exact ⟨_, rfl, q17⟩
  · refine gj_goq gj_clT ok_274 [4, 92, 97, 117, 120, 126, 129, 142, 179, 184, 196, 199, 204, 222] ?_
    show QI Q (some (.int (i3 (-1)))) SI2 SJ2
    exact ⟨_, rfl, (q1.2.2.2.2.2.2.2.2.2.2.2.2.2.2.2.2.2 c2)⟩
set_option maxRecDepth 20000 in
/-- GraspJudgeModel.corner -/
theorem st_275 {E : gj_E} {Q : Int32 → gj_I → gj_J → Prop} (a1 : Int32) (a2 : Int32) (SI : gj_I) (SJ : gj_J) (h : DoI E 162 [(.ref 81)] SI SJ (fun r1 SI2 SJ2 => DoI E 155 [(.long (a1).toInt64), (.long (i6 0)), (.long (r1 - (i3 1)).toInt64)] SI2 SJ2 (fun r3 SI4 SJ4 => (r3 = 0 → Q (i3 (-1)) SI4 SJ4) ∧ (¬ r3 = 0 → DoI E 155 [(.long (a2).toInt64), (.long (i6 0)), (.long (i6 1))] SI4 SJ4 (fun r5 SI6 SJ6 => (r5 = 0 → Q (i3 (-1)) SI6 SJ6) ∧ (¬ r5 = 0 → (¬ a2 = 0 → vp_in ((i3 9) + a1) 135 ∧ (Q (SI6 82 (gj_n ((i3 9) + a1))) SI6 SJ6)) ∧ (a2 = 0 → vp_in ((i3 1) + a1) 135 ∧ (Q (SI6 82 (gj_n ((i3 1) + a1))) SI6 SJ6)))))))) : DoI E 275 [(.ref 81), (.int a1), (.int a2)] SI SJ Q := by
  refine gj_start (M := mt_275) ok_275 (Nat.le_of_ble_eq_true rfl) ?_
  refine gj_goq gj_clT ok_275 [7, 13, 23] ?_
  show gj_Do E om0 (gj_mt 162) [(.ref 81)] SI SJ _
  refine gj_Do.mono h (fun v_ SI2 SJ2 h_ => ?_)
  obtain ⟨r1, rfl, q1⟩ := h_
  show gj_Goes E om0 mt_275 7 [some (.ref 81), some (.int a1), some (.int a2)] [(.int r1), (.long (i6 0)), (.long (a1).toInt64)] SI2 SJ2 (QI Q)
  refine gj_goq gj_clT ok_275 [7, 13, 23] ?_
  show gj_Do E om0 (gj_mt 155) [(.long (a1).toInt64), (.long (i6 0)), (.long (r1 - (i3 1)).toInt64)] SI2 SJ2 _
  refine gj_Do.mono q1 (fun v_ SI4 SJ4 h_ => ?_)
  obtain ⟨r3, rfl, q2⟩ := h_
  show gj_Goes E om0 mt_275 13 [some (.ref 81), some (.int a1), some (.int a2)] [(.int r3)] SI4 SJ4 (QI Q)
  refine gj_goq gj_clT ok_275 [7, 13, 23] ?_
  show (r3 = 0 → gj_Goes E om0 mt_275 46 [some (.ref 81), some (.int a1), some (.int a2)] [] SI4 SJ4 (QI Q)) ∧ (¬ r3 = 0 → gj_Do E om0 (gj_mt 155) [(.long (a2).toInt64), (.long (i6 0)), (.long (i6 1))] SI4 SJ4 _)
  refine ⟨fun c3 => ?_, fun c3 => ?_⟩
  · refine gj_goq gj_clT ok_275 [7, 13, 23] ?_
    show QI Q (some (.int (i3 (-1)))) SI4 SJ4
    exact ⟨_, rfl, (q2.1 c3)⟩
  · refine gj_Do.mono (q2.2 c3) (fun v_ SI6 SJ6 h_ => ?_)
    obtain ⟨r5, rfl, q4⟩ := h_
    show gj_Goes E om0 mt_275 23 [some (.ref 81), some (.int a1), some (.int a2)] [(.int r5)] SI6 SJ6 (QI Q)
    refine gj_goq gj_clT ok_275 [7, 13, 23] ?_
    show (r5 = 0 → gj_Goes E om0 mt_275 46 [some (.ref 81), some (.int a1), some (.int a2)] [] SI6 SJ6 (QI Q)) ∧ (¬ r5 = 0 → (¬ a2 = 0 → gj_Goes E om0 mt_275 38 [some (.ref 81), some (.int a1), some (.int a2)] [(.ref 82)] SI6 SJ6 (QI Q)) ∧ (a2 = 0 → gj_Goes E om0 mt_275 40 [some (.ref 81), some (.int a1), some (.int a2)] [(.int (i3 1)), (.ref 82)] SI6 SJ6 (QI Q)))
    refine ⟨fun c5 => ?_, fun c5 => ?_⟩
    · refine gj_goq gj_clT ok_275 [7, 13, 23] ?_
      show QI Q (some (.int (i3 (-1)))) SI6 SJ6
      exact ⟨_, rfl, (q4.1 c5)⟩
    · refine ⟨fun c6 => ?_, fun c6 => ?_⟩
      · refine gj_goq gj_clT ok_275 [7, 13, 23] ?_
        show vp_in ((i3 9) + a1) 135 ∧ (gj_Goes E om0 mt_275 47 [some (.ref 81), some (.int a1), some (.int a2)] [(.int (SI6 82 (gj_n ((i3 9) + a1))))] SI6 SJ6 (QI Q))
        have k7 := ((q4.2 c5).1 c6).1
        refine ⟨k7, ?_⟩
        refine gj_goq gj_clT ok_275 [7, 13, 23] ?_
        show QI Q (some (.int (SI6 82 (gj_n ((i3 9) + a1))))) SI6 SJ6
        exact ⟨_, rfl, ((q4.2 c5).1 c6).2⟩
      · refine gj_goq gj_clT ok_275 [7, 13, 23] ?_
        show vp_in ((i3 1) + a1) 135 ∧ (gj_Goes E om0 mt_275 47 [some (.ref 81), some (.int a1), some (.int a2)] [(.int (SI6 82 (gj_n ((i3 1) + a1))))] SI6 SJ6 (QI Q))
        have k8 := ((q4.2 c5).2 c6).1
        refine ⟨k8, ?_⟩
        refine gj_goq gj_clT ok_275 [7, 13, 23] ?_
        show QI Q (some (.int (SI6 82 (gj_n ((i3 1) + a1))))) SI6 SJ6
        exact ⟨_, rfl, ((q4.2 c5).2 c6).2⟩
set_option maxRecDepth 20000 in
/-- GraspJudgeModel.edge -/
theorem st_276 {E : gj_E} {Q : Int64 → gj_I → gj_J → Prop} (a1 : Int32) (a2 : Int32) (SI : gj_I) (SJ : gj_J) (h : DoI E 162 [(.ref 81)] SI SJ (fun r1 SI2 SJ2 => DoI E 155 [(.long (a1).toInt64), (.long (i6 0)), (.long (r1 - (i3 1)).toInt64)] SI2 SJ2 (fun r3 SI4 SJ4 => (¬ r3 = 0 → (a2 = (i3 0) → DoI E 166 [(.ref 81), (.int a1)] SI4 SJ4 (fun r5 SI6 SJ6 => Q (r5).toInt64 SI6 SJ6)) ∧ (a2 = (i3 1) → DoI E 167 [(.ref 81), (.int a1)] SI4 SJ4 (fun r7 SI8 SJ8 => Q (r7).toInt64 SI8 SJ8)) ∧ (a2 = (i3 2) → DoI E 167 [(.ref 81), (.int a1)] SI4 SJ4 (fun r9 SI10 SJ10 => Q (-r9).toInt64 SI10 SJ10)) ∧ (a2 = (i3 3) → DoI E 166 [(.ref 81), (.int a1)] SI4 SJ4 (fun r11 SI12 SJ12 => Q (r11).toInt64 SI12 SJ12)) ∧ (a2 = (i3 4) → DoI E 165 [(.ref 81), (.int a1)] SI4 SJ4 (fun r13 SI14 SJ14 => Q (r13).toInt64 SI14 SJ14)) ∧ (a2.toInt < 0 ∨ 4 < a2.toInt → Q (i6 (-9000000000000000000)) SI4 SJ4)) ∧ (r3 = 0 → Q (i6 (-9000000000000000000)) SI4 SJ4)))) : DoL E 276 [(.ref 81), (.int a1), (.int a2)] SI SJ Q := by
  refine gj_start (M := mt_276) ok_276 (Nat.le_of_ble_eq_true rfl) ?_
  refine gj_goq gj_clT ok_276 [7, 13, 61, 68, 75, 83, 90] ?_
  show gj_Do E om0 (gj_mt 162) [(.ref 81)] SI SJ _
  refine gj_Do.mono h (fun v_ SI2 SJ2 h_ => ?_)
  obtain ⟨r1, rfl, q1⟩ := h_
  show gj_Goes E om0 mt_276 7 [some (.ref 81), some (.int a1), some (.int a2)] [(.int r1), (.long (i6 0)), (.long (a1).toInt64)] SI2 SJ2 (QL Q)
  refine gj_goq gj_clT ok_276 [7, 13, 61, 68, 75, 83, 90] ?_
  show gj_Do E om0 (gj_mt 155) [(.long (a1).toInt64), (.long (i6 0)), (.long (r1 - (i3 1)).toInt64)] SI2 SJ2 _
  refine gj_Do.mono q1 (fun v_ SI4 SJ4 h_ => ?_)
  obtain ⟨r3, rfl, q2⟩ := h_
  show gj_Goes E om0 mt_276 13 [some (.ref 81), some (.int a1), some (.int a2)] [(.int r3)] SI4 SJ4 (QL Q)
  refine gj_goq gj_clT ok_276 [7, 13, 61, 68, 75, 83, 90] ?_
  show (¬ r3 = 0 → gj_Goes E om0 mt_276 20 [some (.ref 81), some (.int a1), some (.int a2)] [] SI4 SJ4 (QL Q)) ∧ (r3 = 0 → QL Q (some (.long (i6 (-9000000000000000000)))) SI4 SJ4)
  refine ⟨fun c3 => ?_, fun c3 => ?_⟩
  · refine gj_goq gj_clT ok_276 [7, 13, 61, 68, 75, 83, 90] ?_
    show ((a2 = Int32.ofInt (0) → gj_Goes E om0 mt_276 56 [some (.ref 81), some (.int a1), some (.int a2)] [] SI4 SJ4 (QL Q)) ∧ (a2 = Int32.ofInt (1) → gj_Goes E om0 mt_276 63 [some (.ref 81), some (.int a1), some (.int a2)] [] SI4 SJ4 (QL Q)) ∧ (a2 = Int32.ofInt (2) → gj_Goes E om0 mt_276 70 [some (.ref 81), some (.int a1), some (.int a2)] [] SI4 SJ4 (QL Q)) ∧ (a2 = Int32.ofInt (3) → gj_Goes E om0 mt_276 78 [some (.ref 81), some (.int a1), some (.int a2)] [] SI4 SJ4 (QL Q)) ∧ (a2 = Int32.ofInt (4) → gj_Goes E om0 mt_276 85 [some (.ref 81), some (.int a1), some (.int a2)] [] SI4 SJ4 (QL Q)) ∧ True) ∧ (a2.toInt < 0 ∨ 4 < a2.toInt → gj_Goes E om0 mt_276 92 [some (.ref 81), some (.int a1), some (.int a2)] [] SI4 SJ4 (QL Q))
    refine ⟨⟨fun c4 => ?_, ⟨fun c4 => ?_, ⟨fun c4 => ?_, ⟨fun c4 => ?_, ⟨fun c4 => ?_, trivial⟩⟩⟩⟩⟩, fun c4 => ?_⟩
    · refine gj_goq gj_clT ok_276 [7, 13, 61, 68, 75, 83, 90] ?_
      show gj_Do E om0 (gj_mt 166) [(.ref 81), (.int a1)] SI4 SJ4 _
      refine gj_Do.mono ((q2.1 c3).1 c4) (fun v_ SI6 SJ6 h_ => ?_)
      obtain ⟨r5, rfl, q5⟩ := h_
      show gj_Goes E om0 mt_276 61 [some (.ref 81), some (.int a1), some (.int a2)] [(.int r5)] SI6 SJ6 (QL Q)
      refine gj_goq gj_clT ok_276 [7, 13, 61, 68, 75, 83, 90] ?_
      show QL Q (some (.long (r5).toInt64)) SI6 SJ6
      exact ⟨_, rfl, q5⟩
    · refine gj_goq gj_clT ok_276 [7, 13, 61, 68, 75, 83, 90] ?_
      show gj_Do E om0 (gj_mt 167) [(.ref 81), (.int a1)] SI4 SJ4 _
      refine gj_Do.mono ((q2.1 c3).2.1 c4) (fun v_ SI8 SJ8 h_ => ?_)
      obtain ⟨r7, rfl, q6⟩ := h_
      show gj_Goes E om0 mt_276 68 [some (.ref 81), some (.int a1), some (.int a2)] [(.int r7)] SI8 SJ8 (QL Q)
      refine gj_goq gj_clT ok_276 [7, 13, 61, 68, 75, 83, 90] ?_
      show QL Q (some (.long (r7).toInt64)) SI8 SJ8
      exact ⟨_, rfl, q6⟩
    · refine gj_goq gj_clT ok_276 [7, 13, 61, 68, 75, 83, 90] ?_
      show gj_Do E om0 (gj_mt 167) [(.ref 81), (.int a1)] SI4 SJ4 _
      refine gj_Do.mono ((q2.1 c3).2.2.1 c4) (fun v_ SI10 SJ10 h_ => ?_)
      obtain ⟨r9, rfl, q7⟩ := h_
      show gj_Goes E om0 mt_276 75 [some (.ref 81), some (.int a1), some (.int a2)] [(.int r9)] SI10 SJ10 (QL Q)
      refine gj_goq gj_clT ok_276 [7, 13, 61, 68, 75, 83, 90] ?_
      show QL Q (some (.long (-r9).toInt64)) SI10 SJ10
      exact ⟨_, rfl, q7⟩
    · refine gj_goq gj_clT ok_276 [7, 13, 61, 68, 75, 83, 90] ?_
      show gj_Do E om0 (gj_mt 166) [(.ref 81), (.int a1)] SI4 SJ4 _
      refine gj_Do.mono ((q2.1 c3).2.2.2.1 c4) (fun v_ SI12 SJ12 h_ => ?_)
      obtain ⟨r11, rfl, q8⟩ := h_
      show gj_Goes E om0 mt_276 83 [some (.ref 81), some (.int a1), some (.int a2)] [(.int r11)] SI12 SJ12 (QL Q)
      refine gj_goq gj_clT ok_276 [7, 13, 61, 68, 75, 83, 90] ?_
      show QL Q (some (.long (r11).toInt64)) SI12 SJ12
      exact ⟨_, rfl, q8⟩
    · refine gj_goq gj_clT ok_276 [7, 13, 61, 68, 75, 83, 90] ?_
      show gj_Do E om0 (gj_mt 165) [(.ref 81), (.int a1)] SI4 SJ4 _
      refine gj_Do.mono ((q2.1 c3).2.2.2.2.1 c4) (fun v_ SI14 SJ14 h_ => ?_)
      obtain ⟨r13, rfl, q9⟩ := h_
      show gj_Goes E om0 mt_276 90 [some (.ref 81), some (.int a1), some (.int a2)] [(.int r13)] SI14 SJ14 (QL Q)
      refine gj_goq gj_clT ok_276 [7, 13, 61, 68, 75, 83, 90] ?_
      show QL Q (some (.long (r13).toInt64)) SI14 SJ14
      exact ⟨_, rfl, q9⟩
    · refine gj_goq gj_clT ok_276 [7, 13, 61, 68, 75, 83, 90] ?_
      show QL Q (some (.long (i6 (-9000000000000000000)))) SI4 SJ4
      exact ⟨_, rfl, ((q2.1 c3).2.2.2.2.2 c4)⟩
  · exact ⟨_, rfl, (q2.2 c3)⟩
set_option maxRecDepth 20000 in
/-- GraspJudgeModel.place -/
theorem st_277 {E : gj_E} {Q : Int32 → gj_I → gj_J → Prop} (a1 : Int32) (a2 : Int32) (SI : gj_I) (SJ : gj_J) (h : DoI E 179 [(.ref 81), (.int a1)] SI SJ (fun r1 SI2 SJ2 => (¬ r1 = 0 → DoI E 177 [(.ref 81), (.int a1)] SI2 SJ2 (fun r3 SI4 SJ4 => DoI E 178 [(.ref 81), (.int a1)] SI4 SJ4 (fun r5 SI6 SJ6 => (a2 = (i3 0) → Q r3 SI6 SJ6) ∧ (a2 = (i3 1) → Q r5 SI6 SJ6) ∧ (a2 = (i3 2) → DoI E 168 [(.ref 81), (.int r3), (.int r5)] SI6 SJ6 (fun r7 SI8 SJ8 => Q r7 SI8 SJ8)) ∧ (a2 = (i3 3) → DoI E 169 [(.ref 81), (.int r3), (.int r5)] SI6 SJ6 (fun r9 SI10 SJ10 => Q r9 SI10 SJ10)) ∧ (a2 = (i3 4) → DoI E 180 [(.ref 81), (.int r3), (.int r5)] SI6 SJ6 (fun r11 SI12 SJ12 => (¬ r11 = (i3 (-1)) → DoI E 180 [(.ref 81), (.int r3), (.int r5)] SI12 SJ12 (fun r13 SI14 SJ14 => Q r13 SI14 SJ14)) ∧ (r11 = (i3 (-1)) → Q (i3 (-2)) SI12 SJ12))) ∧ (a2 = (i3 5) → DoI E 271 [(.ref 81), (.int a1)] SI6 SJ6 (fun r15 SI16 SJ16 => Q r15 SI16 SJ16)) ∧ (a2 = (i3 6) → DoI E 272 [(.ref 81), (.int a1)] SI6 SJ6 (fun r17 SI18 SJ18 => Q r17 SI18 SJ18)) ∧ (a2.toInt < 0 ∨ 6 < a2.toInt → Q (i3 (-1)) SI6 SJ6)))) ∧ (r1 = 0 → Q (i3 (-1)) SI2 SJ2))) : DoI E 277 [(.ref 81), (.int a1), (.int a2)] SI SJ Q := by
  refine gj_start (M := mt_277) ok_277 (Nat.le_of_ble_eq_true rfl) ?_
  refine gj_goq gj_clT ok_277 [5, 15, 21, 80, 88, 96, 112, 118, 124] ?_
  show gj_Do E om0 (gj_mt 179) [(.ref 81), (.int a1)] SI SJ _
  refine gj_Do.mono h (fun v_ SI2 SJ2 h_ => ?_)
  obtain ⟨r1, rfl, q1⟩ := h_
  show gj_Goes E om0 mt_277 5 [some (.ref 81), some (.int a1), some (.int a2), none, none] [(.int r1)] SI2 SJ2 (QI Q)
  refine gj_goq gj_clT ok_277 [5, 15, 21, 80, 88, 96, 112, 118, 124] ?_
  show (¬ r1 = 0 → gj_Goes E om0 mt_277 10 [some (.ref 81), some (.int a1), some (.int a2), none, none] [] SI2 SJ2 (QI Q)) ∧ (r1 = 0 → QI Q (some (.int (i3 (-1)))) SI2 SJ2)
  refine ⟨fun c2 => ?_, fun c2 => ?_⟩
  · refine gj_goq gj_clT ok_277 [5, 15, 21, 80, 88, 96, 112, 118, 124] ?_
    show gj_Do E om0 (gj_mt 177) [(.ref 81), (.int a1)] SI2 SJ2 _
    refine gj_Do.mono (q1.1 c2) (fun v_ SI4 SJ4 h_ => ?_)
    obtain ⟨r3, rfl, q3⟩ := h_
    show gj_Goes E om0 mt_277 15 [some (.ref 81), some (.int a1), some (.int a2), none, none] [(.int r3)] SI4 SJ4 (QI Q)
    refine gj_goq gj_clT ok_277 [5, 15, 21, 80, 88, 96, 112, 118, 124] ?_
    show gj_Do E om0 (gj_mt 178) [(.ref 81), (.int a1)] SI4 SJ4 _
    refine gj_Do.mono q3 (fun v_ SI6 SJ6 h_ => ?_)
    obtain ⟨r5, rfl, q4⟩ := h_
    show gj_Goes E om0 mt_277 21 [some (.ref 81), some (.int a1), some (.int a2), some (.int r3), none] [(.int r5)] SI6 SJ6 (QI Q)
    refine gj_goq gj_clT ok_277 [5, 15, 21, 80, 88, 96, 112, 118, 124] ?_
    show ((a2 = Int32.ofInt (0) → gj_Goes E om0 mt_277 68 [some (.ref 81), some (.int a1), some (.int a2), some (.int r3), some (.int r5)] [] SI6 SJ6 (QI Q)) ∧ (a2 = Int32.ofInt (1) → gj_Goes E om0 mt_277 70 [some (.ref 81), some (.int a1), some (.int a2), some (.int r3), some (.int r5)] [] SI6 SJ6 (QI Q)) ∧ (a2 = Int32.ofInt (2) → gj_Goes E om0 mt_277 73 [some (.ref 81), some (.int a1), some (.int a2), some (.int r3), some (.int r5)] [] SI6 SJ6 (QI Q)) ∧ (a2 = Int32.ofInt (3) → gj_Goes E om0 mt_277 81 [some (.ref 81), some (.int a1), some (.int a2), some (.int r3), some (.int r5)] [] SI6 SJ6 (QI Q)) ∧ (a2 = Int32.ofInt (4) → gj_Goes E om0 mt_277 89 [some (.ref 81), some (.int a1), some (.int a2), some (.int r3), some (.int r5)] [] SI6 SJ6 (QI Q)) ∧ (a2 = Int32.ofInt (5) → gj_Goes E om0 mt_277 113 [some (.ref 81), some (.int a1), some (.int a2), some (.int r3), some (.int r5)] [] SI6 SJ6 (QI Q)) ∧ (a2 = Int32.ofInt (6) → gj_Goes E om0 mt_277 119 [some (.ref 81), some (.int a1), some (.int a2), some (.int r3), some (.int r5)] [] SI6 SJ6 (QI Q)) ∧ True) ∧ (a2.toInt < 0 ∨ 6 < a2.toInt → gj_Goes E om0 mt_277 125 [some (.ref 81), some (.int a1), some (.int a2), some (.int r3), some (.int r5)] [] SI6 SJ6 (QI Q))
    refine ⟨⟨fun c5 => ?_, ⟨fun c5 => ?_, ⟨fun c5 => ?_, ⟨fun c5 => ?_, ⟨fun c5 => ?_, ⟨fun c5 => ?_, ⟨fun c5 => ?_, trivial⟩⟩⟩⟩⟩⟩⟩, fun c5 => ?_⟩
    · refine gj_goq gj_clT ok_277 [5, 15, 21, 80, 88, 96, 112, 118, 124] ?_
      show QI Q (some (.int r3)) SI6 SJ6
      exact ⟨_, rfl, (q4.1 c5)⟩
    · refine gj_goq gj_clT ok_277 [5, 15, 21, 80, 88, 96, 112, 118, 124] ?_
      show QI Q (some (.int r5)) SI6 SJ6
      exact ⟨_, rfl, (q4.2.1 c5)⟩
    · refine gj_goq gj_clT ok_277 [5, 15, 21, 80, 88, 96, 112, 118, 124] ?_
      show gj_Do E om0 (gj_mt 168) [(.ref 81), (.int r3), (.int r5)] SI6 SJ6 _
      refine gj_Do.mono (q4.2.2.1 c5) (fun v_ SI8 SJ8 h_ => ?_)
      obtain ⟨r7, rfl, q6⟩ := h_
      show gj_Goes E om0 mt_277 80 [some (.ref 81), some (.int a1), some (.int a2), some (.int r3), some (.int r5)] [(.int r7)] SI8 SJ8 (QI Q)
      refine gj_goq gj_clT ok_277 [5, 15, 21, 80, 88, 96, 112, 118, 124] ?_
      show QI Q (some (.int r7)) SI8 SJ8
      exact ⟨_, rfl, q6⟩
    · refine gj_goq gj_clT ok_277 [5, 15, 21, 80, 88, 96, 112, 118, 124] ?_
      show gj_Do E om0 (gj_mt 169) [(.ref 81), (.int r3), (.int r5)] SI6 SJ6 _
      refine gj_Do.mono (q4.2.2.2.1 c5) (fun v_ SI10 SJ10 h_ => ?_)
      obtain ⟨r9, rfl, q7⟩ := h_
      show gj_Goes E om0 mt_277 88 [some (.ref 81), some (.int a1), some (.int a2), some (.int r3), some (.int r5)] [(.int r9)] SI10 SJ10 (QI Q)
      refine gj_goq gj_clT ok_277 [5, 15, 21, 80, 88, 96, 112, 118, 124] ?_
      show QI Q (some (.int r9)) SI10 SJ10
      exact ⟨_, rfl, q7⟩
    · refine gj_goq gj_clT ok_277 [5, 15, 21, 80, 88, 96, 112, 118, 124] ?_
      show gj_Do E om0 (gj_mt 180) [(.ref 81), (.int r3), (.int r5)] SI6 SJ6 _
      refine gj_Do.mono (q4.2.2.2.2.1 c5) (fun v_ SI12 SJ12 h_ => ?_)
      obtain ⟨r11, rfl, q8⟩ := h_
      show gj_Goes E om0 mt_277 96 [some (.ref 81), some (.int a1), some (.int a2), some (.int r3), some (.int r5)] [(.int r11)] SI12 SJ12 (QI Q)
      refine gj_goq gj_clT ok_277 [5, 15, 21, 80, 88, 96, 112, 118, 124] ?_
      show (¬ r11 = (i3 (-1)) → gj_Goes E om0 mt_277 105 [some (.ref 81), some (.int a1), some (.int a2), some (.int r3), some (.int r5)] [] SI12 SJ12 (QI Q)) ∧ (r11 = (i3 (-1)) → gj_Goes E om0 mt_277 112 [some (.ref 81), some (.int a1), some (.int a2), some (.int r3), some (.int r5)] [(.int (i3 (-2)))] SI12 SJ12 (QI Q))
      refine ⟨fun c9 => ?_, fun c9 => ?_⟩
      · refine gj_goq gj_clT ok_277 [5, 15, 21, 80, 88, 96, 112, 118, 124] ?_
        show gj_Do E om0 (gj_mt 180) [(.ref 81), (.int r3), (.int r5)] SI12 SJ12 _
        refine gj_Do.mono (q8.1 c9) (fun v_ SI14 SJ14 h_ => ?_)
        obtain ⟨r13, rfl, q10⟩ := h_
        show gj_Goes E om0 mt_277 112 [some (.ref 81), some (.int a1), some (.int a2), some (.int r3), some (.int r5)] [(.int r13)] SI14 SJ14 (QI Q)
        refine gj_goq gj_clT ok_277 [5, 15, 21, 80, 88, 96, 112, 118, 124] ?_
        show QI Q (some (.int r13)) SI14 SJ14
        exact ⟨_, rfl, q10⟩
      · refine gj_goq gj_clT ok_277 [5, 15, 21, 80, 88, 96, 112, 118, 124] ?_
        show QI Q (some (.int (i3 (-2)))) SI12 SJ12
        exact ⟨_, rfl, (q8.2 c9)⟩
    · refine gj_goq gj_clT ok_277 [5, 15, 21, 80, 88, 96, 112, 118, 124] ?_
      show gj_Do E om0 (gj_mt 271) [(.ref 81), (.int a1)] SI6 SJ6 _
      refine gj_Do.mono (q4.2.2.2.2.2.1 c5) (fun v_ SI16 SJ16 h_ => ?_)
      obtain ⟨r15, rfl, q11⟩ := h_
      show gj_Goes E om0 mt_277 118 [some (.ref 81), some (.int a1), some (.int a2), some (.int r3), some (.int r5)] [(.int r15)] SI16 SJ16 (QI Q)
      refine gj_goq gj_clT ok_277 [5, 15, 21, 80, 88, 96, 112, 118, 124] ?_
      show QI Q (some (.int r15)) SI16 SJ16
      exact ⟨_, rfl, q11⟩
    · refine gj_goq gj_clT ok_277 [5, 15, 21, 80, 88, 96, 112, 118, 124] ?_
      show gj_Do E om0 (gj_mt 272) [(.ref 81), (.int a1)] SI6 SJ6 _
      refine gj_Do.mono (q4.2.2.2.2.2.2.1 c5) (fun v_ SI18 SJ18 h_ => ?_)
      obtain ⟨r17, rfl, q12⟩ := h_
      show gj_Goes E om0 mt_277 124 [some (.ref 81), some (.int a1), some (.int a2), some (.int r3), some (.int r5)] [(.int r17)] SI18 SJ18 (QI Q)
      refine gj_goq gj_clT ok_277 [5, 15, 21, 80, 88, 96, 112, 118, 124] ?_
      show QI Q (some (.int r17)) SI18 SJ18
      exact ⟨_, rfl, q12⟩
    · refine gj_goq gj_clT ok_277 [5, 15, 21, 80, 88, 96, 112, 118, 124] ?_
      show QI Q (some (.int (i3 (-1)))) SI6 SJ6
      exact ⟨_, rfl, (q4.2.2.2.2.2.2.2 c5)⟩
  · exact ⟨_, rfl, (q1.2 c2)⟩
set_option maxRecDepth 20000 in
/-- GraspJudgeModel.inside -/
theorem st_278 {E : gj_E} {Q : Int32 → gj_I → gj_J → Prop} (a1 : Int32) (a2 : Int32) (SI : gj_I) (SJ : gj_J) (h : DoI E 155 [(.long (a1).toInt64), (.long (i6 (-20))), (.long (i6 20))] SI SJ (fun r1 SI2 SJ2 => (r1 = 0 → Q (i3 (-1)) SI2 SJ2) ∧ (¬ r1 = 0 → DoI E 155 [(.long (a2).toInt64), (.long (i6 (-20))), (.long (i6 20))] SI2 SJ2 (fun r3 SI4 SJ4 => (¬ r3 = 0 → GoI E mt_278 32 [some (.ref 81), some (.int a1), some (.int a2), some (.int (i3 0)), none, none, none, none, none] SI4 SJ4 Q) ∧ (r3 = 0 → Q (i3 (-1)) SI4 SJ4))))) : DoI E 278 [(.ref 81), (.int a1), (.int a2)] SI SJ Q := by
  refine gj_start (M := mt_278) ok_278 (Nat.le_of_ble_eq_true rfl) ?_
  refine gj_goq gj_clT ok_278 [11, 25, 32, 37, 47, 63, 69, 78, 97, 120] ?_
  show gj_Do E om0 (gj_mt 155) [(.long (a1).toInt64), (.long (i6 (-20))), (.long (i6 20))] SI SJ _
  refine gj_Do.mono h (fun v_ SI2 SJ2 h_ => ?_)
  obtain ⟨r1, rfl, q1⟩ := h_
  show gj_Goes E om0 mt_278 11 [some (.ref 81), some (.int a1), some (.int a2), none, none, none, none, none, none] [(.int r1)] SI2 SJ2 (QI Q)
  refine gj_goq gj_clT ok_278 [11, 25, 32, 37, 47, 63, 69, 78, 97, 120] ?_
  show (r1 = 0 → gj_Goes E om0 mt_278 28 [some (.ref 81), some (.int a1), some (.int a2), none, none, none, none, none, none] [] SI2 SJ2 (QI Q)) ∧ (¬ r1 = 0 → gj_Do E om0 (gj_mt 155) [(.long (a2).toInt64), (.long (i6 (-20))), (.long (i6 20))] SI2 SJ2 _)
  refine ⟨fun c2 => ?_, fun c2 => ?_⟩
  · refine gj_goq gj_clT ok_278 [11, 25, 32, 37, 47, 63, 69, 78, 97, 120] ?_
    show QI Q (some (.int (i3 (-1)))) SI2 SJ2
    exact ⟨_, rfl, (q1.1 c2)⟩
  · refine gj_Do.mono (q1.2 c2) (fun v_ SI4 SJ4 h_ => ?_)
    obtain ⟨r3, rfl, q3⟩ := h_
    show gj_Goes E om0 mt_278 25 [some (.ref 81), some (.int a1), some (.int a2), none, none, none, none, none, none] [(.int r3)] SI4 SJ4 (QI Q)
    refine gj_goq gj_clT ok_278 [11, 25, 32, 37, 47, 63, 69, 78, 97, 120] ?_
    show (¬ r3 = 0 → gj_Goes E om0 mt_278 30 [some (.ref 81), some (.int a1), some (.int a2), none, none, none, none, none, none] [] SI4 SJ4 (QI Q)) ∧ (r3 = 0 → QI Q (some (.int (i3 (-1)))) SI4 SJ4)
    refine ⟨fun c4 => ?_, fun c4 => ?_⟩
    · refine gj_goq gj_clT ok_278 [11, 25, 32, 37, 47, 63, 69, 78, 97, 120] ?_
      show gj_Goes E om0 mt_278 32 [some (.ref 81), some (.int a1), some (.int a2), some (.int (i3 0)), none, none, none, none, none] [] SI4 SJ4 (QI Q)
      exact (q3.1 c4)
    · exact ⟨_, rfl, (q3.2 c4)⟩
set_option maxRecDepth 20000 in
theorem lp_278_32 {E : gj_E} {Q : Int32 → gj_I → gj_J → Prop} (x1 : Int32) (x2 : Int32) (x3 : Int32) (SI : gj_I) (SJ : gj_J) (h : DoI E 162 [(.ref 81)] SI SJ (fun r1 SI2 SJ2 => (r1 ≤ x3 → GoI E mt_278 63 [some (.ref 81), some (.int x1), some (.int x2), some (.int (i3 0)), some (.int (i3 0)), none, none, none, none] SI2 SJ2 Q) ∧ (¬ r1 ≤ x3 → DoI E 172 [(.ref 81), (.int x3), (.int x1), (.int x2)] SI2 SJ2 (fun r3 SI4 SJ4 => (r3 = 0 → GoI E mt_278 32 [some (.ref 81), some (.int x1), some (.int x2), some (.int (x3 + (i3 1))), none, none, none, none, none] SI4 SJ4 Q) ∧ (¬ r3 = 0 → Q (i3 2) SI4 SJ4))))) : GoI E mt_278 32 [some (.ref 81), some (.int x1), some (.int x2), some (.int x3), none, none, none, none, none] SI SJ Q := by
  refine gj_goq gj_clT ok_278 [11, 25, 32, 37, 47, 63, 69, 78, 97, 120] ?_
  show gj_Do E om0 (gj_mt 162) [(.ref 81)] SI SJ _
  refine gj_Do.mono h (fun v_ SI2 SJ2 h_ => ?_)
  obtain ⟨r1, rfl, q1⟩ := h_
  show gj_Goes E om0 mt_278 37 [some (.ref 81), some (.int x1), some (.int x2), some (.int x3), none, none, none, none, none] [(.int r1), (.int x3)] SI2 SJ2 (QI Q)
  refine gj_goq gj_clT ok_278 [11, 25, 32, 37, 47, 63, 69, 78, 97, 120] ?_
  show (r1 ≤ x3 → gj_Goes E om0 mt_278 58 [some (.ref 81), some (.int x1), some (.int x2), some (.int x3), none, none, none, none, none] [] SI2 SJ2 (QI Q)) ∧ (¬ r1 ≤ x3 → gj_Do E om0 (gj_mt 172) [(.ref 81), (.int x3), (.int x1), (.int x2)] SI2 SJ2 _)
  refine ⟨fun c2 => ?_, fun c2 => ?_⟩
  · refine gj_goq gj_clT ok_278 [11, 25, 32, 37, 47, 63, 69, 78, 97, 120] ?_
    show gj_Goes E om0 mt_278 63 [some (.ref 81), some (.int x1), some (.int x2), some (.int (i3 0)), some (.int (i3 0)), none, none, none, none] [] SI2 SJ2 (QI Q)
    exact (q1.1 c2)
  · refine gj_Do.mono (q1.2 c2) (fun v_ SI4 SJ4 h_ => ?_)
    obtain ⟨r3, rfl, q3⟩ := h_
    show gj_Goes E om0 mt_278 47 [some (.ref 81), some (.int x1), some (.int x2), some (.int x3), none, none, none, none, none] [(.int r3)] SI4 SJ4 (QI Q)
    refine gj_goq gj_clT ok_278 [11, 25, 32, 37, 47, 63, 69, 78, 97, 120] ?_
    show (r3 = 0 → gj_Goes E om0 mt_278 52 [some (.ref 81), some (.int x1), some (.int x2), some (.int x3), none, none, none, none, none] [] SI4 SJ4 (QI Q)) ∧ (¬ r3 = 0 → QI Q (some (.int (i3 2))) SI4 SJ4)
    refine ⟨fun c4 => ?_, fun c4 => ?_⟩
    · refine gj_goq gj_clT ok_278 [11, 25, 32, 37, 47, 63, 69, 78, 97, 120] ?_
      show gj_Goes E om0 mt_278 32 [some (.ref 81), some (.int x1), some (.int x2), some (.int (x3 + (i3 1))), none, none, none, none, none] [] SI4 SJ4 (QI Q)
      exact (q3.1 c4)
    · exact ⟨_, rfl, (q3.2 c4)⟩
set_option maxRecDepth 20000 in
theorem lp_278_63 {E : gj_E} {Q : Int32 → gj_I → gj_J → Prop} (x1 : Int32) (x2 : Int32) (x3 : Int32) (x4 : Int32) (SI : gj_I) (SJ : gj_J) (h : DoI E 162 [(.ref 81)] SI SJ (fun r1 SI2 SJ2 => (r1 ≤ x4 → (¬ x3 = 0 → Q (i3 1) SI2 SJ2) ∧ (x3 = 0 → Q (i3 0) SI2 SJ2)) ∧ (¬ r1 ≤ x4 → DoI E 164 [(.ref 81), (.int x4)] SI2 SJ2 (fun r3 SI4 SJ4 => (x2 < r3 → DoI E 164 [(.ref 81), (.int (x4 + (i3 1)))] SI4 SJ4 (fun r5 SI6 SJ6 => (x2 < r5 → DoL E 170 [(.ref 81), (.int x4), (.int (x4 + (i3 1))), (.int x1), (.int x2)] SI6 SJ6 (fun r7 SI8 SJ8 => ((i3 0) = 0 → (¬ (i3 0) = 0 → GoI E mt_278 63 [some (.ref 81), some (.int x1), some (.int x2), some (.int x3), some (.int (x4 + (i3 1))), none, none, none, none] SI8 SJ8 Q) ∧ ((i3 0) = 0 → ((i3 0) = 0 → GoI E mt_278 63 [some (.ref 81), some (.int x1), some (.int x2), some (.int x3), some (.int (x4 + (i3 1))), none, none, none, none] SI8 SJ8 Q) ∧ (¬ (i3 0) = 0 → (r7 ≥ (i6 0) → GoI E mt_278 63 [some (.ref 81), some (.int x1), some (.int x2), some (.int x3), some (.int (x4 + (i3 1))), none, none, none, none] SI8 SJ8 Q) ∧ (¬ r7 ≥ (i6 0) → GoI E mt_278 63 [some (.ref 81), some (.int x1), some (.int x2), some (.int (x3 - (i3 1))), some (.int (x4 + (i3 1))), none, none, none, none] SI8 SJ8 Q)))) ∧ (¬ (i3 0) = 0 → (¬ (i3 0) = 0 → (¬ (i3 0) = 0 → GoI E mt_278 63 [some (.ref 81), some (.int x1), some (.int x2), some (.int x3), some (.int (x4 + (i3 1))), none, none, none, none] SI8 SJ8 Q) ∧ ((i3 0) = 0 → ((i3 0) = 0 → GoI E mt_278 63 [some (.ref 81), some (.int x1), some (.int x2), some (.int x3), some (.int (x4 + (i3 1))), none, none, none, none] SI8 SJ8 Q) ∧ (¬ (i3 0) = 0 → (r7 ≥ (i6 0) → GoI E mt_278 63 [some (.ref 81), some (.int x1), some (.int x2), some (.int x3), some (.int (x4 + (i3 1))), none, none, none, none] SI8 SJ8 Q) ∧ (¬ r7 ≥ (i6 0) → GoI E mt_278 63 [some (.ref 81), some (.int x1), some (.int x2), some (.int (x3 - (i3 1))), some (.int (x4 + (i3 1))), none, none, none, none] SI8 SJ8 Q)))) ∧ ((i3 0) = 0 → (r7 ≤ (i6 0) → (¬ (i3 0) = 0 → GoI E mt_278 63 [some (.ref 81), some (.int x1), some (.int x2), some (.int x3), some (.int (x4 + (i3 1))), none, none, none, none] SI8 SJ8 Q) ∧ ((i3 0) = 0 → ((i3 0) = 0 → GoI E mt_278 63 [some (.ref 81), some (.int x1), some (.int x2), some (.int x3), some (.int (x4 + (i3 1))), none, none, none, none] SI8 SJ8 Q) ∧ (¬ (i3 0) = 0 → (r7 ≥ (i6 0) → GoI E mt_278 63 [some (.ref 81), some (.int x1), some (.int x2), some (.int x3), some (.int (x4 + (i3 1))), none, none, none, none] SI8 SJ8 Q) ∧ (¬ r7 ≥ (i6 0) → GoI E mt_278 63 [some (.ref 81), some (.int x1), some (.int x2), some (.int (x3 - (i3 1))), some (.int (x4 + (i3 1))), none, none, none, none] SI8 SJ8 Q)))) ∧ (¬ r7 ≤ (i6 0) → (¬ (i3 0) = 0 → GoI E mt_278 63 [some (.ref 81), some (.int x1), some (.int x2), some (.int (x3 + (i3 1))), some (.int (x4 + (i3 1))), none, none, none, none] SI8 SJ8 Q) ∧ ((i3 0) = 0 → ((i3 0) = 0 → GoI E mt_278 63 [some (.ref 81), some (.int x1), some (.int x2), some (.int (x3 + (i3 1))), some (.int (x4 + (i3 1))), none, none, none, none] SI8 SJ8 Q) ∧ (¬ (i3 0) = 0 → (r7 ≥ (i6 0) → GoI E mt_278 63 [some (.ref 81), some (.int x1), some (.int x2), some (.int (x3 + (i3 1))), some (.int (x4 + (i3 1))), none, none, none, none] SI8 SJ8 Q) ∧ (¬ r7 ≥ (i6 0) → GoI E mt_278 63 [some (.ref 81), some (.int x1), some (.int x2), some (.int ((x3 + (i3 1)) - (i3 1))), some (.int (x4 + (i3 1))), none, none, none, none] SI8 SJ8 Q)))))))) ∧ (¬ x2 < r5 → DoL E 170 [(.ref 81), (.int x4), (.int (x4 + (i3 1))), (.int x1), (.int x2)] SI6 SJ6 (fun r9 SI10 SJ10 => ((i3 0) = 0 → (¬ (i3 0) = 0 → GoI E mt_278 63 [some (.ref 81), some (.int x1), some (.int x2), some (.int x3), some (.int (x4 + (i3 1))), none, none, none, none] SI10 SJ10 Q) ∧ ((i3 0) = 0 → ((i3 1) = 0 → GoI E mt_278 63 [some (.ref 81), some (.int x1), some (.int x2), some (.int x3), some (.int (x4 + (i3 1))), none, none, none, none] SI10 SJ10 Q) ∧ (¬ (i3 1) = 0 → (r9 ≥ (i6 0) → GoI E mt_278 63 [some (.ref 81), some (.int x1), some (.int x2), some (.int x3), some (.int (x4 + (i3 1))), none, none, none, none] SI10 SJ10 Q) ∧ (¬ r9 ≥ (i6 0) → GoI E mt_278 63 [some (.ref 81), some (.int x1), some (.int x2), some (.int (x3 - (i3 1))), some (.int (x4 + (i3 1))), none, none, none, none] SI10 SJ10 Q)))) ∧ (¬ (i3 0) = 0 → (¬ (i3 1) = 0 → (¬ (i3 0) = 0 → GoI E mt_278 63 [some (.ref 81), some (.int x1), some (.int x2), some (.int x3), some (.int (x4 + (i3 1))), none, none, none, none] SI10 SJ10 Q) ∧ ((i3 0) = 0 → ((i3 1) = 0 → GoI E mt_278 63 [some (.ref 81), some (.int x1), some (.int x2), some (.int x3), some (.int (x4 + (i3 1))), none, none, none, none] SI10 SJ10 Q) ∧ (¬ (i3 1) = 0 → (r9 ≥ (i6 0) → GoI E mt_278 63 [some (.ref 81), some (.int x1), some (.int x2), some (.int x3), some (.int (x4 + (i3 1))), none, none, none, none] SI10 SJ10 Q) ∧ (¬ r9 ≥ (i6 0) → GoI E mt_278 63 [some (.ref 81), some (.int x1), some (.int x2), some (.int (x3 - (i3 1))), some (.int (x4 + (i3 1))), none, none, none, none] SI10 SJ10 Q)))) ∧ ((i3 1) = 0 → (r9 ≤ (i6 0) → (¬ (i3 0) = 0 → GoI E mt_278 63 [some (.ref 81), some (.int x1), some (.int x2), some (.int x3), some (.int (x4 + (i3 1))), none, none, none, none] SI10 SJ10 Q) ∧ ((i3 0) = 0 → ((i3 1) = 0 → GoI E mt_278 63 [some (.ref 81), some (.int x1), some (.int x2), some (.int x3), some (.int (x4 + (i3 1))), none, none, none, none] SI10 SJ10 Q) ∧ (¬ (i3 1) = 0 → (r9 ≥ (i6 0) → GoI E mt_278 63 [some (.ref 81), some (.int x1), some (.int x2), some (.int x3), some (.int (x4 + (i3 1))), none, none, none, none] SI10 SJ10 Q) ∧ (¬ r9 ≥ (i6 0) → GoI E mt_278 63 [some (.ref 81), some (.int x1), some (.int x2), some (.int (x3 - (i3 1))), some (.int (x4 + (i3 1))), none, none, none, none] SI10 SJ10 Q)))) ∧ (¬ r9 ≤ (i6 0) → (¬ (i3 0) = 0 → GoI E mt_278 63 [some (.ref 81), some (.int x1), some (.int x2), some (.int (x3 + (i3 1))), some (.int (x4 + (i3 1))), none, none, none, none] SI10 SJ10 Q) ∧ ((i3 0) = 0 → ((i3 1) = 0 → GoI E mt_278 63 [some (.ref 81), some (.int x1), some (.int x2), some (.int (x3 + (i3 1))), some (.int (x4 + (i3 1))), none, none, none, none] SI10 SJ10 Q) ∧ (¬ (i3 1) = 0 → (r9 ≥ (i6 0) → GoI E mt_278 63 [some (.ref 81), some (.int x1), some (.int x2), some (.int (x3 + (i3 1))), some (.int (x4 + (i3 1))), none, none, none, none] SI10 SJ10 Q) ∧ (¬ r9 ≥ (i6 0) → GoI E mt_278 63 [some (.ref 81), some (.int x1), some (.int x2), some (.int ((x3 + (i3 1)) - (i3 1))), some (.int (x4 + (i3 1))), none, none, none, none] SI10 SJ10 Q)))))))))) ∧ (¬ x2 < r3 → DoI E 164 [(.ref 81), (.int (x4 + (i3 1)))] SI4 SJ4 (fun r11 SI12 SJ12 => (x2 < r11 → DoL E 170 [(.ref 81), (.int x4), (.int (x4 + (i3 1))), (.int x1), (.int x2)] SI12 SJ12 (fun r13 SI14 SJ14 => ((i3 1) = 0 → (¬ (i3 1) = 0 → GoI E mt_278 63 [some (.ref 81), some (.int x1), some (.int x2), some (.int x3), some (.int (x4 + (i3 1))), none, none, none, none] SI14 SJ14 Q) ∧ ((i3 1) = 0 → ((i3 0) = 0 → GoI E mt_278 63 [some (.ref 81), some (.int x1), some (.int x2), some (.int x3), some (.int (x4 + (i3 1))), none, none, none, none] SI14 SJ14 Q) ∧ (¬ (i3 0) = 0 → (r13 ≥ (i6 0) → GoI E mt_278 63 [some (.ref 81), some (.int x1), some (.int x2), some (.int x3), some (.int (x4 + (i3 1))), none, none, none, none] SI14 SJ14 Q) ∧ (¬ r13 ≥ (i6 0) → GoI E mt_278 63 [some (.ref 81), some (.int x1), some (.int x2), some (.int (x3 - (i3 1))), some (.int (x4 + (i3 1))), none, none, none, none] SI14 SJ14 Q)))) ∧ (¬ (i3 1) = 0 → (¬ (i3 0) = 0 → (¬ (i3 1) = 0 → GoI E mt_278 63 [some (.ref 81), some (.int x1), some (.int x2), some (.int x3), some (.int (x4 + (i3 1))), none, none, none, none] SI14 SJ14 Q) ∧ ((i3 1) = 0 → ((i3 0) = 0 → GoI E mt_278 63 [some (.ref 81), some (.int x1), some (.int x2), some (.int x3), some (.int (x4 + (i3 1))), none, none, none, none] SI14 SJ14 Q) ∧ (¬ (i3 0) = 0 → (r13 ≥ (i6 0) → GoI E mt_278 63 [some (.ref 81), some (.int x1), some (.int x2), some (.int x3), some (.int (x4 + (i3 1))), none, none, none, none] SI14 SJ14 Q) ∧ (¬ r13 ≥ (i6 0) → GoI E mt_278 63 [some (.ref 81), some (.int x1), some (.int x2), some (.int (x3 - (i3 1))), some (.int (x4 + (i3 1))), none, none, none, none] SI14 SJ14 Q)))) ∧ ((i3 0) = 0 → (r13 ≤ (i6 0) → (¬ (i3 1) = 0 → GoI E mt_278 63 [some (.ref 81), some (.int x1), some (.int x2), some (.int x3), some (.int (x4 + (i3 1))), none, none, none, none] SI14 SJ14 Q) ∧ ((i3 1) = 0 → ((i3 0) = 0 → GoI E mt_278 63 [some (.ref 81), some (.int x1), some (.int x2), some (.int x3), some (.int (x4 + (i3 1))), none, none, none, none] SI14 SJ14 Q) ∧ (¬ (i3 0) = 0 → (r13 ≥ (i6 0) → GoI E mt_278 63 [some (.ref 81), some (.int x1), some (.int x2), some (.int x3), some (.int (x4 + (i3 1))), none, none, none, none] SI14 SJ14 Q) ∧ (¬ r13 ≥ (i6 0) → GoI E mt_278 63 [some (.ref 81), some (.int x1), some (.int x2), some (.int (x3 - (i3 1))), some (.int (x4 + (i3 1))), none, none, none, none] SI14 SJ14 Q)))) ∧ (¬ r13 ≤ (i6 0) → (¬ (i3 1) = 0 → GoI E mt_278 63 [some (.ref 81), some (.int x1), some (.int x2), some (.int (x3 + (i3 1))), some (.int (x4 + (i3 1))), none, none, none, none] SI14 SJ14 Q) ∧ ((i3 1) = 0 → ((i3 0) = 0 → GoI E mt_278 63 [some (.ref 81), some (.int x1), some (.int x2), some (.int (x3 + (i3 1))), some (.int (x4 + (i3 1))), none, none, none, none] SI14 SJ14 Q) ∧ (¬ (i3 0) = 0 → (r13 ≥ (i6 0) → GoI E mt_278 63 [some (.ref 81), some (.int x1), some (.int x2), some (.int (x3 + (i3 1))), some (.int (x4 + (i3 1))), none, none, none, none] SI14 SJ14 Q) ∧ (¬ r13 ≥ (i6 0) → GoI E mt_278 63 [some (.ref 81), some (.int x1), some (.int x2), some (.int ((x3 + (i3 1)) - (i3 1))), some (.int (x4 + (i3 1))), none, none, none, none] SI14 SJ14 Q)))))))) ∧ (¬ x2 < r11 → DoL E 170 [(.ref 81), (.int x4), (.int (x4 + (i3 1))), (.int x1), (.int x2)] SI12 SJ12 (fun r15 SI16 SJ16 => ((i3 1) = 0 → (¬ (i3 1) = 0 → GoI E mt_278 63 [some (.ref 81), some (.int x1), some (.int x2), some (.int x3), some (.int (x4 + (i3 1))), none, none, none, none] SI16 SJ16 Q) ∧ ((i3 1) = 0 → ((i3 1) = 0 → GoI E mt_278 63 [some (.ref 81), some (.int x1), some (.int x2), some (.int x3), some (.int (x4 + (i3 1))), none, none, none, none] SI16 SJ16 Q) ∧ (¬ (i3 1) = 0 → (r15 ≥ (i6 0) → GoI E mt_278 63 [some (.ref 81), some (.int x1), some (.int x2), some (.int x3), some (.int (x4 + (i3 1))), none, none, none, none] SI16 SJ16 Q) ∧ (¬ r15 ≥ (i6 0) → GoI E mt_278 63 [some (.ref 81), some (.int x1), some (.int x2), some (.int (x3 - (i3 1))), some (.int (x4 + (i3 1))), none, none, none, none] SI16 SJ16 Q)))) ∧ (¬ (i3 1) = 0 → (¬ (i3 1) = 0 → (¬ (i3 1) = 0 → GoI E mt_278 63 [some (.ref 81), some (.int x1), some (.int x2), some (.int x3), some (.int (x4 + (i3 1))), none, none, none, none] SI16 SJ16 Q) ∧ ((i3 1) = 0 → ((i3 1) = 0 → GoI E mt_278 63 [some (.ref 81), some (.int x1), some (.int x2), some (.int x3), some (.int (x4 + (i3 1))), none, none, none, none] SI16 SJ16 Q) ∧ (¬ (i3 1) = 0 → (r15 ≥ (i6 0) → GoI E mt_278 63 [some (.ref 81), some (.int x1), some (.int x2), some (.int x3), some (.int (x4 + (i3 1))), none, none, none, none] SI16 SJ16 Q) ∧ (¬ r15 ≥ (i6 0) → GoI E mt_278 63 [some (.ref 81), some (.int x1), some (.int x2), some (.int (x3 - (i3 1))), some (.int (x4 + (i3 1))), none, none, none, none] SI16 SJ16 Q)))) ∧ ((i3 1) = 0 → (r15 ≤ (i6 0) → (¬ (i3 1) = 0 → GoI E mt_278 63 [some (.ref 81), some (.int x1), some (.int x2), some (.int x3), some (.int (x4 + (i3 1))), none, none, none, none] SI16 SJ16 Q) ∧ ((i3 1) = 0 → ((i3 1) = 0 → GoI E mt_278 63 [some (.ref 81), some (.int x1), some (.int x2), some (.int x3), some (.int (x4 + (i3 1))), none, none, none, none] SI16 SJ16 Q) ∧ (¬ (i3 1) = 0 → (r15 ≥ (i6 0) → GoI E mt_278 63 [some (.ref 81), some (.int x1), some (.int x2), some (.int x3), some (.int (x4 + (i3 1))), none, none, none, none] SI16 SJ16 Q) ∧ (¬ r15 ≥ (i6 0) → GoI E mt_278 63 [some (.ref 81), some (.int x1), some (.int x2), some (.int (x3 - (i3 1))), some (.int (x4 + (i3 1))), none, none, none, none] SI16 SJ16 Q)))) ∧ (¬ r15 ≤ (i6 0) → (¬ (i3 1) = 0 → GoI E mt_278 63 [some (.ref 81), some (.int x1), some (.int x2), some (.int (x3 + (i3 1))), some (.int (x4 + (i3 1))), none, none, none, none] SI16 SJ16 Q) ∧ ((i3 1) = 0 → ((i3 1) = 0 → GoI E mt_278 63 [some (.ref 81), some (.int x1), some (.int x2), some (.int (x3 + (i3 1))), some (.int (x4 + (i3 1))), none, none, none, none] SI16 SJ16 Q) ∧ (¬ (i3 1) = 0 → (r15 ≥ (i6 0) → GoI E mt_278 63 [some (.ref 81), some (.int x1), some (.int x2), some (.int (x3 + (i3 1))), some (.int (x4 + (i3 1))), none, none, none, none] SI16 SJ16 Q) ∧ (¬ r15 ≥ (i6 0) → GoI E mt_278 63 [some (.ref 81), some (.int x1), some (.int x2), some (.int ((x3 + (i3 1)) - (i3 1))), some (.int (x4 + (i3 1))), none, none, none, none] SI16 SJ16 Q)))))))))))))) : GoI E mt_278 63 [some (.ref 81), some (.int x1), some (.int x2), some (.int x3), some (.int x4), none, none, none, none] SI SJ Q := by
  refine gj_goq gj_clT ok_278 [11, 25, 32, 37, 47, 63, 69, 78, 97, 120] ?_
  show gj_Do E om0 (gj_mt 162) [(.ref 81)] SI SJ _
  refine gj_Do.mono h (fun v_ SI2 SJ2 h_ => ?_)
  obtain ⟨r1, rfl, q1⟩ := h_
  show gj_Goes E om0 mt_278 69 [some (.ref 81), some (.int x1), some (.int x2), some (.int x3), some (.int x4), none, none, none, none] [(.int r1), (.int x4)] SI2 SJ2 (QI Q)
  refine gj_goq gj_clT ok_278 [11, 25, 32, 37, 47, 63, 69, 78, 97, 120] ?_
  show (r1 ≤ x4 → gj_Goes E om0 mt_278 170 [some (.ref 81), some (.int x1), some (.int x2), some (.int x3), some (.int x4), none, none, none, none] [] SI2 SJ2 (QI Q)) ∧ (¬ r1 ≤ x4 → gj_Do E om0 (gj_mt 164) [(.ref 81), (.int x4)] SI2 SJ2 _)
  refine ⟨fun c2 => ?_, fun c2 => ?_⟩
  · refine gj_goq gj_clT ok_278 [11, 25, 32, 37, 47, 63, 69, 78, 97, 120] ?_
    show (¬ x3 = 0 → gj_Goes E om0 mt_278 178 [some (.ref 81), some (.int x1), some (.int x2), some (.int x3), some (.int x4), none, none, none, none] [] SI2 SJ2 (QI Q)) ∧ (x3 = 0 → gj_Goes E om0 mt_278 179 [some (.ref 81), some (.int x1), some (.int x2), some (.int x3), some (.int x4), none, none, none, none] [(.int (i3 0))] SI2 SJ2 (QI Q))
    refine ⟨fun c3 => ?_, fun c3 => ?_⟩
    · refine gj_goq gj_clT ok_278 [11, 25, 32, 37, 47, 63, 69, 78, 97, 120] ?_
      show QI Q (some (.int (i3 1))) SI2 SJ2
      exact ⟨_, rfl, ((q1.1 c2).1 c3)⟩
    · refine gj_goq gj_clT ok_278 [11, 25, 32, 37, 47, 63, 69, 78, 97, 120] ?_
      show QI Q (some (.int (i3 0))) SI2 SJ2
      exact ⟨_, rfl, ((q1.1 c2).2 c3)⟩
  · refine gj_Do.mono (q1.2 c2) (fun v_ SI4 SJ4 h_ => ?_)
    obtain ⟨r3, rfl, q4⟩ := h_
    show gj_Goes E om0 mt_278 78 [some (.ref 81), some (.int x1), some (.int x2), some (.int x3), some (.int x4), none, none, none, none] [(.int r3)] SI4 SJ4 (QI Q)
    refine gj_goq gj_clT ok_278 [11, 25, 32, 37, 47, 63, 69, 78, 97, 120] ?_
    show (x2 < r3 → gj_Goes E om0 mt_278 86 [some (.ref 81), some (.int x1), some (.int x2), some (.int x3), some (.int x4), none, none, none, none] [] SI4 SJ4 (QI Q)) ∧ (¬ x2 < r3 → gj_Goes E om0 mt_278 87 [some (.ref 81), some (.int x1), some (.int x2), some (.int x3), some (.int x4), none, none, none, none] [(.int (i3 1))] SI4 SJ4 (QI Q))
    refine ⟨fun c5 => ?_, fun c5 => ?_⟩
    · refine gj_goq gj_clT ok_278 [11, 25, 32, 37, 47, 63, 69, 78, 97, 120] ?_
      show gj_Do E om0 (gj_mt 164) [(.ref 81), (.int (x4 + (i3 1)))] SI4 SJ4 _
      refine gj_Do.mono (q4.1 c5) (fun v_ SI6 SJ6 h_ => ?_)
      obtain ⟨r5, rfl, q6⟩ := h_
      show gj_Goes E om0 mt_278 97 [some (.ref 81), some (.int x1), some (.int x2), some (.int x3), some (.int x4), some (.int (i3 0)), none, none, none] [(.int r5)] SI6 SJ6 (QI Q)
      refine gj_goq gj_clT ok_278 [11, 25, 32, 37, 47, 63, 69, 78, 97, 120] ?_
      show (x2 < r5 → gj_Goes E om0 mt_278 105 [some (.ref 81), some (.int x1), some (.int x2), some (.int x3), some (.int x4), some (.int (i3 0)), none, none, none] [] SI6 SJ6 (QI Q)) ∧ (¬ x2 < r5 → gj_Goes E om0 mt_278 106 [some (.ref 81), some (.int x1), some (.int x2), some (.int x3), some (.int x4), some (.int (i3 0)), none, none, none] [(.int (i3 1))] SI6 SJ6 (QI Q))
      refine ⟨fun c7 => ?_, fun c7 => ?_⟩
      · refine gj_goq gj_clT ok_278 [11, 25, 32, 37, 47, 63, 69, 78, 97, 120] ?_
        show gj_Do E om0 (gj_mt 170) [(.ref 81), (.int x4), (.int (x4 + (i3 1))), (.int x1), (.int x2)] SI6 SJ6 _
        refine gj_Do.mono (q6.1 c7) (fun v_ SI8 SJ8 h_ => ?_)
        obtain ⟨r7, rfl, q8⟩ := h_
        show gj_Goes E om0 mt_278 120 [some (.ref 81), some (.int x1), some (.int x2), some (.int x3), some (.int x4), some (.int (i3 0)), some (.int (i3 0)), none, none] [(.long r7)] SI8 SJ8 (QI Q)
        refine gj_goq gj_clT ok_278 [11, 25, 32, 37, 47, 63, 69, 78, 97, 120] ?_
        show ((i3 0) = 0 → gj_Goes E om0 mt_278 143 [some (.ref 81), some (.int x1), some (.int x2), some (.int x3), some (.int x4), some (.int (i3 0)), some (.int (i3 0)), some (.long r7), none] [] SI8 SJ8 (QI Q)) ∧ (¬ (i3 0) = 0 → (¬ (i3 0) = 0 → gj_Goes E om0 mt_278 143 [some (.ref 81), some (.int x1), some (.int x2), some (.int x3), some (.int x4), some (.int (i3 0)), some (.int (i3 0)), some (.long r7), none] [] SI8 SJ8 (QI Q)) ∧ ((i3 0) = 0 → ((lg_cmp r7 (i6 0)) ≤ 0 → gj_Goes E om0 mt_278 143 [some (.ref 81), some (.int x1), some (.int x2), some (.int x3), some (.int x4), some (.int (i3 0)), some (.int (i3 0)), some (.long r7), none] [] SI8 SJ8 (QI Q)) ∧ (¬ (lg_cmp r7 (i6 0)) ≤ 0 → (¬ (i3 0) = 0 → gj_Goes E om0 mt_278 164 [some (.ref 81), some (.int x1), some (.int x2), some (.int (x3 + (i3 1))), some (.int x4), some (.int (i3 0)), some (.int (i3 0)), some (.long r7), none] [] SI8 SJ8 (QI Q)) ∧ ((i3 0) = 0 → ((i3 0) = 0 → gj_Goes E om0 mt_278 164 [some (.ref 81), some (.int x1), some (.int x2), some (.int (x3 + (i3 1))), some (.int x4), some (.int (i3 0)), some (.int (i3 0)), some (.long r7), none] [] SI8 SJ8 (QI Q)) ∧ (¬ (i3 0) = 0 → (0 ≤ (lg_cmp r7 (i6 0)) → gj_Goes E om0 mt_278 164 [some (.ref 81), some (.int x1), some (.int x2), some (.int (x3 + (i3 1))), some (.int x4), some (.int (i3 0)), some (.int (i3 0)), some (.long r7), none] [] SI8 SJ8 (QI Q)) ∧ (¬ 0 ≤ (lg_cmp r7 (i6 0)) → gj_Goes E om0 mt_278 63 [some (.ref 81), some (.int x1), some (.int x2), some (.int ((x3 + (i3 1)) - (i3 1))), some (.int (x4 + (i3 1))), some (.int (i3 0)), some (.int (i3 0)), some (.long r7), none] [] SI8 SJ8 (QI Q)))))))
        refine ⟨fun c9 => ?_, fun c9 => ?_⟩
        · refine gj_goq gj_clT ok_278 [11, 25, 32, 37, 47, 63, 69, 78, 97, 120] ?_
          show (¬ (i3 0) = 0 → gj_Goes E om0 mt_278 164 [some (.ref 81), some (.int x1), some (.int x2), some (.int x3), some (.int x4), some (.int (i3 0)), some (.int (i3 0)), some (.long r7), none] [] SI8 SJ8 (QI Q)) ∧ ((i3 0) = 0 → ((i3 0) = 0 → gj_Goes E om0 mt_278 164 [some (.ref 81), some (.int x1), some (.int x2), some (.int x3), some (.int x4), some (.int (i3 0)), some (.int (i3 0)), some (.long r7), none] [] SI8 SJ8 (QI Q)) ∧ (¬ (i3 0) = 0 → (0 ≤ (lg_cmp r7 (i6 0)) → gj_Goes E om0 mt_278 164 [some (.ref 81), some (.int x1), some (.int x2), some (.int x3), some (.int x4), some (.int (i3 0)), some (.int (i3 0)), some (.long r7), none] [] SI8 SJ8 (QI Q)) ∧ (¬ 0 ≤ (lg_cmp r7 (i6 0)) → gj_Goes E om0 mt_278 63 [some (.ref 81), some (.int x1), some (.int x2), some (.int (x3 - (i3 1))), some (.int (x4 + (i3 1))), some (.int (i3 0)), some (.int (i3 0)), some (.long r7), none] [] SI8 SJ8 (QI Q))))
          refine ⟨fun c10 => ?_, fun c10 => ?_⟩
          · refine gj_goq gj_clT ok_278 [11, 25, 32, 37, 47, 63, 69, 78, 97, 120] ?_
            show gj_Goes E om0 mt_278 63 [some (.ref 81), some (.int x1), some (.int x2), some (.int x3), some (.int (x4 + (i3 1))), some (.int (i3 0)), some (.int (i3 0)), some (.long r7), none] [] SI8 SJ8 (QI Q)
            exact gj_fh ((q8.1 c9).1 c10) (And.intro (Or.inr rfl) (And.intro (Or.inr rfl) (And.intro (Or.inr rfl) (And.intro (Or.inr rfl) (And.intro (Or.inr rfl) (And.intro (Or.inl rfl) (And.intro (Or.inl rfl) (And.intro (Or.inl rfl) (And.intro (Or.inl rfl) trivial)))))))))
          · refine ⟨fun c11 => ?_, fun c11 => ?_⟩
            · refine gj_goq gj_clT ok_278 [11, 25, 32, 37, 47, 63, 69, 78, 97, 120] ?_
              show gj_Goes E om0 mt_278 63 [some (.ref 81), some (.int x1), some (.int x2), some (.int x3), some (.int (x4 + (i3 1))), some (.int (i3 0)), some (.int (i3 0)), some (.long r7), none] [] SI8 SJ8 (QI Q)
              exact gj_fh (((q8.1 c9).2 c10).1 c11) (And.intro (Or.inr rfl) (And.intro (Or.inr rfl) (And.intro (Or.inr rfl) (And.intro (Or.inr rfl) (And.intro (Or.inr rfl) (And.intro (Or.inl rfl) (And.intro (Or.inl rfl) (And.intro (Or.inl rfl) (And.intro (Or.inl rfl) trivial)))))))))
            · refine ⟨fun c12 => ?_, fun c12 => ?_⟩
              · refine gj_goq gj_clT ok_278 [11, 25, 32, 37, 47, 63, 69, 78, 97, 120] ?_
                show gj_Goes E om0 mt_278 63 [some (.ref 81), some (.int x1), some (.int x2), some (.int x3), some (.int (x4 + (i3 1))), some (.int (i3 0)), some (.int (i3 0)), some (.long r7), none] [] SI8 SJ8 (QI Q)
                exact gj_fh ((((q8.1 c9).2 c10).2 c11).1 (lgc_ge.mp c12)) (And.intro (Or.inr rfl) (And.intro (Or.inr rfl) (And.intro (Or.inr rfl) (And.intro (Or.inr rfl) (And.intro (Or.inr rfl) (And.intro (Or.inl rfl) (And.intro (Or.inl rfl) (And.intro (Or.inl rfl) (And.intro (Or.inl rfl) trivial)))))))))
              · exact gj_fh ((((q8.1 c9).2 c10).2 c11).2 (fun z_ => c12 (lgc_ge.mpr z_))) (And.intro (Or.inr rfl) (And.intro (Or.inr rfl) (And.intro (Or.inr rfl) (And.intro (Or.inr rfl) (And.intro (Or.inr rfl) (And.intro (Or.inl rfl) (And.intro (Or.inl rfl) (And.intro (Or.inl rfl) (And.intro (Or.inl rfl) trivial)))))))))
        · refine ⟨fun c13 => ?_, fun c13 => ?_⟩
          · refine gj_goq gj_clT ok_278 [11, 25, 32, 37, 47, 63, 69, 78, 97, 120] ?_
            show (¬ (i3 0) = 0 → gj_Goes E om0 mt_278 164 [some (.ref 81), some (.int x1), some (.int x2), some (.int x3), some (.int x4), some (.int (i3 0)), some (.int (i3 0)), some (.long r7), none] [] SI8 SJ8 (QI Q)) ∧ ((i3 0) = 0 → ((i3 0) = 0 → gj_Goes E om0 mt_278 164 [some (.ref 81), some (.int x1), some (.int x2), some (.int x3), some (.int x4), some (.int (i3 0)), some (.int (i3 0)), some (.long r7), none] [] SI8 SJ8 (QI Q)) ∧ (¬ (i3 0) = 0 → (0 ≤ (lg_cmp r7 (i6 0)) → gj_Goes E om0 mt_278 164 [some (.ref 81), some (.int x1), some (.int x2), some (.int x3), some (.int x4), some (.int (i3 0)), some (.int (i3 0)), some (.long r7), none] [] SI8 SJ8 (QI Q)) ∧ (¬ 0 ≤ (lg_cmp r7 (i6 0)) → gj_Goes E om0 mt_278 63 [some (.ref 81), some (.int x1), some (.int x2), some (.int (x3 - (i3 1))), some (.int (x4 + (i3 1))), some (.int (i3 0)), some (.int (i3 0)), some (.long r7), none] [] SI8 SJ8 (QI Q))))
            refine ⟨fun c14 => ?_, fun c14 => ?_⟩
            · refine gj_goq gj_clT ok_278 [11, 25, 32, 37, 47, 63, 69, 78, 97, 120] ?_
              show gj_Goes E om0 mt_278 63 [some (.ref 81), some (.int x1), some (.int x2), some (.int x3), some (.int (x4 + (i3 1))), some (.int (i3 0)), some (.int (i3 0)), some (.long r7), none] [] SI8 SJ8 (QI Q)
              exact gj_fh (((q8.2 c9).1 c13).1 c14) (And.intro (Or.inr rfl) (And.intro (Or.inr rfl) (And.intro (Or.inr rfl) (And.intro (Or.inr rfl) (And.intro (Or.inr rfl) (And.intro (Or.inl rfl) (And.intro (Or.inl rfl) (And.intro (Or.inl rfl) (And.intro (Or.inl rfl) trivial)))))))))
            · refine ⟨fun c15 => ?_, fun c15 => ?_⟩
              · refine gj_goq gj_clT ok_278 [11, 25, 32, 37, 47, 63, 69, 78, 97, 120] ?_
                show gj_Goes E om0 mt_278 63 [some (.ref 81), some (.int x1), some (.int x2), some (.int x3), some (.int (x4 + (i3 1))), some (.int (i3 0)), some (.int (i3 0)), some (.long r7), none] [] SI8 SJ8 (QI Q)
                exact gj_fh ((((q8.2 c9).1 c13).2 c14).1 c15) (And.intro (Or.inr rfl) (And.intro (Or.inr rfl) (And.intro (Or.inr rfl) (And.intro (Or.inr rfl) (And.intro (Or.inr rfl) (And.intro (Or.inl rfl) (And.intro (Or.inl rfl) (And.intro (Or.inl rfl) (And.intro (Or.inl rfl) trivial)))))))))
              · refine ⟨fun c16 => ?_, fun c16 => ?_⟩
                · refine gj_goq gj_clT ok_278 [11, 25, 32, 37, 47, 63, 69, 78, 97, 120] ?_
                  show gj_Goes E om0 mt_278 63 [some (.ref 81), some (.int x1), some (.int x2), some (.int x3), some (.int (x4 + (i3 1))), some (.int (i3 0)), some (.int (i3 0)), some (.long r7), none] [] SI8 SJ8 (QI Q)
                  exact gj_fh (((((q8.2 c9).1 c13).2 c14).2 c15).1 (lgc_ge.mp c16)) (And.intro (Or.inr rfl) (And.intro (Or.inr rfl) (And.intro (Or.inr rfl) (And.intro (Or.inr rfl) (And.intro (Or.inr rfl) (And.intro (Or.inl rfl) (And.intro (Or.inl rfl) (And.intro (Or.inl rfl) (And.intro (Or.inl rfl) trivial)))))))))
                · exact gj_fh (((((q8.2 c9).1 c13).2 c14).2 c15).2 (fun z_ => c16 (lgc_ge.mpr z_))) (And.intro (Or.inr rfl) (And.intro (Or.inr rfl) (And.intro (Or.inr rfl) (And.intro (Or.inr rfl) (And.intro (Or.inr rfl) (And.intro (Or.inl rfl) (And.intro (Or.inl rfl) (And.intro (Or.inl rfl) (And.intro (Or.inl rfl) trivial)))))))))
          · refine ⟨fun c17 => ?_, fun c17 => ?_⟩
            · refine gj_goq gj_clT ok_278 [11, 25, 32, 37, 47, 63, 69, 78, 97, 120] ?_
              show (¬ (i3 0) = 0 → gj_Goes E om0 mt_278 164 [some (.ref 81), some (.int x1), some (.int x2), some (.int x3), some (.int x4), some (.int (i3 0)), some (.int (i3 0)), some (.long r7), none] [] SI8 SJ8 (QI Q)) ∧ ((i3 0) = 0 → ((i3 0) = 0 → gj_Goes E om0 mt_278 164 [some (.ref 81), some (.int x1), some (.int x2), some (.int x3), some (.int x4), some (.int (i3 0)), some (.int (i3 0)), some (.long r7), none] [] SI8 SJ8 (QI Q)) ∧ (¬ (i3 0) = 0 → (0 ≤ (lg_cmp r7 (i6 0)) → gj_Goes E om0 mt_278 164 [some (.ref 81), some (.int x1), some (.int x2), some (.int x3), some (.int x4), some (.int (i3 0)), some (.int (i3 0)), some (.long r7), none] [] SI8 SJ8 (QI Q)) ∧ (¬ 0 ≤ (lg_cmp r7 (i6 0)) → gj_Goes E om0 mt_278 63 [some (.ref 81), some (.int x1), some (.int x2), some (.int (x3 - (i3 1))), some (.int (x4 + (i3 1))), some (.int (i3 0)), some (.int (i3 0)), some (.long r7), none] [] SI8 SJ8 (QI Q))))
              refine ⟨fun c18 => ?_, fun c18 => ?_⟩
              · refine gj_goq gj_clT ok_278 [11, 25, 32, 37, 47, 63, 69, 78, 97, 120] ?_
                show gj_Goes E om0 mt_278 63 [some (.ref 81), some (.int x1), some (.int x2), some (.int x3), some (.int (x4 + (i3 1))), some (.int (i3 0)), some (.int (i3 0)), some (.long r7), none] [] SI8 SJ8 (QI Q)
                exact gj_fh ((((q8.2 c9).2 c13).1 (lgc_le.mp c17)).1 c18) (And.intro (Or.inr rfl) (And.intro (Or.inr rfl) (And.intro (Or.inr rfl) (And.intro (Or.inr rfl) (And.intro (Or.inr rfl) (And.intro (Or.inl rfl) (And.intro (Or.inl rfl) (And.intro (Or.inl rfl) (And.intro (Or.inl rfl) trivial)))))))))
              · refine ⟨fun c19 => ?_, fun c19 => ?_⟩
                · refine gj_goq gj_clT ok_278 [11, 25, 32, 37, 47, 63, 69, 78, 97, 120] ?_
                  show gj_Goes E om0 mt_278 63 [some (.ref 81), some (.int x1), some (.int x2), some (.int x3), some (.int (x4 + (i3 1))), some (.int (i3 0)), some (.int (i3 0)), some (.long r7), none] [] SI8 SJ8 (QI Q)
                  exact gj_fh (((((q8.2 c9).2 c13).1 (lgc_le.mp c17)).2 c18).1 c19) (And.intro (Or.inr rfl) (And.intro (Or.inr rfl) (And.intro (Or.inr rfl) (And.intro (Or.inr rfl) (And.intro (Or.inr rfl) (And.intro (Or.inl rfl) (And.intro (Or.inl rfl) (And.intro (Or.inl rfl) (And.intro (Or.inl rfl) trivial)))))))))
                · refine ⟨fun c20 => ?_, fun c20 => ?_⟩
                  · refine gj_goq gj_clT ok_278 [11, 25, 32, 37, 47, 63, 69, 78, 97, 120] ?_
                    show gj_Goes E om0 mt_278 63 [some (.ref 81), some (.int x1), some (.int x2), some (.int x3), some (.int (x4 + (i3 1))), some (.int (i3 0)), some (.int (i3 0)), some (.long r7), none] [] SI8 SJ8 (QI Q)
                    exact gj_fh ((((((q8.2 c9).2 c13).1 (lgc_le.mp c17)).2 c18).2 c19).1 (lgc_ge.mp c20)) (And.intro (Or.inr rfl) (And.intro (Or.inr rfl) (And.intro (Or.inr rfl) (And.intro (Or.inr rfl) (And.intro (Or.inr rfl) (And.intro (Or.inl rfl) (And.intro (Or.inl rfl) (And.intro (Or.inl rfl) (And.intro (Or.inl rfl) trivial)))))))))
                  · exact gj_fh ((((((q8.2 c9).2 c13).1 (lgc_le.mp c17)).2 c18).2 c19).2 (fun z_ => c20 (lgc_ge.mpr z_))) (And.intro (Or.inr rfl) (And.intro (Or.inr rfl) (And.intro (Or.inr rfl) (And.intro (Or.inr rfl) (And.intro (Or.inr rfl) (And.intro (Or.inl rfl) (And.intro (Or.inl rfl) (And.intro (Or.inl rfl) (And.intro (Or.inl rfl) trivial)))))))))
            · refine ⟨fun c21 => ?_, fun c21 => ?_⟩
              · refine gj_goq gj_clT ok_278 [11, 25, 32, 37, 47, 63, 69, 78, 97, 120] ?_
                show gj_Goes E om0 mt_278 63 [some (.ref 81), some (.int x1), some (.int x2), some (.int (x3 + (i3 1))), some (.int (x4 + (i3 1))), some (.int (i3 0)), some (.int (i3 0)), some (.long r7), none] [] SI8 SJ8 (QI Q)
                exact gj_fh ((((q8.2 c9).2 c13).2 (fun z_ => c17 (lgc_le.mpr z_))).1 c21) (And.intro (Or.inr rfl) (And.intro (Or.inr rfl) (And.intro (Or.inr rfl) (And.intro (Or.inr rfl) (And.intro (Or.inr rfl) (And.intro (Or.inl rfl) (And.intro (Or.inl rfl) (And.intro (Or.inl rfl) (And.intro (Or.inl rfl) trivial)))))))))
              · refine ⟨fun c22 => ?_, fun c22 => ?_⟩
                · refine gj_goq gj_clT ok_278 [11, 25, 32, 37, 47, 63, 69, 78, 97, 120] ?_
                  show gj_Goes E om0 mt_278 63 [some (.ref 81), some (.int x1), some (.int x2), some (.int (x3 + (i3 1))), some (.int (x4 + (i3 1))), some (.int (i3 0)), some (.int (i3 0)), some (.long r7), none] [] SI8 SJ8 (QI Q)
                  exact gj_fh (((((q8.2 c9).2 c13).2 (fun z_ => c17 (lgc_le.mpr z_))).2 c21).1 c22) (And.intro (Or.inr rfl) (And.intro (Or.inr rfl) (And.intro (Or.inr rfl) (And.intro (Or.inr rfl) (And.intro (Or.inr rfl) (And.intro (Or.inl rfl) (And.intro (Or.inl rfl) (And.intro (Or.inl rfl) (And.intro (Or.inl rfl) trivial)))))))))
                · refine ⟨fun c23 => ?_, fun c23 => ?_⟩
                  · refine gj_goq gj_clT ok_278 [11, 25, 32, 37, 47, 63, 69, 78, 97, 120] ?_
                    show gj_Goes E om0 mt_278 63 [some (.ref 81), some (.int x1), some (.int x2), some (.int (x3 + (i3 1))), some (.int (x4 + (i3 1))), some (.int (i3 0)), some (.int (i3 0)), some (.long r7), none] [] SI8 SJ8 (QI Q)
                    exact gj_fh ((((((q8.2 c9).2 c13).2 (fun z_ => c17 (lgc_le.mpr z_))).2 c21).2 c22).1 (lgc_ge.mp c23)) (And.intro (Or.inr rfl) (And.intro (Or.inr rfl) (And.intro (Or.inr rfl) (And.intro (Or.inr rfl) (And.intro (Or.inr rfl) (And.intro (Or.inl rfl) (And.intro (Or.inl rfl) (And.intro (Or.inl rfl) (And.intro (Or.inl rfl) trivial)))))))))
                  · exact gj_fh ((((((q8.2 c9).2 c13).2 (fun z_ => c17 (lgc_le.mpr z_))).2 c21).2 c22).2 (fun z_ => c23 (lgc_ge.mpr z_))) (And.intro (Or.inr rfl) (And.intro (Or.inr rfl) (And.intro (Or.inr rfl) (And.intro (Or.inr rfl) (And.intro (Or.inr rfl) (And.intro (Or.inl rfl) (And.intro (Or.inl rfl) (And.intro (Or.inl rfl) (And.intro (Or.inl rfl) trivial)))))))))
      · refine gj_goq gj_clT ok_278 [11, 25, 32, 37, 47, 63, 69, 78, 97, 120] ?_
        show gj_Do E om0 (gj_mt 170) [(.ref 81), (.int x4), (.int (x4 + (i3 1))), (.int x1), (.int x2)] SI6 SJ6 _
        refine gj_Do.mono (q6.2 c7) (fun v_ SI10 SJ10 h_ => ?_)
        obtain ⟨r9, rfl, q24⟩ := h_
        show gj_Goes E om0 mt_278 120 [some (.ref 81), some (.int x1), some (.int x2), some (.int x3), some (.int x4), some (.int (i3 0)), some (.int (i3 1)), none, none] [(.long r9)] SI10 SJ10 (QI Q)
        refine gj_goq gj_clT ok_278 [11, 25, 32, 37, 47, 63, 69, 78, 97, 120] ?_
        show ((i3 0) = 0 → gj_Goes E om0 mt_278 143 [some (.ref 81), some (.int x1), some (.int x2), some (.int x3), some (.int x4), some (.int (i3 0)), some (.int (i3 1)), some (.long r9), none] [] SI10 SJ10 (QI Q)) ∧ (¬ (i3 0) = 0 → (¬ (i3 1) = 0 → gj_Goes E om0 mt_278 143 [some (.ref 81), some (.int x1), some (.int x2), some (.int x3), some (.int x4), some (.int (i3 0)), some (.int (i3 1)), some (.long r9), none] [] SI10 SJ10 (QI Q)) ∧ ((i3 1) = 0 → ((lg_cmp r9 (i6 0)) ≤ 0 → gj_Goes E om0 mt_278 143 [some (.ref 81), some (.int x1), some (.int x2), some (.int x3), some (.int x4), some (.int (i3 0)), some (.int (i3 1)), some (.long r9), none] [] SI10 SJ10 (QI Q)) ∧ (¬ (lg_cmp r9 (i6 0)) ≤ 0 → (¬ (i3 0) = 0 → gj_Goes E om0 mt_278 164 [some (.ref 81), some (.int x1), some (.int x2), some (.int (x3 + (i3 1))), some (.int x4), some (.int (i3 0)), some (.int (i3 1)), some (.long r9), none] [] SI10 SJ10 (QI Q)) ∧ ((i3 0) = 0 → ((i3 1) = 0 → gj_Goes E om0 mt_278 164 [some (.ref 81), some (.int x1), some (.int x2), some (.int (x3 + (i3 1))), some (.int x4), some (.int (i3 0)), some (.int (i3 1)), some (.long r9), none] [] SI10 SJ10 (QI Q)) ∧ (¬ (i3 1) = 0 → (0 ≤ (lg_cmp r9 (i6 0)) → gj_Goes E om0 mt_278 164 [some (.ref 81), some (.int x1), some (.int x2), some (.int (x3 + (i3 1))), some (.int x4), some (.int (i3 0)), some (.int (i3 1)), some (.long r9), none] [] SI10 SJ10 (QI Q)) ∧ (¬ 0 ≤ (lg_cmp r9 (i6 0)) → gj_Goes E om0 mt_278 63 [some (.ref 81), some (.int x1), some (.int x2), some (.int ((x3 + (i3 1)) - (i3 1))), some (.int (x4 + (i3 1))), some (.int (i3 0)), some (.int (i3 1)), some (.long r9), none] [] SI10 SJ10 (QI Q)))))))
        refine ⟨fun c25 => ?_, fun c25 => ?_⟩
        · refine gj_goq gj_clT ok_278 [11, 25, 32, 37, 47, 63, 69, 78, 97, 120] ?_
          show (¬ (i3 0) = 0 → gj_Goes E om0 mt_278 164 [some (.ref 81), some (.int x1), some (.int x2), some (.int x3), some (.int x4), some (.int (i3 0)), some (.int (i3 1)), some (.long r9), none] [] SI10 SJ10 (QI Q)) ∧ ((i3 0) = 0 → ((i3 1) = 0 → gj_Goes E om0 mt_278 164 [some (.ref 81), some (.int x1), some (.int x2), some (.int x3), some (.int x4), some (.int (i3 0)), some (.int (i3 1)), some (.long r9), none] [] SI10 SJ10 (QI Q)) ∧ (¬ (i3 1) = 0 → (0 ≤ (lg_cmp r9 (i6 0)) → gj_Goes E om0 mt_278 164 [some (.ref 81), some (.int x1), some (.int x2), some (.int x3), some (.int x4), some (.int (i3 0)), some (.int (i3 1)), some (.long r9), none] [] SI10 SJ10 (QI Q)) ∧ (¬ 0 ≤ (lg_cmp r9 (i6 0)) → gj_Goes E om0 mt_278 63 [some (.ref 81), some (.int x1), some (.int x2), some (.int (x3 - (i3 1))), some (.int (x4 + (i3 1))), some (.int (i3 0)), some (.int (i3 1)), some (.long r9), none] [] SI10 SJ10 (QI Q))))
          refine ⟨fun c26 => ?_, fun c26 => ?_⟩
          · refine gj_goq gj_clT ok_278 [11, 25, 32, 37, 47, 63, 69, 78, 97, 120] ?_
            show gj_Goes E om0 mt_278 63 [some (.ref 81), some (.int x1), some (.int x2), some (.int x3), some (.int (x4 + (i3 1))), some (.int (i3 0)), some (.int (i3 1)), some (.long r9), none] [] SI10 SJ10 (QI Q)
            exact gj_fh ((q24.1 c25).1 c26) (And.intro (Or.inr rfl) (And.intro (Or.inr rfl) (And.intro (Or.inr rfl) (And.intro (Or.inr rfl) (And.intro (Or.inr rfl) (And.intro (Or.inl rfl) (And.intro (Or.inl rfl) (And.intro (Or.inl rfl) (And.intro (Or.inl rfl) trivial)))))))))
          · refine ⟨fun c27 => ?_, fun c27 => ?_⟩
            · refine gj_goq gj_clT ok_278 [11, 25, 32, 37, 47, 63, 69, 78, 97, 120] ?_
              show gj_Goes E om0 mt_278 63 [some (.ref 81), some (.int x1), some (.int x2), some (.int x3), some (.int (x4 + (i3 1))), some (.int (i3 0)), some (.int (i3 1)), some (.long r9), none] [] SI10 SJ10 (QI Q)
              exact gj_fh (((q24.1 c25).2 c26).1 c27) (And.intro (Or.inr rfl) (And.intro (Or.inr rfl) (And.intro (Or.inr rfl) (And.intro (Or.inr rfl) (And.intro (Or.inr rfl) (And.intro (Or.inl rfl) (And.intro (Or.inl rfl) (And.intro (Or.inl rfl) (And.intro (Or.inl rfl) trivial)))))))))
            · refine ⟨fun c28 => ?_, fun c28 => ?_⟩
              · refine gj_goq gj_clT ok_278 [11, 25, 32, 37, 47, 63, 69, 78, 97, 120] ?_
                show gj_Goes E om0 mt_278 63 [some (.ref 81), some (.int x1), some (.int x2), some (.int x3), some (.int (x4 + (i3 1))), some (.int (i3 0)), some (.int (i3 1)), some (.long r9), none] [] SI10 SJ10 (QI Q)
                exact gj_fh ((((q24.1 c25).2 c26).2 c27).1 (lgc_ge.mp c28)) (And.intro (Or.inr rfl) (And.intro (Or.inr rfl) (And.intro (Or.inr rfl) (And.intro (Or.inr rfl) (And.intro (Or.inr rfl) (And.intro (Or.inl rfl) (And.intro (Or.inl rfl) (And.intro (Or.inl rfl) (And.intro (Or.inl rfl) trivial)))))))))
              · exact gj_fh ((((q24.1 c25).2 c26).2 c27).2 (fun z_ => c28 (lgc_ge.mpr z_))) (And.intro (Or.inr rfl) (And.intro (Or.inr rfl) (And.intro (Or.inr rfl) (And.intro (Or.inr rfl) (And.intro (Or.inr rfl) (And.intro (Or.inl rfl) (And.intro (Or.inl rfl) (And.intro (Or.inl rfl) (And.intro (Or.inl rfl) trivial)))))))))
        · refine ⟨fun c29 => ?_, fun c29 => ?_⟩
          · refine gj_goq gj_clT ok_278 [11, 25, 32, 37, 47, 63, 69, 78, 97, 120] ?_
            show (¬ (i3 0) = 0 → gj_Goes E om0 mt_278 164 [some (.ref 81), some (.int x1), some (.int x2), some (.int x3), some (.int x4), some (.int (i3 0)), some (.int (i3 1)), some (.long r9), none] [] SI10 SJ10 (QI Q)) ∧ ((i3 0) = 0 → ((i3 1) = 0 → gj_Goes E om0 mt_278 164 [some (.ref 81), some (.int x1), some (.int x2), some (.int x3), some (.int x4), some (.int (i3 0)), some (.int (i3 1)), some (.long r9), none] [] SI10 SJ10 (QI Q)) ∧ (¬ (i3 1) = 0 → (0 ≤ (lg_cmp r9 (i6 0)) → gj_Goes E om0 mt_278 164 [some (.ref 81), some (.int x1), some (.int x2), some (.int x3), some (.int x4), some (.int (i3 0)), some (.int (i3 1)), some (.long r9), none] [] SI10 SJ10 (QI Q)) ∧ (¬ 0 ≤ (lg_cmp r9 (i6 0)) → gj_Goes E om0 mt_278 63 [some (.ref 81), some (.int x1), some (.int x2), some (.int (x3 - (i3 1))), some (.int (x4 + (i3 1))), some (.int (i3 0)), some (.int (i3 1)), some (.long r9), none] [] SI10 SJ10 (QI Q))))
            refine ⟨fun c30 => ?_, fun c30 => ?_⟩
            · refine gj_goq gj_clT ok_278 [11, 25, 32, 37, 47, 63, 69, 78, 97, 120] ?_
              show gj_Goes E om0 mt_278 63 [some (.ref 81), some (.int x1), some (.int x2), some (.int x3), some (.int (x4 + (i3 1))), some (.int (i3 0)), some (.int (i3 1)), some (.long r9), none] [] SI10 SJ10 (QI Q)
              exact gj_fh (((q24.2 c25).1 c29).1 c30) (And.intro (Or.inr rfl) (And.intro (Or.inr rfl) (And.intro (Or.inr rfl) (And.intro (Or.inr rfl) (And.intro (Or.inr rfl) (And.intro (Or.inl rfl) (And.intro (Or.inl rfl) (And.intro (Or.inl rfl) (And.intro (Or.inl rfl) trivial)))))))))
            · refine ⟨fun c31 => ?_, fun c31 => ?_⟩
              · refine gj_goq gj_clT ok_278 [11, 25, 32, 37, 47, 63, 69, 78, 97, 120] ?_
                show gj_Goes E om0 mt_278 63 [some (.ref 81), some (.int x1), some (.int x2), some (.int x3), some (.int (x4 + (i3 1))), some (.int (i3 0)), some (.int (i3 1)), some (.long r9), none] [] SI10 SJ10 (QI Q)
                exact gj_fh ((((q24.2 c25).1 c29).2 c30).1 c31) (And.intro (Or.inr rfl) (And.intro (Or.inr rfl) (And.intro (Or.inr rfl) (And.intro (Or.inr rfl) (And.intro (Or.inr rfl) (And.intro (Or.inl rfl) (And.intro (Or.inl rfl) (And.intro (Or.inl rfl) (And.intro (Or.inl rfl) trivial)))))))))
              · refine ⟨fun c32 => ?_, fun c32 => ?_⟩
                · refine gj_goq gj_clT ok_278 [11, 25, 32, 37, 47, 63, 69, 78, 97, 120] ?_
                  show gj_Goes E om0 mt_278 63 [some (.ref 81), some (.int x1), some (.int x2), some (.int x3), some (.int (x4 + (i3 1))), some (.int (i3 0)), some (.int (i3 1)), some (.long r9), none] [] SI10 SJ10 (QI Q)
                  exact gj_fh (((((q24.2 c25).1 c29).2 c30).2 c31).1 (lgc_ge.mp c32)) (And.intro (Or.inr rfl) (And.intro (Or.inr rfl) (And.intro (Or.inr rfl) (And.intro (Or.inr rfl) (And.intro (Or.inr rfl) (And.intro (Or.inl rfl) (And.intro (Or.inl rfl) (And.intro (Or.inl rfl) (And.intro (Or.inl rfl) trivial)))))))))
                · exact gj_fh (((((q24.2 c25).1 c29).2 c30).2 c31).2 (fun z_ => c32 (lgc_ge.mpr z_))) (And.intro (Or.inr rfl) (And.intro (Or.inr rfl) (And.intro (Or.inr rfl) (And.intro (Or.inr rfl) (And.intro (Or.inr rfl) (And.intro (Or.inl rfl) (And.intro (Or.inl rfl) (And.intro (Or.inl rfl) (And.intro (Or.inl rfl) trivial)))))))))
          · refine ⟨fun c33 => ?_, fun c33 => ?_⟩
            · refine gj_goq gj_clT ok_278 [11, 25, 32, 37, 47, 63, 69, 78, 97, 120] ?_
              show (¬ (i3 0) = 0 → gj_Goes E om0 mt_278 164 [some (.ref 81), some (.int x1), some (.int x2), some (.int x3), some (.int x4), some (.int (i3 0)), some (.int (i3 1)), some (.long r9), none] [] SI10 SJ10 (QI Q)) ∧ ((i3 0) = 0 → ((i3 1) = 0 → gj_Goes E om0 mt_278 164 [some (.ref 81), some (.int x1), some (.int x2), some (.int x3), some (.int x4), some (.int (i3 0)), some (.int (i3 1)), some (.long r9), none] [] SI10 SJ10 (QI Q)) ∧ (¬ (i3 1) = 0 → (0 ≤ (lg_cmp r9 (i6 0)) → gj_Goes E om0 mt_278 164 [some (.ref 81), some (.int x1), some (.int x2), some (.int x3), some (.int x4), some (.int (i3 0)), some (.int (i3 1)), some (.long r9), none] [] SI10 SJ10 (QI Q)) ∧ (¬ 0 ≤ (lg_cmp r9 (i6 0)) → gj_Goes E om0 mt_278 63 [some (.ref 81), some (.int x1), some (.int x2), some (.int (x3 - (i3 1))), some (.int (x4 + (i3 1))), some (.int (i3 0)), some (.int (i3 1)), some (.long r9), none] [] SI10 SJ10 (QI Q))))
              refine ⟨fun c34 => ?_, fun c34 => ?_⟩
              · refine gj_goq gj_clT ok_278 [11, 25, 32, 37, 47, 63, 69, 78, 97, 120] ?_
                show gj_Goes E om0 mt_278 63 [some (.ref 81), some (.int x1), some (.int x2), some (.int x3), some (.int (x4 + (i3 1))), some (.int (i3 0)), some (.int (i3 1)), some (.long r9), none] [] SI10 SJ10 (QI Q)
                exact gj_fh ((((q24.2 c25).2 c29).1 (lgc_le.mp c33)).1 c34) (And.intro (Or.inr rfl) (And.intro (Or.inr rfl) (And.intro (Or.inr rfl) (And.intro (Or.inr rfl) (And.intro (Or.inr rfl) (And.intro (Or.inl rfl) (And.intro (Or.inl rfl) (And.intro (Or.inl rfl) (And.intro (Or.inl rfl) trivial)))))))))
              · refine ⟨fun c35 => ?_, fun c35 => ?_⟩
                · refine gj_goq gj_clT ok_278 [11, 25, 32, 37, 47, 63, 69, 78, 97, 120] ?_
                  show gj_Goes E om0 mt_278 63 [some (.ref 81), some (.int x1), some (.int x2), some (.int x3), some (.int (x4 + (i3 1))), some (.int (i3 0)), some (.int (i3 1)), some (.long r9), none] [] SI10 SJ10 (QI Q)
                  exact gj_fh (((((q24.2 c25).2 c29).1 (lgc_le.mp c33)).2 c34).1 c35) (And.intro (Or.inr rfl) (And.intro (Or.inr rfl) (And.intro (Or.inr rfl) (And.intro (Or.inr rfl) (And.intro (Or.inr rfl) (And.intro (Or.inl rfl) (And.intro (Or.inl rfl) (And.intro (Or.inl rfl) (And.intro (Or.inl rfl) trivial)))))))))
                · refine ⟨fun c36 => ?_, fun c36 => ?_⟩
                  · refine gj_goq gj_clT ok_278 [11, 25, 32, 37, 47, 63, 69, 78, 97, 120] ?_
                    show gj_Goes E om0 mt_278 63 [some (.ref 81), some (.int x1), some (.int x2), some (.int x3), some (.int (x4 + (i3 1))), some (.int (i3 0)), some (.int (i3 1)), some (.long r9), none] [] SI10 SJ10 (QI Q)
                    exact gj_fh ((((((q24.2 c25).2 c29).1 (lgc_le.mp c33)).2 c34).2 c35).1 (lgc_ge.mp c36)) (And.intro (Or.inr rfl) (And.intro (Or.inr rfl) (And.intro (Or.inr rfl) (And.intro (Or.inr rfl) (And.intro (Or.inr rfl) (And.intro (Or.inl rfl) (And.intro (Or.inl rfl) (And.intro (Or.inl rfl) (And.intro (Or.inl rfl) trivial)))))))))
                  · exact gj_fh ((((((q24.2 c25).2 c29).1 (lgc_le.mp c33)).2 c34).2 c35).2 (fun z_ => c36 (lgc_ge.mpr z_))) (And.intro (Or.inr rfl) (And.intro (Or.inr rfl) (And.intro (Or.inr rfl) (And.intro (Or.inr rfl) (And.intro (Or.inr rfl) (And.intro (Or.inl rfl) (And.intro (Or.inl rfl) (And.intro (Or.inl rfl) (And.intro (Or.inl rfl) trivial)))))))))
            · refine ⟨fun c37 => ?_, fun c37 => ?_⟩
              · refine gj_goq gj_clT ok_278 [11, 25, 32, 37, 47, 63, 69, 78, 97, 120] ?_
                show gj_Goes E om0 mt_278 63 [some (.ref 81), some (.int x1), some (.int x2), some (.int (x3 + (i3 1))), some (.int (x4 + (i3 1))), some (.int (i3 0)), some (.int (i3 1)), some (.long r9), none] [] SI10 SJ10 (QI Q)
                exact gj_fh ((((q24.2 c25).2 c29).2 (fun z_ => c33 (lgc_le.mpr z_))).1 c37) (And.intro (Or.inr rfl) (And.intro (Or.inr rfl) (And.intro (Or.inr rfl) (And.intro (Or.inr rfl) (And.intro (Or.inr rfl) (And.intro (Or.inl rfl) (And.intro (Or.inl rfl) (And.intro (Or.inl rfl) (And.intro (Or.inl rfl) trivial)))))))))
              · refine ⟨fun c38 => ?_, fun c38 => ?_⟩
                · refine gj_goq gj_clT ok_278 [11, 25, 32, 37, 47, 63, 69, 78, 97, 120] ?_
                  show gj_Goes E om0 mt_278 63 [some (.ref 81), some (.int x1), some (.int x2), some (.int (x3 + (i3 1))), some (.int (x4 + (i3 1))), some (.int (i3 0)), some (.int (i3 1)), some (.long r9), none] [] SI10 SJ10 (QI Q)
                  exact gj_fh (((((q24.2 c25).2 c29).2 (fun z_ => c33 (lgc_le.mpr z_))).2 c37).1 c38) (And.intro (Or.inr rfl) (And.intro (Or.inr rfl) (And.intro (Or.inr rfl) (And.intro (Or.inr rfl) (And.intro (Or.inr rfl) (And.intro (Or.inl rfl) (And.intro (Or.inl rfl) (And.intro (Or.inl rfl) (And.intro (Or.inl rfl) trivial)))))))))
                · refine ⟨fun c39 => ?_, fun c39 => ?_⟩
                  · refine gj_goq gj_clT ok_278 [11, 25, 32, 37, 47, 63, 69, 78, 97, 120] ?_
                    show gj_Goes E om0 mt_278 63 [some (.ref 81), some (.int x1), some (.int x2), some (.int (x3 + (i3 1))), some (.int (x4 + (i3 1))), some (.int (i3 0)), some (.int (i3 1)), some (.long r9), none] [] SI10 SJ10 (QI Q)
                    exact gj_fh ((((((q24.2 c25).2 c29).2 (fun z_ => c33 (lgc_le.mpr z_))).2 c37).2 c38).1 (lgc_ge.mp c39)) (And.intro (Or.inr rfl) (And.intro (Or.inr rfl) (And.intro (Or.inr rfl) (And.intro (Or.inr rfl) (And.intro (Or.inr rfl) (And.intro (Or.inl rfl) (And.intro (Or.inl rfl) (And.intro (Or.inl rfl) (And.intro (Or.inl rfl) trivial)))))))))
                  · exact gj_fh ((((((q24.2 c25).2 c29).2 (fun z_ => c33 (lgc_le.mpr z_))).2 c37).2 c38).2 (fun z_ => c39 (lgc_ge.mpr z_))) (And.intro (Or.inr rfl) (And.intro (Or.inr rfl) (And.intro (Or.inr rfl) (And.intro (Or.inr rfl) (And.intro (Or.inr rfl) (And.intro (Or.inl rfl) (And.intro (Or.inl rfl) (And.intro (Or.inl rfl) (And.intro (Or.inl rfl) trivial)))))))))
    · refine gj_goq gj_clT ok_278 [11, 25, 32, 37, 47, 63, 69, 78, 97, 120] ?_
      show gj_Do E om0 (gj_mt 164) [(.ref 81), (.int (x4 + (i3 1)))] SI4 SJ4 _
      refine gj_Do.mono (q4.2 c5) (fun v_ SI12 SJ12 h_ => ?_)
      obtain ⟨r11, rfl, q40⟩ := h_
      show gj_Goes E om0 mt_278 97 [some (.ref 81), some (.int x1), some (.int x2), some (.int x3), some (.int x4), some (.int (i3 1)), none, none, none] [(.int r11)] SI12 SJ12 (QI Q)
      refine gj_goq gj_clT ok_278 [11, 25, 32, 37, 47, 63, 69, 78, 97, 120] ?_
      show (x2 < r11 → gj_Goes E om0 mt_278 105 [some (.ref 81), some (.int x1), some (.int x2), some (.int x3), some (.int x4), some (.int (i3 1)), none, none, none] [] SI12 SJ12 (QI Q)) ∧ (¬ x2 < r11 → gj_Goes E om0 mt_278 106 [some (.ref 81), some (.int x1), some (.int x2), some (.int x3), some (.int x4), some (.int (i3 1)), none, none, none] [(.int (i3 1))] SI12 SJ12 (QI Q))
      refine ⟨fun c41 => ?_, fun c41 => ?_⟩
      · refine gj_goq gj_clT ok_278 [11, 25, 32, 37, 47, 63, 69, 78, 97, 120] ?_
        show gj_Do E om0 (gj_mt 170) [(.ref 81), (.int x4), (.int (x4 + (i3 1))), (.int x1), (.int x2)] SI12 SJ12 _
        refine gj_Do.mono (q40.1 c41) (fun v_ SI14 SJ14 h_ => ?_)
        obtain ⟨r13, rfl, q42⟩ := h_
        show gj_Goes E om0 mt_278 120 [some (.ref 81), some (.int x1), some (.int x2), some (.int x3), some (.int x4), some (.int (i3 1)), some (.int (i3 0)), none, none] [(.long r13)] SI14 SJ14 (QI Q)
        refine gj_goq gj_clT ok_278 [11, 25, 32, 37, 47, 63, 69, 78, 97, 120] ?_
        show ((i3 1) = 0 → gj_Goes E om0 mt_278 143 [some (.ref 81), some (.int x1), some (.int x2), some (.int x3), some (.int x4), some (.int (i3 1)), some (.int (i3 0)), some (.long r13), none] [] SI14 SJ14 (QI Q)) ∧ (¬ (i3 1) = 0 → (¬ (i3 0) = 0 → gj_Goes E om0 mt_278 143 [some (.ref 81), some (.int x1), some (.int x2), some (.int x3), some (.int x4), some (.int (i3 1)), some (.int (i3 0)), some (.long r13), none] [] SI14 SJ14 (QI Q)) ∧ ((i3 0) = 0 → ((lg_cmp r13 (i6 0)) ≤ 0 → gj_Goes E om0 mt_278 143 [some (.ref 81), some (.int x1), some (.int x2), some (.int x3), some (.int x4), some (.int (i3 1)), some (.int (i3 0)), some (.long r13), none] [] SI14 SJ14 (QI Q)) ∧ (¬ (lg_cmp r13 (i6 0)) ≤ 0 → (¬ (i3 1) = 0 → gj_Goes E om0 mt_278 164 [some (.ref 81), some (.int x1), some (.int x2), some (.int (x3 + (i3 1))), some (.int x4), some (.int (i3 1)), some (.int (i3 0)), some (.long r13), none] [] SI14 SJ14 (QI Q)) ∧ ((i3 1) = 0 → ((i3 0) = 0 → gj_Goes E om0 mt_278 164 [some (.ref 81), some (.int x1), some (.int x2), some (.int (x3 + (i3 1))), some (.int x4), some (.int (i3 1)), some (.int (i3 0)), some (.long r13), none] [] SI14 SJ14 (QI Q)) ∧ (¬ (i3 0) = 0 → (0 ≤ (lg_cmp r13 (i6 0)) → gj_Goes E om0 mt_278 164 [some (.ref 81), some (.int x1), some (.int x2), some (.int (x3 + (i3 1))), some (.int x4), some (.int (i3 1)), some (.int (i3 0)), some (.long r13), none] [] SI14 SJ14 (QI Q)) ∧ (¬ 0 ≤ (lg_cmp r13 (i6 0)) → gj_Goes E om0 mt_278 63 [some (.ref 81), some (.int x1), some (.int x2), some (.int ((x3 + (i3 1)) - (i3 1))), some (.int (x4 + (i3 1))), some (.int (i3 1)), some (.int (i3 0)), some (.long r13), none] [] SI14 SJ14 (QI Q)))))))
        refine ⟨fun c43 => ?_, fun c43 => ?_⟩
        · refine gj_goq gj_clT ok_278 [11, 25, 32, 37, 47, 63, 69, 78, 97, 120] ?_
          show (¬ (i3 1) = 0 → gj_Goes E om0 mt_278 164 [some (.ref 81), some (.int x1), some (.int x2), some (.int x3), some (.int x4), some (.int (i3 1)), some (.int (i3 0)), some (.long r13), none] [] SI14 SJ14 (QI Q)) ∧ ((i3 1) = 0 → ((i3 0) = 0 → gj_Goes E om0 mt_278 164 [some (.ref 81), some (.int x1), some (.int x2), some (.int x3), some (.int x4), some (.int (i3 1)), some (.int (i3 0)), some (.long r13), none] [] SI14 SJ14 (QI Q)) ∧ (¬ (i3 0) = 0 → (0 ≤ (lg_cmp r13 (i6 0)) → gj_Goes E om0 mt_278 164 [some (.ref 81), some (.int x1), some (.int x2), some (.int x3), some (.int x4), some (.int (i3 1)), some (.int (i3 0)), some (.long r13), none] [] SI14 SJ14 (QI Q)) ∧ (¬ 0 ≤ (lg_cmp r13 (i6 0)) → gj_Goes E om0 mt_278 63 [some (.ref 81), some (.int x1), some (.int x2), some (.int (x3 - (i3 1))), some (.int (x4 + (i3 1))), some (.int (i3 1)), some (.int (i3 0)), some (.long r13), none] [] SI14 SJ14 (QI Q))))
          refine ⟨fun c44 => ?_, fun c44 => ?_⟩
          · refine gj_goq gj_clT ok_278 [11, 25, 32, 37, 47, 63, 69, 78, 97, 120] ?_
            show gj_Goes E om0 mt_278 63 [some (.ref 81), some (.int x1), some (.int x2), some (.int x3), some (.int (x4 + (i3 1))), some (.int (i3 1)), some (.int (i3 0)), some (.long r13), none] [] SI14 SJ14 (QI Q)
            exact gj_fh ((q42.1 c43).1 c44) (And.intro (Or.inr rfl) (And.intro (Or.inr rfl) (And.intro (Or.inr rfl) (And.intro (Or.inr rfl) (And.intro (Or.inr rfl) (And.intro (Or.inl rfl) (And.intro (Or.inl rfl) (And.intro (Or.inl rfl) (And.intro (Or.inl rfl) trivial)))))))))
          · refine ⟨fun c45 => ?_, fun c45 => ?_⟩
            · refine gj_goq gj_clT ok_278 [11, 25, 32, 37, 47, 63, 69, 78, 97, 120] ?_
              show gj_Goes E om0 mt_278 63 [some (.ref 81), some (.int x1), some (.int x2), some (.int x3), some (.int (x4 + (i3 1))), some (.int (i3 1)), some (.int (i3 0)), some (.long r13), none] [] SI14 SJ14 (QI Q)
              exact gj_fh (((q42.1 c43).2 c44).1 c45) (And.intro (Or.inr rfl) (And.intro (Or.inr rfl) (And.intro (Or.inr rfl) (And.intro (Or.inr rfl) (And.intro (Or.inr rfl) (And.intro (Or.inl rfl) (And.intro (Or.inl rfl) (And.intro (Or.inl rfl) (And.intro (Or.inl rfl) trivial)))))))))
            · refine ⟨fun c46 => ?_, fun c46 => ?_⟩
              · refine gj_goq gj_clT ok_278 [11, 25, 32, 37, 47, 63, 69, 78, 97, 120] ?_
                show gj_Goes E om0 mt_278 63 [some (.ref 81), some (.int x1), some (.int x2), some (.int x3), some (.int (x4 + (i3 1))), some (.int (i3 1)), some (.int (i3 0)), some (.long r13), none] [] SI14 SJ14 (QI Q)
                exact gj_fh ((((q42.1 c43).2 c44).2 c45).1 (lgc_ge.mp c46)) (And.intro (Or.inr rfl) (And.intro (Or.inr rfl) (And.intro (Or.inr rfl) (And.intro (Or.inr rfl) (And.intro (Or.inr rfl) (And.intro (Or.inl rfl) (And.intro (Or.inl rfl) (And.intro (Or.inl rfl) (And.intro (Or.inl rfl) trivial)))))))))
              · exact gj_fh ((((q42.1 c43).2 c44).2 c45).2 (fun z_ => c46 (lgc_ge.mpr z_))) (And.intro (Or.inr rfl) (And.intro (Or.inr rfl) (And.intro (Or.inr rfl) (And.intro (Or.inr rfl) (And.intro (Or.inr rfl) (And.intro (Or.inl rfl) (And.intro (Or.inl rfl) (And.intro (Or.inl rfl) (And.intro (Or.inl rfl) trivial)))))))))
        · refine ⟨fun c47 => ?_, fun c47 => ?_⟩
          · refine gj_goq gj_clT ok_278 [11, 25, 32, 37, 47, 63, 69, 78, 97, 120] ?_
            show (¬ (i3 1) = 0 → gj_Goes E om0 mt_278 164 [some (.ref 81), some (.int x1), some (.int x2), some (.int x3), some (.int x4), some (.int (i3 1)), some (.int (i3 0)), some (.long r13), none] [] SI14 SJ14 (QI Q)) ∧ ((i3 1) = 0 → ((i3 0) = 0 → gj_Goes E om0 mt_278 164 [some (.ref 81), some (.int x1), some (.int x2), some (.int x3), some (.int x4), some (.int (i3 1)), some (.int (i3 0)), some (.long r13), none] [] SI14 SJ14 (QI Q)) ∧ (¬ (i3 0) = 0 → (0 ≤ (lg_cmp r13 (i6 0)) → gj_Goes E om0 mt_278 164 [some (.ref 81), some (.int x1), some (.int x2), some (.int x3), some (.int x4), some (.int (i3 1)), some (.int (i3 0)), some (.long r13), none] [] SI14 SJ14 (QI Q)) ∧ (¬ 0 ≤ (lg_cmp r13 (i6 0)) → gj_Goes E om0 mt_278 63 [some (.ref 81), some (.int x1), some (.int x2), some (.int (x3 - (i3 1))), some (.int (x4 + (i3 1))), some (.int (i3 1)), some (.int (i3 0)), some (.long r13), none] [] SI14 SJ14 (QI Q))))
            refine ⟨fun c48 => ?_, fun c48 => ?_⟩
            · refine gj_goq gj_clT ok_278 [11, 25, 32, 37, 47, 63, 69, 78, 97, 120] ?_
              show gj_Goes E om0 mt_278 63 [some (.ref 81), some (.int x1), some (.int x2), some (.int x3), some (.int (x4 + (i3 1))), some (.int (i3 1)), some (.int (i3 0)), some (.long r13), none] [] SI14 SJ14 (QI Q)
              exact gj_fh (((q42.2 c43).1 c47).1 c48) (And.intro (Or.inr rfl) (And.intro (Or.inr rfl) (And.intro (Or.inr rfl) (And.intro (Or.inr rfl) (And.intro (Or.inr rfl) (And.intro (Or.inl rfl) (And.intro (Or.inl rfl) (And.intro (Or.inl rfl) (And.intro (Or.inl rfl) trivial)))))))))
            · refine ⟨fun c49 => ?_, fun c49 => ?_⟩
              · refine gj_goq gj_clT ok_278 [11, 25, 32, 37, 47, 63, 69, 78, 97, 120] ?_
                show gj_Goes E om0 mt_278 63 [some (.ref 81), some (.int x1), some (.int x2), some (.int x3), some (.int (x4 + (i3 1))), some (.int (i3 1)), some (.int (i3 0)), some (.long r13), none] [] SI14 SJ14 (QI Q)
                exact gj_fh ((((q42.2 c43).1 c47).2 c48).1 c49) (And.intro (Or.inr rfl) (And.intro (Or.inr rfl) (And.intro (Or.inr rfl) (And.intro (Or.inr rfl) (And.intro (Or.inr rfl) (And.intro (Or.inl rfl) (And.intro (Or.inl rfl) (And.intro (Or.inl rfl) (And.intro (Or.inl rfl) trivial)))))))))
              · refine ⟨fun c50 => ?_, fun c50 => ?_⟩
                · refine gj_goq gj_clT ok_278 [11, 25, 32, 37, 47, 63, 69, 78, 97, 120] ?_
                  show gj_Goes E om0 mt_278 63 [some (.ref 81), some (.int x1), some (.int x2), some (.int x3), some (.int (x4 + (i3 1))), some (.int (i3 1)), some (.int (i3 0)), some (.long r13), none] [] SI14 SJ14 (QI Q)
                  exact gj_fh (((((q42.2 c43).1 c47).2 c48).2 c49).1 (lgc_ge.mp c50)) (And.intro (Or.inr rfl) (And.intro (Or.inr rfl) (And.intro (Or.inr rfl) (And.intro (Or.inr rfl) (And.intro (Or.inr rfl) (And.intro (Or.inl rfl) (And.intro (Or.inl rfl) (And.intro (Or.inl rfl) (And.intro (Or.inl rfl) trivial)))))))))
                · exact gj_fh (((((q42.2 c43).1 c47).2 c48).2 c49).2 (fun z_ => c50 (lgc_ge.mpr z_))) (And.intro (Or.inr rfl) (And.intro (Or.inr rfl) (And.intro (Or.inr rfl) (And.intro (Or.inr rfl) (And.intro (Or.inr rfl) (And.intro (Or.inl rfl) (And.intro (Or.inl rfl) (And.intro (Or.inl rfl) (And.intro (Or.inl rfl) trivial)))))))))
          · refine ⟨fun c51 => ?_, fun c51 => ?_⟩
            · refine gj_goq gj_clT ok_278 [11, 25, 32, 37, 47, 63, 69, 78, 97, 120] ?_
              show (¬ (i3 1) = 0 → gj_Goes E om0 mt_278 164 [some (.ref 81), some (.int x1), some (.int x2), some (.int x3), some (.int x4), some (.int (i3 1)), some (.int (i3 0)), some (.long r13), none] [] SI14 SJ14 (QI Q)) ∧ ((i3 1) = 0 → ((i3 0) = 0 → gj_Goes E om0 mt_278 164 [some (.ref 81), some (.int x1), some (.int x2), some (.int x3), some (.int x4), some (.int (i3 1)), some (.int (i3 0)), some (.long r13), none] [] SI14 SJ14 (QI Q)) ∧ (¬ (i3 0) = 0 → (0 ≤ (lg_cmp r13 (i6 0)) → gj_Goes E om0 mt_278 164 [some (.ref 81), some (.int x1), some (.int x2), some (.int x3), some (.int x4), some (.int (i3 1)), some (.int (i3 0)), some (.long r13), none] [] SI14 SJ14 (QI Q)) ∧ (¬ 0 ≤ (lg_cmp r13 (i6 0)) → gj_Goes E om0 mt_278 63 [some (.ref 81), some (.int x1), some (.int x2), some (.int (x3 - (i3 1))), some (.int (x4 + (i3 1))), some (.int (i3 1)), some (.int (i3 0)), some (.long r13), none] [] SI14 SJ14 (QI Q))))
              refine ⟨fun c52 => ?_, fun c52 => ?_⟩
              · refine gj_goq gj_clT ok_278 [11, 25, 32, 37, 47, 63, 69, 78, 97, 120] ?_
                show gj_Goes E om0 mt_278 63 [some (.ref 81), some (.int x1), some (.int x2), some (.int x3), some (.int (x4 + (i3 1))), some (.int (i3 1)), some (.int (i3 0)), some (.long r13), none] [] SI14 SJ14 (QI Q)
                exact gj_fh ((((q42.2 c43).2 c47).1 (lgc_le.mp c51)).1 c52) (And.intro (Or.inr rfl) (And.intro (Or.inr rfl) (And.intro (Or.inr rfl) (And.intro (Or.inr rfl) (And.intro (Or.inr rfl) (And.intro (Or.inl rfl) (And.intro (Or.inl rfl) (And.intro (Or.inl rfl) (And.intro (Or.inl rfl) trivial)))))))))
              · refine ⟨fun c53 => ?_, fun c53 => ?_⟩
                · refine gj_goq gj_clT ok_278 [11, 25, 32, 37, 47, 63, 69, 78, 97, 120] ?_
                  show gj_Goes E om0 mt_278 63 [some (.ref 81), some (.int x1), some (.int x2), some (.int x3), some (.int (x4 + (i3 1))), some (.int (i3 1)), some (.int (i3 0)), some (.long r13), none] [] SI14 SJ14 (QI Q)
                  exact gj_fh (((((q42.2 c43).2 c47).1 (lgc_le.mp c51)).2 c52).1 c53) (And.intro (Or.inr rfl) (And.intro (Or.inr rfl) (And.intro (Or.inr rfl) (And.intro (Or.inr rfl) (And.intro (Or.inr rfl) (And.intro (Or.inl rfl) (And.intro (Or.inl rfl) (And.intro (Or.inl rfl) (And.intro (Or.inl rfl) trivial)))))))))
                · refine ⟨fun c54 => ?_, fun c54 => ?_⟩
                  · refine gj_goq gj_clT ok_278 [11, 25, 32, 37, 47, 63, 69, 78, 97, 120] ?_
                    show gj_Goes E om0 mt_278 63 [some (.ref 81), some (.int x1), some (.int x2), some (.int x3), some (.int (x4 + (i3 1))), some (.int (i3 1)), some (.int (i3 0)), some (.long r13), none] [] SI14 SJ14 (QI Q)
                    exact gj_fh ((((((q42.2 c43).2 c47).1 (lgc_le.mp c51)).2 c52).2 c53).1 (lgc_ge.mp c54)) (And.intro (Or.inr rfl) (And.intro (Or.inr rfl) (And.intro (Or.inr rfl) (And.intro (Or.inr rfl) (And.intro (Or.inr rfl) (And.intro (Or.inl rfl) (And.intro (Or.inl rfl) (And.intro (Or.inl rfl) (And.intro (Or.inl rfl) trivial)))))))))
                  · exact gj_fh ((((((q42.2 c43).2 c47).1 (lgc_le.mp c51)).2 c52).2 c53).2 (fun z_ => c54 (lgc_ge.mpr z_))) (And.intro (Or.inr rfl) (And.intro (Or.inr rfl) (And.intro (Or.inr rfl) (And.intro (Or.inr rfl) (And.intro (Or.inr rfl) (And.intro (Or.inl rfl) (And.intro (Or.inl rfl) (And.intro (Or.inl rfl) (And.intro (Or.inl rfl) trivial)))))))))
            · refine ⟨fun c55 => ?_, fun c55 => ?_⟩
              · refine gj_goq gj_clT ok_278 [11, 25, 32, 37, 47, 63, 69, 78, 97, 120] ?_
                show gj_Goes E om0 mt_278 63 [some (.ref 81), some (.int x1), some (.int x2), some (.int (x3 + (i3 1))), some (.int (x4 + (i3 1))), some (.int (i3 1)), some (.int (i3 0)), some (.long r13), none] [] SI14 SJ14 (QI Q)
                exact gj_fh ((((q42.2 c43).2 c47).2 (fun z_ => c51 (lgc_le.mpr z_))).1 c55) (And.intro (Or.inr rfl) (And.intro (Or.inr rfl) (And.intro (Or.inr rfl) (And.intro (Or.inr rfl) (And.intro (Or.inr rfl) (And.intro (Or.inl rfl) (And.intro (Or.inl rfl) (And.intro (Or.inl rfl) (And.intro (Or.inl rfl) trivial)))))))))
              · refine ⟨fun c56 => ?_, fun c56 => ?_⟩
                · refine gj_goq gj_clT ok_278 [11, 25, 32, 37, 47, 63, 69, 78, 97, 120] ?_
                  show gj_Goes E om0 mt_278 63 [some (.ref 81), some (.int x1), some (.int x2), some (.int (x3 + (i3 1))), some (.int (x4 + (i3 1))), some (.int (i3 1)), some (.int (i3 0)), some (.long r13), none] [] SI14 SJ14 (QI Q)
                  exact gj_fh (((((q42.2 c43).2 c47).2 (fun z_ => c51 (lgc_le.mpr z_))).2 c55).1 c56) (And.intro (Or.inr rfl) (And.intro (Or.inr rfl) (And.intro (Or.inr rfl) (And.intro (Or.inr rfl) (And.intro (Or.inr rfl) (And.intro (Or.inl rfl) (And.intro (Or.inl rfl) (And.intro (Or.inl rfl) (And.intro (Or.inl rfl) trivial)))))))))
                · refine ⟨fun c57 => ?_, fun c57 => ?_⟩
                  · refine gj_goq gj_clT ok_278 [11, 25, 32, 37, 47, 63, 69, 78, 97, 120] ?_
                    show gj_Goes E om0 mt_278 63 [some (.ref 81), some (.int x1), some (.int x2), some (.int (x3 + (i3 1))), some (.int (x4 + (i3 1))), some (.int (i3 1)), some (.int (i3 0)), some (.long r13), none] [] SI14 SJ14 (QI Q)
                    exact gj_fh ((((((q42.2 c43).2 c47).2 (fun z_ => c51 (lgc_le.mpr z_))).2 c55).2 c56).1 (lgc_ge.mp c57)) (And.intro (Or.inr rfl) (And.intro (Or.inr rfl) (And.intro (Or.inr rfl) (And.intro (Or.inr rfl) (And.intro (Or.inr rfl) (And.intro (Or.inl rfl) (And.intro (Or.inl rfl) (And.intro (Or.inl rfl) (And.intro (Or.inl rfl) trivial)))))))))
                  · exact gj_fh ((((((q42.2 c43).2 c47).2 (fun z_ => c51 (lgc_le.mpr z_))).2 c55).2 c56).2 (fun z_ => c57 (lgc_ge.mpr z_))) (And.intro (Or.inr rfl) (And.intro (Or.inr rfl) (And.intro (Or.inr rfl) (And.intro (Or.inr rfl) (And.intro (Or.inr rfl) (And.intro (Or.inl rfl) (And.intro (Or.inl rfl) (And.intro (Or.inl rfl) (And.intro (Or.inl rfl) trivial)))))))))
      · refine gj_goq gj_clT ok_278 [11, 25, 32, 37, 47, 63, 69, 78, 97, 120] ?_
        show gj_Do E om0 (gj_mt 170) [(.ref 81), (.int x4), (.int (x4 + (i3 1))), (.int x1), (.int x2)] SI12 SJ12 _
        refine gj_Do.mono (q40.2 c41) (fun v_ SI16 SJ16 h_ => ?_)
        obtain ⟨r15, rfl, q58⟩ := h_
        show gj_Goes E om0 mt_278 120 [some (.ref 81), some (.int x1), some (.int x2), some (.int x3), some (.int x4), some (.int (i3 1)), some (.int (i3 1)), none, none] [(.long r15)] SI16 SJ16 (QI Q)
        refine gj_goq gj_clT ok_278 [11, 25, 32, 37, 47, 63, 69, 78, 97, 120] ?_
        show ((i3 1) = 0 → gj_Goes E om0 mt_278 143 [some (.ref 81), some (.int x1), some (.int x2), some (.int x3), some (.int x4), some (.int (i3 1)), some (.int (i3 1)), some (.long r15), none] [] SI16 SJ16 (QI Q)) ∧ (¬ (i3 1) = 0 → (¬ (i3 1) = 0 → gj_Goes E om0 mt_278 143 [some (.ref 81), some (.int x1), some (.int x2), some (.int x3), some (.int x4), some (.int (i3 1)), some (.int (i3 1)), some (.long r15), none] [] SI16 SJ16 (QI Q)) ∧ ((i3 1) = 0 → ((lg_cmp r15 (i6 0)) ≤ 0 → gj_Goes E om0 mt_278 143 [some (.ref 81), some (.int x1), some (.int x2), some (.int x3), some (.int x4), some (.int (i3 1)), some (.int (i3 1)), some (.long r15), none] [] SI16 SJ16 (QI Q)) ∧ (¬ (lg_cmp r15 (i6 0)) ≤ 0 → (¬ (i3 1) = 0 → gj_Goes E om0 mt_278 164 [some (.ref 81), some (.int x1), some (.int x2), some (.int (x3 + (i3 1))), some (.int x4), some (.int (i3 1)), some (.int (i3 1)), some (.long r15), none] [] SI16 SJ16 (QI Q)) ∧ ((i3 1) = 0 → ((i3 1) = 0 → gj_Goes E om0 mt_278 164 [some (.ref 81), some (.int x1), some (.int x2), some (.int (x3 + (i3 1))), some (.int x4), some (.int (i3 1)), some (.int (i3 1)), some (.long r15), none] [] SI16 SJ16 (QI Q)) ∧ (¬ (i3 1) = 0 → (0 ≤ (lg_cmp r15 (i6 0)) → gj_Goes E om0 mt_278 164 [some (.ref 81), some (.int x1), some (.int x2), some (.int (x3 + (i3 1))), some (.int x4), some (.int (i3 1)), some (.int (i3 1)), some (.long r15), none] [] SI16 SJ16 (QI Q)) ∧ (¬ 0 ≤ (lg_cmp r15 (i6 0)) → gj_Goes E om0 mt_278 63 [some (.ref 81), some (.int x1), some (.int x2), some (.int ((x3 + (i3 1)) - (i3 1))), some (.int (x4 + (i3 1))), some (.int (i3 1)), some (.int (i3 1)), some (.long r15), none] [] SI16 SJ16 (QI Q)))))))
        refine ⟨fun c59 => ?_, fun c59 => ?_⟩
        · refine gj_goq gj_clT ok_278 [11, 25, 32, 37, 47, 63, 69, 78, 97, 120] ?_
          show (¬ (i3 1) = 0 → gj_Goes E om0 mt_278 164 [some (.ref 81), some (.int x1), some (.int x2), some (.int x3), some (.int x4), some (.int (i3 1)), some (.int (i3 1)), some (.long r15), none] [] SI16 SJ16 (QI Q)) ∧ ((i3 1) = 0 → ((i3 1) = 0 → gj_Goes E om0 mt_278 164 [some (.ref 81), some (.int x1), some (.int x2), some (.int x3), some (.int x4), some (.int (i3 1)), some (.int (i3 1)), some (.long r15), none] [] SI16 SJ16 (QI Q)) ∧ (¬ (i3 1) = 0 → (0 ≤ (lg_cmp r15 (i6 0)) → gj_Goes E om0 mt_278 164 [some (.ref 81), some (.int x1), some (.int x2), some (.int x3), some (.int x4), some (.int (i3 1)), some (.int (i3 1)), some (.long r15), none] [] SI16 SJ16 (QI Q)) ∧ (¬ 0 ≤ (lg_cmp r15 (i6 0)) → gj_Goes E om0 mt_278 63 [some (.ref 81), some (.int x1), some (.int x2), some (.int (x3 - (i3 1))), some (.int (x4 + (i3 1))), some (.int (i3 1)), some (.int (i3 1)), some (.long r15), none] [] SI16 SJ16 (QI Q))))
          refine ⟨fun c60 => ?_, fun c60 => ?_⟩
          · refine gj_goq gj_clT ok_278 [11, 25, 32, 37, 47, 63, 69, 78, 97, 120] ?_
            show gj_Goes E om0 mt_278 63 [some (.ref 81), some (.int x1), some (.int x2), some (.int x3), some (.int (x4 + (i3 1))), some (.int (i3 1)), some (.int (i3 1)), some (.long r15), none] [] SI16 SJ16 (QI Q)
            exact gj_fh ((q58.1 c59).1 c60) (And.intro (Or.inr rfl) (And.intro (Or.inr rfl) (And.intro (Or.inr rfl) (And.intro (Or.inr rfl) (And.intro (Or.inr rfl) (And.intro (Or.inl rfl) (And.intro (Or.inl rfl) (And.intro (Or.inl rfl) (And.intro (Or.inl rfl) trivial)))))))))
          · refine ⟨fun c61 => ?_, fun c61 => ?_⟩
            · refine gj_goq gj_clT ok_278 [11, 25, 32, 37, 47, 63, 69, 78, 97, 120] ?_
              show gj_Goes E om0 mt_278 63 [some (.ref 81), some (.int x1), some (.int x2), some (.int x3), some (.int (x4 + (i3 1))), some (.int (i3 1)), some (.int (i3 1)), some (.long r15), none] [] SI16 SJ16 (QI Q)
              exact gj_fh (((q58.1 c59).2 c60).1 c61) (And.intro (Or.inr rfl) (And.intro (Or.inr rfl) (And.intro (Or.inr rfl) (And.intro (Or.inr rfl) (And.intro (Or.inr rfl) (And.intro (Or.inl rfl) (And.intro (Or.inl rfl) (And.intro (Or.inl rfl) (And.intro (Or.inl rfl) trivial)))))))))
            · refine ⟨fun c62 => ?_, fun c62 => ?_⟩
              · refine gj_goq gj_clT ok_278 [11, 25, 32, 37, 47, 63, 69, 78, 97, 120] ?_
                show gj_Goes E om0 mt_278 63 [some (.ref 81), some (.int x1), some (.int x2), some (.int x3), some (.int (x4 + (i3 1))), some (.int (i3 1)), some (.int (i3 1)), some (.long r15), none] [] SI16 SJ16 (QI Q)
                exact gj_fh ((((q58.1 c59).2 c60).2 c61).1 (lgc_ge.mp c62)) (And.intro (Or.inr rfl) (And.intro (Or.inr rfl) (And.intro (Or.inr rfl) (And.intro (Or.inr rfl) (And.intro (Or.inr rfl) (And.intro (Or.inl rfl) (And.intro (Or.inl rfl) (And.intro (Or.inl rfl) (And.intro (Or.inl rfl) trivial)))))))))
              · exact gj_fh ((((q58.1 c59).2 c60).2 c61).2 (fun z_ => c62 (lgc_ge.mpr z_))) (And.intro (Or.inr rfl) (And.intro (Or.inr rfl) (And.intro (Or.inr rfl) (And.intro (Or.inr rfl) (And.intro (Or.inr rfl) (And.intro (Or.inl rfl) (And.intro (Or.inl rfl) (And.intro (Or.inl rfl) (And.intro (Or.inl rfl) trivial)))))))))
        · refine ⟨fun c63 => ?_, fun c63 => ?_⟩
          · refine gj_goq gj_clT ok_278 [11, 25, 32, 37, 47, 63, 69, 78, 97, 120] ?_
            show (¬ (i3 1) = 0 → gj_Goes E om0 mt_278 164 [some (.ref 81), some (.int x1), some (.int x2), some (.int x3), some (.int x4), some (.int (i3 1)), some (.int (i3 1)), some (.long r15), none] [] SI16 SJ16 (QI Q)) ∧ ((i3 1) = 0 → ((i3 1) = 0 → gj_Goes E om0 mt_278 164 [some (.ref 81), some (.int x1), some (.int x2), some (.int x3), some (.int x4), some (.int (i3 1)), some (.int (i3 1)), some (.long r15), none] [] SI16 SJ16 (QI Q)) ∧ (¬ (i3 1) = 0 → (0 ≤ (lg_cmp r15 (i6 0)) → gj_Goes E om0 mt_278 164 [some (.ref 81), some (.int x1), some (.int x2), some (.int x3), some (.int x4), some (.int (i3 1)), some (.int (i3 1)), some (.long r15), none] [] SI16 SJ16 (QI Q)) ∧ (¬ 0 ≤ (lg_cmp r15 (i6 0)) → gj_Goes E om0 mt_278 63 [some (.ref 81), some (.int x1), some (.int x2), some (.int (x3 - (i3 1))), some (.int (x4 + (i3 1))), some (.int (i3 1)), some (.int (i3 1)), some (.long r15), none] [] SI16 SJ16 (QI Q))))
            refine ⟨fun c64 => ?_, fun c64 => ?_⟩
            · refine gj_goq gj_clT ok_278 [11, 25, 32, 37, 47, 63, 69, 78, 97, 120] ?_
              show gj_Goes E om0 mt_278 63 [some (.ref 81), some (.int x1), some (.int x2), some (.int x3), some (.int (x4 + (i3 1))), some (.int (i3 1)), some (.int (i3 1)), some (.long r15), none] [] SI16 SJ16 (QI Q)
              exact gj_fh (((q58.2 c59).1 c63).1 c64) (And.intro (Or.inr rfl) (And.intro (Or.inr rfl) (And.intro (Or.inr rfl) (And.intro (Or.inr rfl) (And.intro (Or.inr rfl) (And.intro (Or.inl rfl) (And.intro (Or.inl rfl) (And.intro (Or.inl rfl) (And.intro (Or.inl rfl) trivial)))))))))
            · refine ⟨fun c65 => ?_, fun c65 => ?_⟩
              · refine gj_goq gj_clT ok_278 [11, 25, 32, 37, 47, 63, 69, 78, 97, 120] ?_
                show gj_Goes E om0 mt_278 63 [some (.ref 81), some (.int x1), some (.int x2), some (.int x3), some (.int (x4 + (i3 1))), some (.int (i3 1)), some (.int (i3 1)), some (.long r15), none] [] SI16 SJ16 (QI Q)
                exact gj_fh ((((q58.2 c59).1 c63).2 c64).1 c65) (And.intro (Or.inr rfl) (And.intro (Or.inr rfl) (And.intro (Or.inr rfl) (And.intro (Or.inr rfl) (And.intro (Or.inr rfl) (And.intro (Or.inl rfl) (And.intro (Or.inl rfl) (And.intro (Or.inl rfl) (And.intro (Or.inl rfl) trivial)))))))))
              · refine ⟨fun c66 => ?_, fun c66 => ?_⟩
                · refine gj_goq gj_clT ok_278 [11, 25, 32, 37, 47, 63, 69, 78, 97, 120] ?_
                  show gj_Goes E om0 mt_278 63 [some (.ref 81), some (.int x1), some (.int x2), some (.int x3), some (.int (x4 + (i3 1))), some (.int (i3 1)), some (.int (i3 1)), some (.long r15), none] [] SI16 SJ16 (QI Q)
                  exact gj_fh (((((q58.2 c59).1 c63).2 c64).2 c65).1 (lgc_ge.mp c66)) (And.intro (Or.inr rfl) (And.intro (Or.inr rfl) (And.intro (Or.inr rfl) (And.intro (Or.inr rfl) (And.intro (Or.inr rfl) (And.intro (Or.inl rfl) (And.intro (Or.inl rfl) (And.intro (Or.inl rfl) (And.intro (Or.inl rfl) trivial)))))))))
                · exact gj_fh (((((q58.2 c59).1 c63).2 c64).2 c65).2 (fun z_ => c66 (lgc_ge.mpr z_))) (And.intro (Or.inr rfl) (And.intro (Or.inr rfl) (And.intro (Or.inr rfl) (And.intro (Or.inr rfl) (And.intro (Or.inr rfl) (And.intro (Or.inl rfl) (And.intro (Or.inl rfl) (And.intro (Or.inl rfl) (And.intro (Or.inl rfl) trivial)))))))))
          · refine ⟨fun c67 => ?_, fun c67 => ?_⟩
            · refine gj_goq gj_clT ok_278 [11, 25, 32, 37, 47, 63, 69, 78, 97, 120] ?_
              show (¬ (i3 1) = 0 → gj_Goes E om0 mt_278 164 [some (.ref 81), some (.int x1), some (.int x2), some (.int x3), some (.int x4), some (.int (i3 1)), some (.int (i3 1)), some (.long r15), none] [] SI16 SJ16 (QI Q)) ∧ ((i3 1) = 0 → ((i3 1) = 0 → gj_Goes E om0 mt_278 164 [some (.ref 81), some (.int x1), some (.int x2), some (.int x3), some (.int x4), some (.int (i3 1)), some (.int (i3 1)), some (.long r15), none] [] SI16 SJ16 (QI Q)) ∧ (¬ (i3 1) = 0 → (0 ≤ (lg_cmp r15 (i6 0)) → gj_Goes E om0 mt_278 164 [some (.ref 81), some (.int x1), some (.int x2), some (.int x3), some (.int x4), some (.int (i3 1)), some (.int (i3 1)), some (.long r15), none] [] SI16 SJ16 (QI Q)) ∧ (¬ 0 ≤ (lg_cmp r15 (i6 0)) → gj_Goes E om0 mt_278 63 [some (.ref 81), some (.int x1), some (.int x2), some (.int (x3 - (i3 1))), some (.int (x4 + (i3 1))), some (.int (i3 1)), some (.int (i3 1)), some (.long r15), none] [] SI16 SJ16 (QI Q))))
              refine ⟨fun c68 => ?_, fun c68 => ?_⟩
              · refine gj_goq gj_clT ok_278 [11, 25, 32, 37, 47, 63, 69, 78, 97, 120] ?_
                show gj_Goes E om0 mt_278 63 [some (.ref 81), some (.int x1), some (.int x2), some (.int x3), some (.int (x4 + (i3 1))), some (.int (i3 1)), some (.int (i3 1)), some (.long r15), none] [] SI16 SJ16 (QI Q)
                exact gj_fh ((((q58.2 c59).2 c63).1 (lgc_le.mp c67)).1 c68) (And.intro (Or.inr rfl) (And.intro (Or.inr rfl) (And.intro (Or.inr rfl) (And.intro (Or.inr rfl) (And.intro (Or.inr rfl) (And.intro (Or.inl rfl) (And.intro (Or.inl rfl) (And.intro (Or.inl rfl) (And.intro (Or.inl rfl) trivial)))))))))
              · refine ⟨fun c69 => ?_, fun c69 => ?_⟩
                · refine gj_goq gj_clT ok_278 [11, 25, 32, 37, 47, 63, 69, 78, 97, 120] ?_
                  show gj_Goes E om0 mt_278 63 [some (.ref 81), some (.int x1), some (.int x2), some (.int x3), some (.int (x4 + (i3 1))), some (.int (i3 1)), some (.int (i3 1)), some (.long r15), none] [] SI16 SJ16 (QI Q)
                  exact gj_fh (((((q58.2 c59).2 c63).1 (lgc_le.mp c67)).2 c68).1 c69) (And.intro (Or.inr rfl) (And.intro (Or.inr rfl) (And.intro (Or.inr rfl) (And.intro (Or.inr rfl) (And.intro (Or.inr rfl) (And.intro (Or.inl rfl) (And.intro (Or.inl rfl) (And.intro (Or.inl rfl) (And.intro (Or.inl rfl) trivial)))))))))
                · refine ⟨fun c70 => ?_, fun c70 => ?_⟩
                  · refine gj_goq gj_clT ok_278 [11, 25, 32, 37, 47, 63, 69, 78, 97, 120] ?_
                    show gj_Goes E om0 mt_278 63 [some (.ref 81), some (.int x1), some (.int x2), some (.int x3), some (.int (x4 + (i3 1))), some (.int (i3 1)), some (.int (i3 1)), some (.long r15), none] [] SI16 SJ16 (QI Q)
                    exact gj_fh ((((((q58.2 c59).2 c63).1 (lgc_le.mp c67)).2 c68).2 c69).1 (lgc_ge.mp c70)) (And.intro (Or.inr rfl) (And.intro (Or.inr rfl) (And.intro (Or.inr rfl) (And.intro (Or.inr rfl) (And.intro (Or.inr rfl) (And.intro (Or.inl rfl) (And.intro (Or.inl rfl) (And.intro (Or.inl rfl) (And.intro (Or.inl rfl) trivial)))))))))
                  · exact gj_fh ((((((q58.2 c59).2 c63).1 (lgc_le.mp c67)).2 c68).2 c69).2 (fun z_ => c70 (lgc_ge.mpr z_))) (And.intro (Or.inr rfl) (And.intro (Or.inr rfl) (And.intro (Or.inr rfl) (And.intro (Or.inr rfl) (And.intro (Or.inr rfl) (And.intro (Or.inl rfl) (And.intro (Or.inl rfl) (And.intro (Or.inl rfl) (And.intro (Or.inl rfl) trivial)))))))))
            · refine ⟨fun c71 => ?_, fun c71 => ?_⟩
              · refine gj_goq gj_clT ok_278 [11, 25, 32, 37, 47, 63, 69, 78, 97, 120] ?_
                show gj_Goes E om0 mt_278 63 [some (.ref 81), some (.int x1), some (.int x2), some (.int (x3 + (i3 1))), some (.int (x4 + (i3 1))), some (.int (i3 1)), some (.int (i3 1)), some (.long r15), none] [] SI16 SJ16 (QI Q)
                exact gj_fh ((((q58.2 c59).2 c63).2 (fun z_ => c67 (lgc_le.mpr z_))).1 c71) (And.intro (Or.inr rfl) (And.intro (Or.inr rfl) (And.intro (Or.inr rfl) (And.intro (Or.inr rfl) (And.intro (Or.inr rfl) (And.intro (Or.inl rfl) (And.intro (Or.inl rfl) (And.intro (Or.inl rfl) (And.intro (Or.inl rfl) trivial)))))))))
              · refine ⟨fun c72 => ?_, fun c72 => ?_⟩
                · refine gj_goq gj_clT ok_278 [11, 25, 32, 37, 47, 63, 69, 78, 97, 120] ?_
                  show gj_Goes E om0 mt_278 63 [some (.ref 81), some (.int x1), some (.int x2), some (.int (x3 + (i3 1))), some (.int (x4 + (i3 1))), some (.int (i3 1)), some (.int (i3 1)), some (.long r15), none] [] SI16 SJ16 (QI Q)
                  exact gj_fh (((((q58.2 c59).2 c63).2 (fun z_ => c67 (lgc_le.mpr z_))).2 c71).1 c72) (And.intro (Or.inr rfl) (And.intro (Or.inr rfl) (And.intro (Or.inr rfl) (And.intro (Or.inr rfl) (And.intro (Or.inr rfl) (And.intro (Or.inl rfl) (And.intro (Or.inl rfl) (And.intro (Or.inl rfl) (And.intro (Or.inl rfl) trivial)))))))))
                · refine ⟨fun c73 => ?_, fun c73 => ?_⟩
                  · refine gj_goq gj_clT ok_278 [11, 25, 32, 37, 47, 63, 69, 78, 97, 120] ?_
                    show gj_Goes E om0 mt_278 63 [some (.ref 81), some (.int x1), some (.int x2), some (.int (x3 + (i3 1))), some (.int (x4 + (i3 1))), some (.int (i3 1)), some (.int (i3 1)), some (.long r15), none] [] SI16 SJ16 (QI Q)
                    exact gj_fh ((((((q58.2 c59).2 c63).2 (fun z_ => c67 (lgc_le.mpr z_))).2 c71).2 c72).1 (lgc_ge.mp c73)) (And.intro (Or.inr rfl) (And.intro (Or.inr rfl) (And.intro (Or.inr rfl) (And.intro (Or.inr rfl) (And.intro (Or.inr rfl) (And.intro (Or.inl rfl) (And.intro (Or.inl rfl) (And.intro (Or.inl rfl) (And.intro (Or.inl rfl) trivial)))))))))
                  · exact gj_fh ((((((q58.2 c59).2 c63).2 (fun z_ => c67 (lgc_le.mpr z_))).2 c71).2 c72).2 (fun z_ => c73 (lgc_ge.mpr z_))) (And.intro (Or.inr rfl) (And.intro (Or.inr rfl) (And.intro (Or.inr rfl) (And.intro (Or.inr rfl) (And.intro (Or.inr rfl) (And.intro (Or.inl rfl) (And.intro (Or.inl rfl) (And.intro (Or.inl rfl) (And.intro (Or.inl rfl) trivial)))))))))
set_option maxRecDepth 20000 in
/-- GraspJudgeModel.finger -/
theorem st_279 {E : gj_E} {Q : Int32 → gj_I → gj_J → Prop} (a1 : Int32) (a2 : Int32) (SI : gj_I) (SJ : gj_J) (h : DoI E 181 [(.ref 81), (.int a1)] SI SJ (fun r1 SI2 SJ2 => (¬ r1 = 0 → vp_in ((i3 18) + a1) 135 ∧ (vp_in ((i3 24) + a1) 135 ∧ ((a2 = (i3 0) → Q (SI2 82 (gj_n ((i3 18) + a1))) SI2 SJ2) ∧ (a2 = (i3 1) → Q (SI2 82 (gj_n ((i3 24) + a1))) SI2 SJ2) ∧ (a2 = (i3 2) → DoI E 168 [(.ref 81), (.int (SI2 82 (gj_n ((i3 18) + a1)))), (.int (SI2 82 (gj_n ((i3 24) + a1))))] SI2 SJ2 (fun r3 SI4 SJ4 => Q r3 SI4 SJ4)) ∧ (a2 = (i3 3) → DoI E 169 [(.ref 81), (.int (SI2 82 (gj_n ((i3 18) + a1)))), (.int (SI2 82 (gj_n ((i3 24) + a1))))] SI2 SJ2 (fun r5 SI6 SJ6 => Q r5 SI6 SJ6)) ∧ (a2 = (i3 4) → (¬ (SI2 82 30) = 0 → Q (i3 2) SI2 SJ2) ∧ ((SI2 82 30) = 0 → Q (i3 1) SI2 SJ2)) ∧ (a2 = (i3 5) → DoV E 184 [(.ref 81)] SI2 SJ2 (fun SI8 SJ8 => DoI E 259 [(.ref 81)] SI8 SJ8 (fun r9 SI10 SJ10 => DoI E 186 [(.ref 81), (.int (r9 &&& (((i3 1) <<< (a1 &&& 31)) ^^^ (i3 (-1)))))] SI10 SJ10 (fun r11 SI12 SJ12 => DoI E 194 [(.ref 81), (.int r11)] SI12 SJ12 (fun r13 SI14 SJ14 => (r13 = 0 → Q (i3 0) SI14 SJ14) ∧ (¬ r13 = 0 → Q (i3 1) SI14 SJ14)))))) ∧ (a2.toInt < 0 ∨ 5 < a2.toInt → Q (i3 (-1)) SI2 SJ2)))) ∧ (r1 = 0 → Q (i3 (-1)) SI2 SJ2))) : DoI E 279 [(.ref 81), (.int a1), (.int a2)] SI SJ Q := by
  refine gj_start (M := mt_279) ok_279 (Nat.le_of_ble_eq_true rfl) ?_
  refine gj_goq gj_clT ok_279 [5, 84, 92, 113, 119, 128, 131] ?_
  show gj_Do E om0 (gj_mt 181) [(.ref 81), (.int a1)] SI SJ _
  refine gj_Do.mono h (fun v_ SI2 SJ2 h_ => ?_)
  obtain ⟨r1, rfl, q1⟩ := h_
  show gj_Goes E om0 mt_279 5 [some (.ref 81), some (.int a1), some (.int a2), none, none] [(.int r1)] SI2 SJ2 (QI Q)
  refine gj_goq gj_clT ok_279 [5, 84, 92, 113, 119, 128, 131] ?_
  show (¬ r1 = 0 → gj_Goes E om0 mt_279 10 [some (.ref 81), some (.int a1), some (.int a2), none, none] [] SI2 SJ2 (QI Q)) ∧ (r1 = 0 → QI Q (some (.int (i3 (-1)))) SI2 SJ2)
  refine ⟨fun c2 => ?_, fun c2 => ?_⟩
  · refine gj_goq gj_clT ok_279 [5, 84, 92, 113, 119, 128, 131] ?_
    show vp_in ((i3 18) + a1) 135 ∧ (vp_in ((i3 24) + a1) 135 ∧ (((a2 = Int32.ofInt (0) → gj_Goes E om0 mt_279 72 [some (.ref 81), some (.int a1), some (.int a2), some (.int (SI2 82 (gj_n ((i3 18) + a1)))), some (.int (SI2 82 (gj_n ((i3 24) + a1))))] [] SI2 SJ2 (QI Q)) ∧ (a2 = Int32.ofInt (1) → gj_Goes E om0 mt_279 74 [some (.ref 81), some (.int a1), some (.int a2), some (.int (SI2 82 (gj_n ((i3 18) + a1)))), some (.int (SI2 82 (gj_n ((i3 24) + a1))))] [] SI2 SJ2 (QI Q)) ∧ (a2 = Int32.ofInt (2) → gj_Goes E om0 mt_279 77 [some (.ref 81), some (.int a1), some (.int a2), some (.int (SI2 82 (gj_n ((i3 18) + a1)))), some (.int (SI2 82 (gj_n ((i3 24) + a1))))] [] SI2 SJ2 (QI Q)) ∧ (a2 = Int32.ofInt (3) → gj_Goes E om0 mt_279 85 [some (.ref 81), some (.int a1), some (.int a2), some (.int (SI2 82 (gj_n ((i3 18) + a1)))), some (.int (SI2 82 (gj_n ((i3 24) + a1))))] [] SI2 SJ2 (QI Q)) ∧ (a2 = Int32.ofInt (4) → gj_Goes E om0 mt_279 93 [some (.ref 81), some (.int a1), some (.int a2), some (.int (SI2 82 (gj_n ((i3 18) + a1)))), some (.int (SI2 82 (gj_n ((i3 24) + a1))))] [] SI2 SJ2 (QI Q)) ∧ (a2 = Int32.ofInt (5) → gj_Goes E om0 mt_279 109 [some (.ref 81), some (.int a1), some (.int a2), some (.int (SI2 82 (gj_n ((i3 18) + a1)))), some (.int (SI2 82 (gj_n ((i3 24) + a1))))] [] SI2 SJ2 (QI Q)) ∧ True) ∧ (a2.toInt < 0 ∨ 5 < a2.toInt → gj_Goes E om0 mt_279 140 [some (.ref 81), some (.int a1), some (.int a2), some (.int (SI2 82 (gj_n ((i3 18) + a1)))), some (.int (SI2 82 (gj_n ((i3 24) + a1))))] [] SI2 SJ2 (QI Q))))
    have k3 := (q1.1 c2).1
    refine ⟨k3, ?_⟩
    have k4 := (q1.1 c2).2.1
    refine ⟨k4, ?_⟩
    refine ⟨⟨fun c5 => ?_, ⟨fun c5 => ?_, ⟨fun c5 => ?_, ⟨fun c5 => ?_, ⟨fun c5 => ?_, ⟨fun c5 => ?_, trivial⟩⟩⟩⟩⟩⟩, fun c5 => ?_⟩
    · refine gj_goq gj_clT ok_279 [5, 84, 92, 113, 119, 128, 131] ?_
      show QI Q (some (.int (SI2 82 (gj_n ((i3 18) + a1))))) SI2 SJ2
      exact ⟨_, rfl, ((q1.1 c2).2.2.1 c5)⟩
    · refine gj_goq gj_clT ok_279 [5, 84, 92, 113, 119, 128, 131] ?_
      show QI Q (some (.int (SI2 82 (gj_n ((i3 24) + a1))))) SI2 SJ2
      exact ⟨_, rfl, ((q1.1 c2).2.2.2.1 c5)⟩
    · refine gj_goq gj_clT ok_279 [5, 84, 92, 113, 119, 128, 131] ?_
      show gj_Do E om0 (gj_mt 168) [(.ref 81), (.int (SI2 82 (gj_n ((i3 18) + a1)))), (.int (SI2 82 (gj_n ((i3 24) + a1))))] SI2 SJ2 _
      refine gj_Do.mono ((q1.1 c2).2.2.2.2.1 c5) (fun v_ SI4 SJ4 h_ => ?_)
      obtain ⟨r3, rfl, q6⟩ := h_
      show gj_Goes E om0 mt_279 84 [some (.ref 81), some (.int a1), some (.int a2), some (.int (SI2 82 (gj_n ((i3 18) + a1)))), some (.int (SI2 82 (gj_n ((i3 24) + a1))))] [(.int r3)] SI4 SJ4 (QI Q)
      refine gj_goq gj_clT ok_279 [5, 84, 92, 113, 119, 128, 131] ?_
      show QI Q (some (.int r3)) SI4 SJ4
      exact ⟨_, rfl, q6⟩
    · refine gj_goq gj_clT ok_279 [5, 84, 92, 113, 119, 128, 131] ?_
      show gj_Do E om0 (gj_mt 169) [(.ref 81), (.int (SI2 82 (gj_n ((i3 18) + a1)))), (.int (SI2 82 (gj_n ((i3 24) + a1))))] SI2 SJ2 _
      refine gj_Do.mono ((q1.1 c2).2.2.2.2.2.1 c5) (fun v_ SI6 SJ6 h_ => ?_)
      obtain ⟨r5, rfl, q7⟩ := h_
      show gj_Goes E om0 mt_279 92 [some (.ref 81), some (.int a1), some (.int a2), some (.int (SI2 82 (gj_n ((i3 18) + a1)))), some (.int (SI2 82 (gj_n ((i3 24) + a1))))] [(.int r5)] SI6 SJ6 (QI Q)
      refine gj_goq gj_clT ok_279 [5, 84, 92, 113, 119, 128, 131] ?_
      show QI Q (some (.int r5)) SI6 SJ6
      exact ⟨_, rfl, q7⟩
    · refine gj_goq gj_clT ok_279 [5, 84, 92, 113, 119, 128, 131] ?_
      show vp_in (i3 30) 135 ∧ ((¬ (SI2 82 30) = 0 → gj_Goes E om0 mt_279 107 [some (.ref 81), some (.int a1), some (.int a2), some (.int (SI2 82 (gj_n ((i3 18) + a1)))), some (.int (SI2 82 (gj_n ((i3 24) + a1))))] [] SI2 SJ2 (QI Q)) ∧ ((SI2 82 30) = 0 → gj_Goes E om0 mt_279 108 [some (.ref 81), some (.int a1), some (.int a2), some (.int (SI2 82 (gj_n ((i3 18) + a1)))), some (.int (SI2 82 (gj_n ((i3 24) + a1))))] [(.int (i3 1))] SI2 SJ2 (QI Q)))
      refine ⟨(gj_vin (by decide)), ?_⟩
      refine ⟨fun c8 => ?_, fun c8 => ?_⟩
      · refine gj_goq gj_clT ok_279 [5, 84, 92, 113, 119, 128, 131] ?_
        show QI Q (some (.int (i3 2))) SI2 SJ2
        exact ⟨_, rfl, (((q1.1 c2).2.2.2.2.2.2.1 c5).1 c8)⟩
      · refine gj_goq gj_clT ok_279 [5, 84, 92, 113, 119, 128, 131] ?_
        show QI Q (some (.int (i3 1))) SI2 SJ2
        exact ⟨_, rfl, (((q1.1 c2).2.2.2.2.2.2.1 c5).2 c8)⟩
    · refine gj_goq gj_clT ok_279 [5, 84, 92, 113, 119, 128, 131] ?_
      show gj_Do E om0 (gj_mt 184) [(.ref 81)] SI2 SJ2 _
      refine gj_Do.mono ((q1.1 c2).2.2.2.2.2.2.2.1 c5) (fun v_ SI8 SJ8 h_ => ?_)
      obtain ⟨rfl, q9⟩ := h_
      show gj_Goes E om0 mt_279 113 [some (.ref 81), some (.int a1), some (.int a2), some (.int (SI2 82 (gj_n ((i3 18) + a1)))), some (.int (SI2 82 (gj_n ((i3 24) + a1))))] [] SI8 SJ8 (QI Q)
      refine gj_goq gj_clT ok_279 [5, 84, 92, 113, 119, 128, 131] ?_
      show gj_Do E om0 (gj_mt 259) [(.ref 81)] SI8 SJ8 _
      refine gj_Do.mono q9 (fun v_ SI10 SJ10 h_ => ?_)
      obtain ⟨r9, rfl, q10⟩ := h_
      show gj_Goes E om0 mt_279 119 [some (.ref 81), some (.int a1), some (.int a2), some (.int (SI2 82 (gj_n ((i3 18) + a1)))), some (.int (SI2 82 (gj_n ((i3 24) + a1))))] [(.int r9), (.ref 81), (.ref 81)] SI10 SJ10 (QI Q)
      refine gj_goq gj_clT ok_279 [5, 84, 92, 113, 119, 128, 131] ?_
      show gj_Do E om0 (gj_mt 186) [(.ref 81), (.int (r9 &&& (((i3 1) <<< (a1 &&& 31)) ^^^ (i3 (-1)))))] SI10 SJ10 _
      refine gj_Do.mono q10 (fun v_ SI12 SJ12 h_ => ?_)
      obtain ⟨r11, rfl, q11⟩ := h_
      show gj_Goes E om0 mt_279 128 [some (.ref 81), some (.int a1), some (.int a2), some (.int (SI2 82 (gj_n ((i3 18) + a1)))), some (.int (SI2 82 (gj_n ((i3 24) + a1))))] [(.int r11), (.ref 81)] SI12 SJ12 (QI Q)
      refine gj_goq gj_clT ok_279 [5, 84, 92, 113, 119, 128, 131] ?_
      show gj_Do E om0 (gj_mt 194) [(.ref 81), (.int r11)] SI12 SJ12 _
      refine gj_Do.mono q11 (fun v_ SI14 SJ14 h_ => ?_)
      obtain ⟨r13, rfl, q12⟩ := h_
      show gj_Goes E om0 mt_279 131 [some (.ref 81), some (.int a1), some (.int a2), some (.int (SI2 82 (gj_n ((i3 18) + a1)))), some (.int (SI2 82 (gj_n ((i3 24) + a1))))] [(.int r13)] SI14 SJ14 (QI Q)
      refine gj_goq gj_clT ok_279 [5, 84, 92, 113, 119, 128, 131] ?_
      show (r13 = 0 → gj_Goes E om0 mt_279 138 [some (.ref 81), some (.int a1), some (.int a2), some (.int (SI2 82 (gj_n ((i3 18) + a1)))), some (.int (SI2 82 (gj_n ((i3 24) + a1))))] [] SI14 SJ14 (QI Q)) ∧ (¬ r13 = 0 → gj_Goes E om0 mt_279 139 [some (.ref 81), some (.int a1), some (.int a2), some (.int (SI2 82 (gj_n ((i3 18) + a1)))), some (.int (SI2 82 (gj_n ((i3 24) + a1))))] [(.int (i3 1))] SI14 SJ14 (QI Q))
      refine ⟨fun c13 => ?_, fun c13 => ?_⟩
      · refine gj_goq gj_clT ok_279 [5, 84, 92, 113, 119, 128, 131] ?_
        show QI Q (some (.int (i3 0))) SI14 SJ14
        exact ⟨_, rfl, (q12.1 c13)⟩
      · refine gj_goq gj_clT ok_279 [5, 84, 92, 113, 119, 128, 131] ?_
        show QI Q (some (.int (i3 1))) SI14 SJ14
        exact ⟨_, rfl, (q12.2 c13)⟩
    · refine gj_goq gj_clT ok_279 [5, 84, 92, 113, 119, 128, 131] ?_
      show QI Q (some (.int (i3 (-1)))) SI2 SJ2
      exact ⟨_, rfl, ((q1.1 c2).2.2.2.2.2.2.2.2 c5)⟩
  · exact ⟨_, rfl, (q1.2 c2)⟩
set_option maxRecDepth 20000 in
/-- GraspJudgeModel.wrench -/
theorem st_280 {E : gj_E} {Q : Int64 → gj_I → gj_J → Prop} (a1 : Int32) (a2 : Int32) (SI : gj_I) (SJ : gj_J) (h : DoV E 184 [(.ref 81)] SI SJ (fun SI2 SJ2 => DoI E 155 [(.long (a1).toInt64), (.long (i6 0)), (.long ((SI2 81 8) - (i3 1)).toInt64)] SI2 SJ2 (fun r3 SI4 SJ4 => (¬ r3 = 0 → (a2 = (i3 0) → vp_in a1 16 ∧ (Q (SJ4 85 (gj_n a1)) SI4 SJ4)) ∧ (a2 = (i3 1) → vp_in a1 16 ∧ (Q (SJ4 86 (gj_n a1)) SI4 SJ4)) ∧ (a2 = (i3 2) → vp_in a1 16 ∧ (Q (SJ4 87 (gj_n a1)) SI4 SJ4)) ∧ (a2 = (i3 3) → vp_in a1 16 ∧ (Q (SI4 88 (gj_n a1)).toInt64 SI4 SJ4)) ∧ (a2.toInt < 0 ∨ 3 < a2.toInt → Q (i6 (-9000000000000000000)) SI4 SJ4)) ∧ (r3 = 0 → Q (i6 (-9000000000000000000)) SI4 SJ4)))) : DoL E 280 [(.ref 81), (.int a1), (.int a2)] SI SJ Q := by
  refine gj_start (M := mt_280) ok_280 (Nat.le_of_ble_eq_true rfl) ?_
  refine gj_goq gj_clT ok_280 [4, 17] ?_
  show gj_Do E om0 (gj_mt 184) [(.ref 81)] SI SJ _
  refine gj_Do.mono h (fun v_ SI2 SJ2 h_ => ?_)
  obtain ⟨rfl, q1⟩ := h_
  show gj_Goes E om0 mt_280 4 [some (.ref 81), some (.int a1), some (.int a2)] [] SI2 SJ2 (QL Q)
  refine gj_goq gj_clT ok_280 [4, 17] ?_
  show gj_Do E om0 (gj_mt 155) [(.long (a1).toInt64), (.long (i6 0)), (.long ((SI2 81 8) - (i3 1)).toInt64)] SI2 SJ2 _
  refine gj_Do.mono q1 (fun v_ SI4 SJ4 h_ => ?_)
  obtain ⟨r3, rfl, q2⟩ := h_
  show gj_Goes E om0 mt_280 17 [some (.ref 81), some (.int a1), some (.int a2)] [(.int r3)] SI4 SJ4 (QL Q)
  refine gj_goq gj_clT ok_280 [4, 17] ?_
  show (¬ r3 = 0 → gj_Goes E om0 mt_280 24 [some (.ref 81), some (.int a1), some (.int a2)] [] SI4 SJ4 (QL Q)) ∧ (r3 = 0 → QL Q (some (.long (i6 (-9000000000000000000)))) SI4 SJ4)
  refine ⟨fun c3 => ?_, fun c3 => ?_⟩
  · refine gj_goq gj_clT ok_280 [4, 17] ?_
    show ((a2 = Int32.ofInt (0) → gj_Goes E om0 mt_280 56 [some (.ref 81), some (.int a1), some (.int a2)] [] SI4 SJ4 (QL Q)) ∧ (a2 = Int32.ofInt (1) → gj_Goes E om0 mt_280 63 [some (.ref 81), some (.int a1), some (.int a2)] [] SI4 SJ4 (QL Q)) ∧ (a2 = Int32.ofInt (2) → gj_Goes E om0 mt_280 70 [some (.ref 81), some (.int a1), some (.int a2)] [] SI4 SJ4 (QL Q)) ∧ (a2 = Int32.ofInt (3) → gj_Goes E om0 mt_280 77 [some (.ref 81), some (.int a1), some (.int a2)] [] SI4 SJ4 (QL Q)) ∧ True) ∧ (a2.toInt < 0 ∨ 3 < a2.toInt → gj_Goes E om0 mt_280 85 [some (.ref 81), some (.int a1), some (.int a2)] [] SI4 SJ4 (QL Q))
    refine ⟨⟨fun c4 => ?_, ⟨fun c4 => ?_, ⟨fun c4 => ?_, ⟨fun c4 => ?_, trivial⟩⟩⟩⟩, fun c4 => ?_⟩
    · refine gj_goq gj_clT ok_280 [4, 17] ?_
      show vp_in a1 16 ∧ (QL Q (some (.long (SJ4 85 (gj_n a1)))) SI4 SJ4)
      have k5 := ((q2.1 c3).1 c4).1
      refine ⟨k5, ?_⟩
      exact ⟨_, rfl, ((q2.1 c3).1 c4).2⟩
    · refine gj_goq gj_clT ok_280 [4, 17] ?_
      show vp_in a1 16 ∧ (QL Q (some (.long (SJ4 86 (gj_n a1)))) SI4 SJ4)
      have k6 := ((q2.1 c3).2.1 c4).1
      refine ⟨k6, ?_⟩
      exact ⟨_, rfl, ((q2.1 c3).2.1 c4).2⟩
    · refine gj_goq gj_clT ok_280 [4, 17] ?_
      show vp_in a1 16 ∧ (QL Q (some (.long (SJ4 87 (gj_n a1)))) SI4 SJ4)
      have k7 := ((q2.1 c3).2.2.1 c4).1
      refine ⟨k7, ?_⟩
      exact ⟨_, rfl, ((q2.1 c3).2.2.1 c4).2⟩
    · refine gj_goq gj_clT ok_280 [4, 17] ?_
      show vp_in a1 16 ∧ (QL Q (some (.long (SI4 88 (gj_n a1)).toInt64)) SI4 SJ4)
      have k8 := ((q2.1 c3).2.2.2.1 c4).1
      refine ⟨k8, ?_⟩
      exact ⟨_, rfl, ((q2.1 c3).2.2.2.1 c4).2⟩
    · refine gj_goq gj_clT ok_280 [4, 17] ?_
      show QL Q (some (.long (i6 (-9000000000000000000)))) SI4 SJ4
      exact ⟨_, rfl, ((q2.1 c3).2.2.2.2 c4)⟩
  · exact ⟨_, rfl, (q2.2 c3)⟩
set_option maxRecDepth 20000 in
/-- GraspJudgeModel.keep -/
theorem st_281 {E : gj_E} {Q : Int32 → gj_I → gj_J → Prop} (SI : gj_I) (SJ : gj_J) (h : GoI E mt_281 7 [some (.ref 81), some (.int (i3 0))] (gj_u2 SI 81 3 (i3 1)) SJ Q) : DoI E 281 [(.ref 81)] SI SJ Q := by
  refine gj_start (M := mt_281) ok_281 (Nat.le_of_ble_eq_true rfl) ?_
  refine gj_goq gj_clT ok_281 [7] ?_
  show ((i3 1) = 0 ∨ (i3 1) = 1) ∧ (gj_Goes E om0 mt_281 7 [some (.ref 81), some (.int (i3 0))] [] (gj_u2 SI 81 3 (i3 1)) SJ (QI Q))
  refine ⟨(Or.inr rfl), ?_⟩
  exact h
set_option maxRecDepth 20000 in
theorem lp_281_7 {E : gj_E} {Q : Int32 → gj_I → gj_J → Prop} (x1 : Int32) (SI : gj_I) (SJ : gj_J) (h : ((i3 135) ≤ x1 → Q (SI 82 17) SI SJ) ∧ (¬ (i3 135) ≤ x1 → vp_in x1 135 ∧ (GoI E mt_281 7 [some (.ref 81), some (.int (x1 + (i3 1)))] (gj_u2 SI 83 (gj_n x1) (SI 82 (gj_n x1))) SJ Q))) : GoI E mt_281 7 [some (.ref 81), some (.int x1)] SI SJ Q := by
  refine gj_goq gj_clT ok_281 [7] ?_
  show ((i3 135) ≤ x1 → gj_Goes E om0 mt_281 32 [some (.ref 81), some (.int x1)] [] SI SJ (QI Q)) ∧ (¬ (i3 135) ≤ x1 → vp_in x1 135 ∧ (vp_in x1 135 ∧ (gj_Goes E om0 mt_281 7 [some (.ref 81), some (.int (x1 + (i3 1)))] [] (gj_u2 SI 83 (gj_n x1) (SI 82 (gj_n x1))) SJ (QI Q))))
  refine ⟨fun c1 => ?_, fun c1 => ?_⟩
  · refine gj_goq gj_clT ok_281 [7] ?_
    show vp_in (i3 17) 135 ∧ (QI Q (some (.int (SI 82 17))) SI SJ)
    refine ⟨(gj_vin (by decide)), ?_⟩
    exact ⟨_, rfl, (h.1 c1)⟩
  · have k2 := (h.2 c1).1
    refine ⟨k2, ?_⟩
    refine ⟨k2, ?_⟩
    exact (h.2 c1).2
set_option maxRecDepth 20000 in
/-- GraspJudgeModel.undo -/
theorem st_282 {E : gj_E} {Q : Int32 → gj_I → gj_J → Prop} (SI : gj_I) (SJ : gj_J) (h : (¬ (SI 81 3) = 0 → GoI E mt_282 11 [some (.ref 81), some (.int (i3 0))] SI SJ Q) ∧ ((SI 81 3) = 0 → Q (i3 0) SI SJ)) : DoI E 282 [(.ref 81)] SI SJ Q := by
  refine gj_start (M := mt_282) ok_282 (Nat.le_of_ble_eq_true rfl) ?_
  refine gj_goq gj_clT ok_282 [11] ?_
  show (¬ (SI 81 3) = 0 → gj_Goes E om0 mt_282 9 [some (.ref 81), none] [] SI SJ (QI Q)) ∧ ((SI 81 3) = 0 → ((i3 0) = 0 ∨ (i3 0) = 1) ∧ (QI Q (some (.int (i3 0))) SI SJ))
  refine ⟨fun c1 => ?_, fun c1 => ?_⟩
  · refine gj_goq gj_clT ok_282 [11] ?_
    show gj_Goes E om0 mt_282 11 [some (.ref 81), some (.int (i3 0))] [] SI SJ (QI Q)
    exact (h.1 c1)
  · refine ⟨(Or.inl rfl), ?_⟩
    exact ⟨_, rfl, (h.2 c1)⟩
set_option maxRecDepth 20000 in
theorem lp_282_11 {E : gj_E} {Q : Int32 → gj_I → gj_J → Prop} (x1 : Int32) (SI : gj_I) (SJ : gj_J) (h : ((i3 135) ≤ x1 → Q (i3 1) SI SJ) ∧ (¬ (i3 135) ≤ x1 → vp_in x1 135 ∧ (GoI E mt_282 11 [some (.ref 81), some (.int (x1 + (i3 1)))] (gj_u2 SI 82 (gj_n x1) (SI 83 (gj_n x1))) SJ Q))) : GoI E mt_282 11 [some (.ref 81), some (.int x1)] SI SJ Q := by
  refine gj_goq gj_clT ok_282 [11] ?_
  show ((i3 135) ≤ x1 → gj_Goes E om0 mt_282 36 [some (.ref 81), some (.int x1)] [] SI SJ (QI Q)) ∧ (¬ (i3 135) ≤ x1 → vp_in x1 135 ∧ (vp_in x1 135 ∧ (gj_Goes E om0 mt_282 11 [some (.ref 81), some (.int (x1 + (i3 1)))] [] (gj_u2 SI 82 (gj_n x1) (SI 83 (gj_n x1))) SJ (QI Q))))
  refine ⟨fun c1 => ?_, fun c1 => ?_⟩
  · refine gj_goq gj_clT ok_282 [11] ?_
    show ((i3 1) = 0 ∨ (i3 1) = 1) ∧ (QI Q (some (.int (i3 1))) SI SJ)
    refine ⟨(Or.inr rfl), ?_⟩
    exact ⟨_, rfl, (h.1 c1)⟩
  · have k2 := (h.2 c1).1
    refine ⟨k2, ?_⟩
    refine ⟨k2, ?_⟩
    exact (h.2 c1).2
set_option maxRecDepth 20000 in
/-- GraspJudgeModel.check -/
theorem st_283 {E : gj_E} {Q : Int32 → gj_I → gj_J → Prop} (a1 : Int32) (SI : gj_I) (SJ : gj_J) (h : DoI E 155 [(.long (a1).toInt64), (.long (i6 0)), (.long (i6 12))] SI SJ (fun r1 SI2 SJ2 => (r1 = 0 → Q (i3 (-2)) SI2 SJ2) ∧ (¬ r1 = 0 → (a1 ≤ (SI2 81 13) → GoI E mt_283 29 [some (.ref 81), none, some (.int (i3 (-1))), some (.int (a1 - (i3 1)))] SI2 SJ2 Q) ∧ (¬ a1 ≤ (SI2 81 13) → Q (i3 (-2)) SI2 SJ2)))) : DoI E 283 [(.ref 81), (.int a1)] SI SJ Q := by
  refine gj_start (M := mt_283) ok_283 (Nat.le_of_ble_eq_true rfl) ?_
  refine gj_goq gj_clT ok_283 [9, 29] ?_
  show gj_Do E om0 (gj_mt 155) [(.long (a1).toInt64), (.long (i6 0)), (.long (i6 12))] SI SJ _
  refine gj_Do.mono h (fun v_ SI2 SJ2 h_ => ?_)
  obtain ⟨r1, rfl, q1⟩ := h_
  show gj_Goes E om0 mt_283 9 [some (.ref 81), some (.int a1), none, none] [(.int r1)] SI2 SJ2 (QI Q)
  refine gj_goq gj_clT ok_283 [9, 29] ?_
  show (r1 = 0 → gj_Goes E om0 mt_283 20 [some (.ref 81), some (.int a1), none, none] [] SI2 SJ2 (QI Q)) ∧ (¬ r1 = 0 → (a1 ≤ (SI2 81 13) → gj_Goes E om0 mt_283 23 [some (.ref 81), some (.int a1), none, none] [] SI2 SJ2 (QI Q)) ∧ (¬ a1 ≤ (SI2 81 13) → QI Q (some (.int (i3 (-2)))) SI2 SJ2))
  refine ⟨fun c2 => ?_, fun c2 => ?_⟩
  · refine gj_goq gj_clT ok_283 [9, 29] ?_
    show QI Q (some (.int (i3 (-2)))) SI2 SJ2
    exact ⟨_, rfl, (q1.1 c2)⟩
  · refine ⟨fun c3 => ?_, fun c3 => ?_⟩
    · refine gj_goq gj_clT ok_283 [9, 29] ?_
      show gj_Goes E om0 mt_283 29 [some (.ref 81), some (.int a1), some (.int (i3 (-1))), some (.int (a1 - (i3 1)))] [] SI2 SJ2 (QI Q)
      exact gj_fh ((q1.2 c2).1 c3) (And.intro (Or.inr rfl) (And.intro (Or.inl rfl) (And.intro (Or.inr rfl) (And.intro (Or.inr rfl) trivial))))
    · exact ⟨_, rfl, ((q1.2 c2).2 c3)⟩
set_option maxRecDepth 20000 in
theorem lp_283_29 {E : gj_E} {Q : Int32 → gj_I → gj_J → Prop} (x2 : Int32) (x3 : Int32) (SI : gj_I) (SJ : gj_J) (h : (x3 < 0 → Q x2 (gj_u2 SI 81 13 (i3 0)) SJ) ∧ (¬ x3 < 0 → ((SI 82 17) ≤ (x3 / (i3 2)) → GoI E mt_283 29 [some (.ref 81), none, some (.int x3), some (.int (x3 + (i3 (-1))))] SI SJ Q) ∧ (¬ (SI 82 17) ≤ (x3 / (i3 2)) → vp_in x3 240 ∧ ((¬ (x3 - x3 / (i3 2) * (i3 2)) = 0 → vp_in ((i3 24) + (x3 / (i3 2))) 135 ∧ ((((SI 89 (gj_n x3)) &&& (i3 255)) = (SI 82 (gj_n ((i3 24) + (x3 / (i3 2))))) → GoI E mt_283 29 [some (.ref 81), none, some (.int x2), some (.int (x3 + (i3 (-1))))] SI SJ Q) ∧ (¬ ((SI 89 (gj_n x3)) &&& (i3 255)) = (SI 82 (gj_n ((i3 24) + (x3 / (i3 2))))) → GoI E mt_283 29 [some (.ref 81), none, some (.int x3), some (.int (x3 + (i3 (-1))))] SI SJ Q))) ∧ ((x3 - x3 / (i3 2) * (i3 2)) = 0 → vp_in ((i3 18) + (x3 / (i3 2))) 135 ∧ ((((SI 89 (gj_n x3)) &&& (i3 255)) = (SI 82 (gj_n ((i3 18) + (x3 / (i3 2))))) → GoI E mt_283 29 [some (.ref 81), none, some (.int x2), some (.int (x3 + (i3 (-1))))] SI SJ Q) ∧ (¬ ((SI 89 (gj_n x3)) &&& (i3 255)) = (SI 82 (gj_n ((i3 18) + (x3 / (i3 2))))) → GoI E mt_283 29 [some (.ref 81), none, some (.int x3), some (.int (x3 + (i3 (-1))))] SI SJ Q))))))) : GoI E mt_283 29 [some (.ref 81), none, some (.int x2), some (.int x3)] SI SJ Q := by
  refine gj_goq gj_clT ok_283 [9, 29] ?_
  show (x3 < 0 → gj_Goes E om0 mt_283 89 [some (.ref 81), none, some (.int x2), some (.int x3)] [] SI SJ (QI Q)) ∧ (¬ x3 < 0 → ¬ (i3 2) = 0 ∧ (vp_in (i3 17) 135 ∧ (((SI 82 17) ≤ (x3 / (i3 2)) → gj_Goes E om0 mt_283 81 [some (.ref 81), none, some (.int x2), some (.int x3)] [] SI SJ (QI Q)) ∧ (¬ (SI 82 17) ≤ (x3 / (i3 2)) → vp_in x3 240 ∧ (¬ (i3 2) = 0 ∧ ((¬ (x3 - x3 / (i3 2) * (i3 2)) = 0 → gj_Goes E om0 mt_283 71 [some (.ref 81), none, some (.int x2), some (.int x3)] [(.ref 82), (.int ((SI 89 (gj_n x3)) &&& (i3 255)))] SI SJ (QI Q)) ∧ ((x3 - x3 / (i3 2) * (i3 2)) = 0 → gj_Goes E om0 mt_283 73 [some (.ref 81), none, some (.int x2), some (.int x3)] [(.int (i3 18)), (.ref 82), (.int ((SI 89 (gj_n x3)) &&& (i3 255)))] SI SJ (QI Q))))))))
  refine ⟨fun c1 => ?_, fun c1 => ?_⟩
  · refine gj_goq gj_clT ok_283 [9, 29] ?_
    show QI Q (some (.int x2)) (gj_u2 SI 81 13 (i3 0)) SJ
    exact ⟨_, rfl, (h.1 c1)⟩
  · refine ⟨(by decide), ?_⟩
    refine ⟨(gj_vin (by decide)), ?_⟩
    refine ⟨fun c2 => ?_, fun c2 => ?_⟩
    · refine gj_goq gj_clT ok_283 [9, 29] ?_
      show gj_Goes E om0 mt_283 29 [some (.ref 81), none, some (.int x3), some (.int (x3 + (i3 (-1))))] [] SI SJ (QI Q)
      exact ((h.2 c1).1 c2)
    · have k3 := ((h.2 c1).2 c2).1
      refine ⟨k3, ?_⟩
      refine ⟨(by decide), ?_⟩
      refine ⟨fun c4 => ?_, fun c4 => ?_⟩
      · refine gj_goq gj_clT ok_283 [9, 29] ?_
        show ¬ (i3 2) = 0 ∧ (vp_in ((i3 24) + (x3 / (i3 2))) 135 ∧ ((((SI 89 (gj_n x3)) &&& (i3 255)) = (SI 82 (gj_n ((i3 24) + (x3 / (i3 2))))) → gj_Goes E om0 mt_283 83 [some (.ref 81), none, some (.int x2), some (.int x3)] [] SI SJ (QI Q)) ∧ (¬ ((SI 89 (gj_n x3)) &&& (i3 255)) = (SI 82 (gj_n ((i3 24) + (x3 / (i3 2))))) → gj_Goes E om0 mt_283 29 [some (.ref 81), none, some (.int x3), some (.int (x3 + (i3 (-1))))] [] SI SJ (QI Q))))
        refine ⟨(by decide), ?_⟩
        have k5 := (((h.2 c1).2 c2).2.1 c4).1
        refine ⟨k5, ?_⟩
        refine ⟨fun c6 => ?_, fun c6 => ?_⟩
        · refine gj_goq gj_clT ok_283 [9, 29] ?_
          show gj_Goes E om0 mt_283 29 [some (.ref 81), none, some (.int x2), some (.int (x3 + (i3 (-1))))] [] SI SJ (QI Q)
          exact ((((h.2 c1).2 c2).2.1 c4).2.1 c6)
        · exact ((((h.2 c1).2 c2).2.1 c4).2.2 c6)
      · refine gj_goq gj_clT ok_283 [9, 29] ?_
        show ¬ (i3 2) = 0 ∧ (vp_in ((i3 18) + (x3 / (i3 2))) 135 ∧ ((((SI 89 (gj_n x3)) &&& (i3 255)) = (SI 82 (gj_n ((i3 18) + (x3 / (i3 2))))) → gj_Goes E om0 mt_283 83 [some (.ref 81), none, some (.int x2), some (.int x3)] [] SI SJ (QI Q)) ∧ (¬ ((SI 89 (gj_n x3)) &&& (i3 255)) = (SI 82 (gj_n ((i3 18) + (x3 / (i3 2))))) → gj_Goes E om0 mt_283 29 [some (.ref 81), none, some (.int x3), some (.int (x3 + (i3 (-1))))] [] SI SJ (QI Q))))
        refine ⟨(by decide), ?_⟩
        have k7 := (((h.2 c1).2 c2).2.2 c4).1
        refine ⟨k7, ?_⟩
        refine ⟨fun c8 => ?_, fun c8 => ?_⟩
        · refine gj_goq gj_clT ok_283 [9, 29] ?_
          show gj_Goes E om0 mt_283 29 [some (.ref 81), none, some (.int x2), some (.int (x3 + (i3 (-1))))] [] SI SJ (QI Q)
          exact ((((h.2 c1).2 c2).2.2 c4).2.1 c8)
        · exact ((((h.2 c1).2 c2).2.2 c4).2.2 c8)
