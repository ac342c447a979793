/-! 25.vcD2: what the machine asks of each method, from its entry (st_) and from each loop head (lp_): printed by a program, checked by the kernel -/
set_option maxRecDepth 20000 in
/-- GraspJudgeModel.tread -/
theorem st_201 {E : gj_E} {Q : Int32 → gj_I → gj_J → Prop} (a1 : Int32) (a2 : Int32) (SI : gj_I) (SJ : gj_J) (h : DoI E 155 [(.long (a1).toInt64), (.long (i6 0)), (.long (i6 3))] SI SJ (fun r1 SI2 SJ2 => (r1 = 0 → Q (i3 (-1)) SI2 SJ2) ∧ (¬ r1 = 0 → DoI E 155 [(.long (a2).toInt64), (.long (i6 1)), (.long (i6 3))] SI2 SJ2 (fun r3 SI4 SJ4 => (¬ r3 = 0 → DoI E 196 [(.ref 81), (.int (i3 2)), (.int (i3 0))] (gj_u2 (gj_u2 SI4 82 30 a1) 82 31 a2) SJ4 (fun r5 SI6 SJ6 => Q r5 SI6 SJ6)) ∧ (r3 = 0 → Q (i3 (-1)) SI4 SJ4))))) : DoI E 201 [(.ref 81), (.int a1), (.int a2)] SI SJ Q := by
  refine gj_start (M := mt_201) ok_201 (Nat.le_of_ble_eq_true rfl) ?_
  refine gj_goq gj_clT ok_201 [9, 21, 48] ?_
  show gj_Do E om0 (gj_mt 155) [(.long (a1).toInt64), (.long (i6 0)), (.long (i6 3))] SI SJ _
  refine gj_Do.mono h (fun v_ SI2 SJ2 h_ => ?_)
  obtain ⟨r1, rfl, q1⟩ := h_
  show gj_Goes E om0 mt_201 9 [some (.ref 81), some (.int a1), some (.int a2)] [(.int r1)] SI2 SJ2 (QI Q)
  refine gj_goq gj_clT ok_201 [9, 21, 48] ?_
  show (r1 = 0 → gj_Goes E om0 mt_201 24 [some (.ref 81), some (.int a1), some (.int a2)] [] SI2 SJ2 (QI Q)) ∧ (¬ r1 = 0 → gj_Do E om0 (gj_mt 155) [(.long (a2).toInt64), (.long (i6 1)), (.long (i6 3))] SI2 SJ2 _)
  refine ⟨fun c2 => ?_, fun c2 => ?_⟩
  · refine gj_goq gj_clT ok_201 [9, 21, 48] ?_
    show QI Q (some (.int (i3 (-1)))) SI2 SJ2
    exact ⟨_, rfl, (q1.1 c2)⟩
  · refine gj_Do.mono (q1.2 c2) (fun v_ SI4 SJ4 h_ => ?_)
    obtain ⟨r3, rfl, q3⟩ := h_
    show gj_Goes E om0 mt_201 21 [some (.ref 81), some (.int a1), some (.int a2)] [(.int r3)] SI4 SJ4 (QI Q)
    refine gj_goq gj_clT ok_201 [9, 21, 48] ?_
    show (¬ r3 = 0 → gj_Goes E om0 mt_201 26 [some (.ref 81), some (.int a1), some (.int a2)] [] SI4 SJ4 (QI Q)) ∧ (r3 = 0 → QI Q (some (.int (i3 (-1)))) SI4 SJ4)
    refine ⟨fun c4 => ?_, fun c4 => ?_⟩
    · refine gj_goq gj_clT ok_201 [9, 21, 48] ?_
      show vp_in (i3 30) 135 ∧ (vp_in (i3 31) 135 ∧ (gj_Do E om0 (gj_mt 196) [(.ref 81), (.int (i3 2)), (.int (i3 0))] (gj_u2 (gj_u2 SI4 82 30 a1) 82 31 a2) SJ4 _))
      refine ⟨(gj_vin (by decide)), ?_⟩
      refine ⟨(gj_vin (by decide)), ?_⟩
      refine gj_Do.mono (q3.1 c4) (fun v_ SI6 SJ6 h_ => ?_)
      obtain ⟨r5, rfl, q5⟩ := h_
      show gj_Goes E om0 mt_201 48 [some (.ref 81), some (.int a1), some (.int a2)] [(.int r5)] SI6 SJ6 (QI Q)
      refine gj_goq gj_clT ok_201 [9, 21, 48] ?_
      show QI Q (some (.int r5)) SI6 SJ6
      exact ⟨_, rfl, q5⟩
    · exact ⟨_, rfl, (q3.2 c4)⟩
set_option maxRecDepth 20000 in
/-- GraspJudgeModel.centre -/
theorem st_202 {E : gj_E} {Q : Int32 → gj_I → gj_J → Prop} (a1 : Int32) (a2 : Int32) (SI : gj_I) (SJ : gj_J) (h : DoI E 155 [(.long (a1).toInt64), (.long (i6 0)), (.long (i6 9))] SI SJ (fun r1 SI2 SJ2 => (r1 = 0 → Q (i3 (-1)) SI2 SJ2) ∧ (¬ r1 = 0 → DoI E 155 [(.long (a2).toInt64), (.long (i6 0)), (.long (i6 9))] SI2 SJ2 (fun r3 SI4 SJ4 => (¬ r3 = 0 → DoI E 196 [(.ref 81), (.int (i3 3)), (.int (i3 0))] (gj_u2 (gj_u2 SI4 82 32 a1) 82 33 a2) SJ4 (fun r5 SI6 SJ6 => Q r5 SI6 SJ6)) ∧ (r3 = 0 → Q (i3 (-1)) SI4 SJ4))))) : DoI E 202 [(.ref 81), (.int a1), (.int a2)] SI SJ Q := by
  refine gj_start (M := mt_202) ok_202 (Nat.le_of_ble_eq_true rfl) ?_
  refine gj_goq gj_clT ok_202 [9, 21, 48] ?_
  show gj_Do E om0 (gj_mt 155) [(.long (a1).toInt64), (.long (i6 0)), (.long (i6 9))] SI SJ _
  refine gj_Do.mono h (fun v_ SI2 SJ2 h_ => ?_)
  obtain ⟨r1, rfl, q1⟩ := h_
  show gj_Goes E om0 mt_202 9 [some (.ref 81), some (.int a1), some (.int a2)] [(.int r1)] SI2 SJ2 (QI Q)
  refine gj_goq gj_clT ok_202 [9, 21, 48] ?_
  show (r1 = 0 → gj_Goes E om0 mt_202 24 [some (.ref 81), some (.int a1), some (.int a2)] [] SI2 SJ2 (QI Q)) ∧ (¬ r1 = 0 → gj_Do E om0 (gj_mt 155) [(.long (a2).toInt64), (.long (i6 0)), (.long (i6 9))] SI2 SJ2 _)
  refine ⟨fun c2 => ?_, fun c2 => ?_⟩
  · refine gj_goq gj_clT ok_202 [9, 21, 48] ?_
    show QI Q (some (.int (i3 (-1)))) SI2 SJ2
    exact ⟨_, rfl, (q1.1 c2)⟩
  · refine gj_Do.mono (q1.2 c2) (fun v_ SI4 SJ4 h_ => ?_)
    obtain ⟨r3, rfl, q3⟩ := h_
    show gj_Goes E om0 mt_202 21 [some (.ref 81), some (.int a1), some (.int a2)] [(.int r3)] SI4 SJ4 (QI Q)
    refine gj_goq gj_clT ok_202 [9, 21, 48] ?_
    show (¬ r3 = 0 → gj_Goes E om0 mt_202 26 [some (.ref 81), some (.int a1), some (.int a2)] [] SI4 SJ4 (QI Q)) ∧ (r3 = 0 → QI Q (some (.int (i3 (-1)))) SI4 SJ4)
    refine ⟨fun c4 => ?_, fun c4 => ?_⟩
    · refine gj_goq gj_clT ok_202 [9, 21, 48] ?_
      show vp_in (i3 32) 135 ∧ (vp_in (i3 33) 135 ∧ (gj_Do E om0 (gj_mt 196) [(.ref 81), (.int (i3 3)), (.int (i3 0))] (gj_u2 (gj_u2 SI4 82 32 a1) 82 33 a2) SJ4 _))
      refine ⟨(gj_vin (by decide)), ?_⟩
      refine ⟨(gj_vin (by decide)), ?_⟩
      refine gj_Do.mono (q3.1 c4) (fun v_ SI6 SJ6 h_ => ?_)
      obtain ⟨r5, rfl, q5⟩ := h_
      show gj_Goes E om0 mt_202 48 [some (.ref 81), some (.int a1), some (.int a2)] [(.int r5)] SI6 SJ6 (QI Q)
      refine gj_goq gj_clT ok_202 [9, 21, 48] ?_
      show QI Q (some (.int r5)) SI6 SJ6
      exact ⟨_, rfl, q5⟩
    · exact ⟨_, rfl, (q3.2 c4)⟩
set_option maxRecDepth 20000 in
/-- GraspJudgeModel.turnsPair -/
theorem st_203 {E : gj_E} {Q : gj_I → gj_J → Prop} (a1 : Int32) (a2 : Int32) (SI : gj_I) (SJ : gj_J) (h : vp_in a1 135 ∧ (vp_in a2 135 ∧ (Q (gj_u2 (gj_u2 SI 82 (gj_n a1) ((i3 9) - (SI 82 (gj_n a2)))) 82 (gj_n a2) (SI 82 (gj_n a1))) SJ))) : DoV E 203 [(.ref 81), (.int a1), (.int a2)] SI SJ Q := by
  refine gj_start (M := mt_203) ok_203 (Nat.le_of_ble_eq_true rfl) ?_
  refine gj_goq gj_clT ok_203 [] ?_
  show vp_in a1 135 ∧ (vp_in a2 135 ∧ (vp_in a1 135 ∧ (vp_in a2 135 ∧ (QV Q none (gj_u2 (gj_u2 SI 82 (gj_n a1) ((i3 9) - (SI 82 (gj_n a2)))) 82 (gj_n a2) (SI 82 (gj_n a1))) SJ))))
  have k1 := h.1
  refine ⟨k1, ?_⟩
  have k2 := h.2.1
  refine ⟨k2, ?_⟩
  refine ⟨k1, ?_⟩
  refine ⟨k2, ?_⟩
  exact ⟨rfl, h.2.2⟩
set_option maxRecDepth 20000 in
/-- GraspJudgeModel.turn -/
theorem st_204 {E : gj_E} {Q : Int32 → gj_I → gj_J → Prop} (SI : gj_I) (SJ : gj_J) (h : GoI E mt_204 2 [some (.ref 81), some (.int (i3 0))] SI SJ Q) : DoI E 204 [(.ref 81)] SI SJ Q := by
  refine gj_start (M := mt_204) ok_204 (Nat.le_of_ble_eq_true rfl) ?_
  refine gj_goq gj_clT ok_204 [2, 7, 21, 35, 41, 48] ?_
  show gj_Goes E om0 mt_204 2 [some (.ref 81), some (.int (i3 0))] [] SI SJ (QI Q)
  exact h
set_option maxRecDepth 20000 in
theorem lp_204_2 {E : gj_E} {Q : Int32 → gj_I → gj_J → Prop} (x1 : Int32) (SI : gj_I) (SJ : gj_J) (h : DoI E 162 [(.ref 81)] SI SJ (fun r1 SI2 SJ2 => (r1 ≤ x1 → DoV E 203 [(.ref 81), (.int (i3 32)), (.int (i3 33))] SI2 SJ2 (fun SI4 SJ4 => DoI E 196 [(.ref 81), (.int (i3 4)), (.int (i3 0))] SI4 SJ4 (fun r5 SI6 SJ6 => DoI E 197 [(.ref 81), (.int (i3 0)), (.int (i3 2))] SI6 SJ6 (fun r7 SI8 SJ8 => Q r7 SI8 SJ8)))) ∧ (¬ r1 ≤ x1 → DoV E 203 [(.ref 81), (.int ((i3 1) + x1)), (.int ((i3 9) + x1))] SI2 SJ2 (fun SI10 SJ10 => GoI E mt_204 2 [some (.ref 81), some (.int (x1 + (i3 1)))] SI10 SJ10 Q)))) : GoI E mt_204 2 [some (.ref 81), some (.int x1)] SI SJ Q := by
  refine gj_goq gj_clT ok_204 [2, 7, 21, 35, 41, 48] ?_
  show gj_Do E om0 (gj_mt 162) [(.ref 81)] SI SJ _
  refine gj_Do.mono h (fun v_ SI2 SJ2 h_ => ?_)
  obtain ⟨r1, rfl, q1⟩ := h_
  show gj_Goes E om0 mt_204 7 [some (.ref 81), some (.int x1)] [(.int r1), (.int x1)] SI2 SJ2 (QI Q)
  refine gj_goq gj_clT ok_204 [2, 7, 21, 35, 41, 48] ?_
  show (r1 ≤ x1 → gj_Goes E om0 mt_204 27 [some (.ref 81), some (.int x1)] [] SI2 SJ2 (QI Q)) ∧ (¬ r1 ≤ x1 → gj_Do E om0 (gj_mt 203) [(.ref 81), (.int ((i3 1) + x1)), (.int ((i3 9) + x1))] SI2 SJ2 _)
  refine ⟨fun c2 => ?_, fun c2 => ?_⟩
  · refine gj_goq gj_clT ok_204 [2, 7, 21, 35, 41, 48] ?_
    show gj_Do E om0 (gj_mt 203) [(.ref 81), (.int (i3 32)), (.int (i3 33))] SI2 SJ2 _
    refine gj_Do.mono (q1.1 c2) (fun v_ SI4 SJ4 h_ => ?_)
    obtain ⟨rfl, q3⟩ := h_
    show gj_Goes E om0 mt_204 35 [some (.ref 81), some (.int x1)] [] SI4 SJ4 (QI Q)
    refine gj_goq gj_clT ok_204 [2, 7, 21, 35, 41, 48] ?_
    show gj_Do E om0 (gj_mt 196) [(.ref 81), (.int (i3 4)), (.int (i3 0))] SI4 SJ4 _
    refine gj_Do.mono q3 (fun v_ SI6 SJ6 h_ => ?_)
    obtain ⟨r5, rfl, q4⟩ := h_
    show gj_Goes E om0 mt_204 41 [some (.ref 81), some (.int x1)] [(.int r5)] SI6 SJ6 (QI Q)
    refine gj_goq gj_clT ok_204 [2, 7, 21, 35, 41, 48] ?_
    show gj_Do E om0 (gj_mt 197) [(.ref 81), (.int (i3 0)), (.int (i3 2))] SI6 SJ6 _
    refine gj_Do.mono q4 (fun v_ SI8 SJ8 h_ => ?_)
    obtain ⟨r7, rfl, q5⟩ := h_
    show gj_Goes E om0 mt_204 48 [some (.ref 81), some (.int x1)] [(.int r7)] SI8 SJ8 (QI Q)
    refine gj_goq gj_clT ok_204 [2, 7, 21, 35, 41, 48] ?_
    show QI Q (some (.int r7)) SI8 SJ8
    exact ⟨_, rfl, q5⟩
  · refine gj_Do.mono (q1.2 c2) (fun v_ SI10 SJ10 h_ => ?_)
    obtain ⟨rfl, q6⟩ := h_
    show gj_Goes E om0 mt_204 21 [some (.ref 81), some (.int x1)] [] SI10 SJ10 (QI Q)
    refine gj_goq gj_clT ok_204 [2, 7, 21, 35, 41, 48] ?_
    show gj_Goes E om0 mt_204 2 [some (.ref 81), some (.int (x1 + (i3 1)))] [] SI10 SJ10 (QI Q)
    exact q6
set_option maxRecDepth 20000 in
/-- GraspJudgeModel.types -/
theorem st_205 {E : gj_E} {Q : gj_I → gj_J → Prop} (a1 : Int32) (SI : gj_I) (SJ : gj_J) (h : GoV E mt_205 2 [some (.ref 81), some (.int a1), some (.int (i3 3))] SI SJ Q) : DoV E 205 [(.ref 81), (.int a1)] SI SJ Q := by
  refine gj_start (M := mt_205) ok_205 (Nat.le_of_ble_eq_true rfl) ?_
  refine gj_goq gj_clT ok_205 [2] ?_
  show gj_Goes E om0 mt_205 2 [some (.ref 81), some (.int a1), some (.int (i3 3))] [] SI SJ (QV Q)
  exact h
set_option maxRecDepth 20000 in
theorem lp_205_2 {E : gj_E} {Q : gj_I → gj_J → Prop} (x1 : Int32) (x2 : Int32) (SI : gj_I) (SJ : gj_J) (h : (x2 < 0 → Q SI SJ) ∧ (¬ x2 < 0 → vp_in (SI 81 13) 240 ∧ (GoV E mt_205 2 [some (.ref 81), some (.int x1), some (.int (x2 + (i3 (-1))))] (gj_u2 (gj_u2 SI 89 (gj_n (SI 81 13)) (((x1 >>> (((i3 8) * x2) &&& 31))).toInt8.toInt32).toInt8.toInt32) 81 13 ((SI 81 13) + (i3 1))) SJ Q))) : GoV E mt_205 2 [some (.ref 81), some (.int x1), some (.int x2)] SI SJ Q := by
  refine gj_goq gj_clT ok_205 [2] ?_
  show (x2 < 0 → gj_Goes E om0 mt_205 38 [some (.ref 81), some (.int x1), some (.int x2)] [] SI SJ (QV Q)) ∧ (¬ x2 < 0 → vp_in (SI 81 13) 240 ∧ (gj_Goes E om0 mt_205 2 [some (.ref 81), some (.int x1), some (.int (x2 + (i3 (-1))))] [] (gj_u2 (gj_u2 SI 89 (gj_n (SI 81 13)) (((x1 >>> (((i3 8) * x2) &&& 31))).toInt8.toInt32).toInt8.toInt32) 81 13 ((SI 81 13) + (i3 1))) SJ (QV Q)))
  refine ⟨fun c1 => ?_, fun c1 => ?_⟩
  · refine gj_goq gj_clT ok_205 [2] ?_
    show QV Q none SI SJ
    exact ⟨rfl, (h.1 c1)⟩
  · have k2 := (h.2 c1).1
    refine ⟨k2, ?_⟩
    exact (h.2 c1).2
set_option maxRecDepth 20000 in
/-- GraspJudgeModel.feed -/
theorem st_206 {E : gj_E} {Q : Int32 → gj_I → gj_J → Prop} (a1 : Int32) (a2 : Int32) (a3 : Int32) (a4 : Int32) (a5 : Int32) (SI : gj_I) (SJ : gj_J) (h : (((SI 81 13) + (i3 20)) ≤ (i3 240) → DoV E 205 [(.ref 81), (.int a1)] SI SJ (fun SI2 SJ2 => DoV E 205 [(.ref 81), (.int a2)] SI2 SJ2 (fun SI4 SJ4 => DoV E 205 [(.ref 81), (.int a3)] SI4 SJ4 (fun SI6 SJ6 => DoV E 205 [(.ref 81), (.int a4)] SI6 SJ6 (fun SI8 SJ8 => DoV E 205 [(.ref 81), (.int a5)] SI8 SJ8 (fun SI10 SJ10 => Q (SI10 81 13) SI10 SJ10)))))) ∧ (¬ ((SI 81 13) + (i3 20)) ≤ (i3 240) → Q (i3 (-1)) SI SJ)) : DoI E 206 [(.ref 81), (.int a1), (.int a2), (.int a3), (.int a4), (.int a5)] SI SJ Q := by
  refine gj_start (M := mt_206) ok_206 (Nat.le_of_ble_eq_true rfl) ?_
  refine gj_goq gj_clT ok_206 [20, 25, 30, 36, 42] ?_
  show (((SI 81 13) + (i3 20)) ≤ (i3 240) → gj_Goes E om0 mt_206 15 [some (.ref 81), some (.int a1), some (.int a2), some (.int a3), some (.int a4), some (.int a5)] [] SI SJ (QI Q)) ∧ (¬ ((SI 81 13) + (i3 20)) ≤ (i3 240) → QI Q (some (.int (i3 (-1)))) SI SJ)
  refine ⟨fun c1 => ?_, fun c1 => ?_⟩
  · refine gj_goq gj_clT ok_206 [20, 25, 30, 36, 42] ?_
    show gj_Do E om0 (gj_mt 205) [(.ref 81), (.int a1)] SI SJ _
    refine gj_Do.mono (h.1 c1) (fun v_ SI2 SJ2 h_ => ?_)
    obtain ⟨rfl, q2⟩ := h_
    show gj_Goes E om0 mt_206 20 [some (.ref 81), some (.int a1), some (.int a2), some (.int a3), some (.int a4), some (.int a5)] [] SI2 SJ2 (QI Q)
    refine gj_goq gj_clT ok_206 [20, 25, 30, 36, 42] ?_
    show gj_Do E om0 (gj_mt 205) [(.ref 81), (.int a2)] SI2 SJ2 _
    refine gj_Do.mono q2 (fun v_ SI4 SJ4 h_ => ?_)
    obtain ⟨rfl, q3⟩ := h_
    show gj_Goes E om0 mt_206 25 [some (.ref 81), some (.int a1), some (.int a2), some (.int a3), some (.int a4), some (.int a5)] [] SI4 SJ4 (QI Q)
    refine gj_goq gj_clT ok_206 [20, 25, 30, 36, 42] ?_
    show gj_Do E om0 (gj_mt 205) [(.ref 81), (.int a3)] SI4 SJ4 _
    refine gj_Do.mono q3 (fun v_ SI6 SJ6 h_ => ?_)
    obtain ⟨rfl, q4⟩ := h_
    show gj_Goes E om0 mt_206 30 [some (.ref 81), some (.int a1), some (.int a2), some (.int a3), some (.int a4), some (.int a5)] [] SI6 SJ6 (QI Q)
    refine gj_goq gj_clT ok_206 [20, 25, 30, 36, 42] ?_
    show gj_Do E om0 (gj_mt 205) [(.ref 81), (.int a4)] SI6 SJ6 _
    refine gj_Do.mono q4 (fun v_ SI8 SJ8 h_ => ?_)
    obtain ⟨rfl, q5⟩ := h_
    show gj_Goes E om0 mt_206 36 [some (.ref 81), some (.int a1), some (.int a2), some (.int a3), some (.int a4), some (.int a5)] [] SI8 SJ8 (QI Q)
    refine gj_goq gj_clT ok_206 [20, 25, 30, 36, 42] ?_
    show gj_Do E om0 (gj_mt 205) [(.ref 81), (.int a5)] SI8 SJ8 _
    refine gj_Do.mono q5 (fun v_ SI10 SJ10 h_ => ?_)
    obtain ⟨rfl, q6⟩ := h_
    show gj_Goes E om0 mt_206 42 [some (.ref 81), some (.int a1), some (.int a2), some (.int a3), some (.int a4), some (.int a5)] [] SI10 SJ10 (QI Q)
    refine gj_goq gj_clT ok_206 [20, 25, 30, 36, 42] ?_
    show QI Q (some (.int (SI10 81 13))) SI10 SJ10
    exact ⟨_, rfl, q6⟩
  · exact ⟨_, rfl, (h.2 c1)⟩
set_option maxRecDepth 20000 in
/-- GraspJudgeModel.here -/
theorem st_207 {E : gj_E} {Q : Int32 → gj_I → gj_J → Prop} (SI : gj_I) (SJ : gj_J) (h : ((SI 81 15) ≤ (SI 81 14) → Q (i3 (-1)) SI SJ) ∧ (¬ (SI 81 15) ≤ (SI 81 14) → vp_in (SI 81 14) 240 ∧ (Q ((SI 89 (gj_n (SI 81 14))) &&& (i3 255)) SI SJ))) : DoI E 207 [(.ref 81)] SI SJ Q := by
  refine gj_start (M := mt_207) ok_207 (Nat.le_of_ble_eq_true rfl) ?_
  refine gj_goq gj_clT ok_207 [] ?_
  show ((SI 81 15) ≤ (SI 81 14) → gj_Goes E om0 mt_207 27 [some (.ref 81)] [] SI SJ (QI Q)) ∧ (¬ (SI 81 15) ≤ (SI 81 14) → vp_in (SI 81 14) 240 ∧ (gj_Goes E om0 mt_207 28 [some (.ref 81)] [(.int ((SI 89 (gj_n (SI 81 14))) &&& (i3 255)))] SI SJ (QI Q)))
  refine ⟨fun c1 => ?_, fun c1 => ?_⟩
  · refine gj_goq gj_clT ok_207 [] ?_
    show QI Q (some (.int (i3 (-1)))) SI SJ
    exact ⟨_, rfl, (h.1 c1)⟩
  · have k2 := (h.2 c1).1
    refine ⟨k2, ?_⟩
    refine gj_goq gj_clT ok_207 [] ?_
    show QI Q (some (.int ((SI 89 (gj_n (SI 81 14))) &&& (i3 255)))) SI SJ
    exact ⟨_, rfl, (h.2 c1).2⟩
set_option maxRecDepth 20000 in
/-- GraspJudgeModel.isDigit -/
theorem st_208 {E : gj_E} {Q : Int32 → gj_I → gj_J → Prop} (SI : gj_I) (SJ : gj_J) (h : DoI E 207 [(.ref 81)] SI SJ (fun r1 SI2 SJ2 => DoI E 155 [(.long (r1).toInt64), (.long (i6 48)), (.long (i6 57))] SI2 SJ2 (fun r3 SI4 SJ4 => (r3 = 0 ∨ r3 = 1) ∧ (Q r3 SI4 SJ4)))) : DoI E 208 [(.ref 81)] SI SJ Q := by
  refine gj_start (M := mt_208) ok_208 (Nat.le_of_ble_eq_true rfl) ?_
  refine gj_goq gj_clT ok_208 [4, 14] ?_
  show gj_Do E om0 (gj_mt 207) [(.ref 81)] SI SJ _
  refine gj_Do.mono h (fun v_ SI2 SJ2 h_ => ?_)
  obtain ⟨r1, rfl, q1⟩ := h_
  show gj_Goes E om0 mt_208 4 [some (.ref 81)] [(.int r1)] SI2 SJ2 (QI Q)
  refine gj_goq gj_clT ok_208 [4, 14] ?_
  show gj_Do E om0 (gj_mt 155) [(.long (r1).toInt64), (.long (i6 48)), (.long (i6 57))] SI2 SJ2 _
  refine gj_Do.mono q1 (fun v_ SI4 SJ4 h_ => ?_)
  obtain ⟨r3, rfl, q2⟩ := h_
  show gj_Goes E om0 mt_208 14 [some (.ref 81)] [(.int r3)] SI4 SJ4 (QI Q)
  refine gj_goq gj_clT ok_208 [4, 14] ?_
  show (r3 = 0 ∨ r3 = 1) ∧ (QI Q (some (.int r3)) SI4 SJ4)
  have k3 := q2.1
  refine ⟨k3, ?_⟩
  exact ⟨_, rfl, q2.2⟩
set_option maxRecDepth 20000 in
/-- GraspJudgeModel.wrongAt -/
theorem st_209 {E : gj_E} {Q : Int32 → gj_I → gj_J → Prop} (a1 : Int32) (a2 : Int32) (SI : gj_I) (SJ : gj_J) (h : Q (i3 0) (gj_u2 SI 81 16 (((i3 (-1000)) * a1) - a2)) SJ) : DoI E 209 [(.ref 81), (.int a1), (.int a2)] SI SJ Q := by
  refine gj_start (M := mt_209) ok_209 (Nat.le_of_ble_eq_true rfl) ?_
  refine gj_goq gj_clT ok_209 [] ?_
  show ((i3 0) = 0 ∨ (i3 0) = 1) ∧ (QI Q (some (.int (i3 0))) (gj_u2 SI 81 16 (((i3 (-1000)) * a1) - a2)) SJ)
  refine ⟨(Or.inl rfl), ?_⟩
  exact ⟨_, rfl, h⟩
set_option maxRecDepth 20000 in
/-- GraspJudgeModel.takesSign -/
theorem st_210 {E : gj_E} {Q : Int32 → gj_I → gj_J → Prop} (a1 : Int32) (SI : gj_I) (SJ : gj_J) (h : DoI E 207 [(.ref 81)] SI SJ (fun r1 SI2 SJ2 => (r1 = a1 → Q (i3 1) (gj_u2 SI2 81 14 ((SI2 81 14) + (i3 1))) SJ2) ∧ (¬ r1 = a1 → DoI E 209 [(.ref 81), (.int (i3 1)), (.int (SI2 81 14))] SI2 SJ2 (fun r3 SI4 SJ4 => (r3 = 0 ∨ r3 = 1) ∧ (Q r3 SI4 SJ4))))) : DoI E 210 [(.ref 81), (.int a1)] SI SJ Q := by
  refine gj_start (M := mt_210) ok_210 (Nat.le_of_ble_eq_true rfl) ?_
  refine gj_goq gj_clT ok_210 [4, 17] ?_
  show gj_Do E om0 (gj_mt 207) [(.ref 81)] SI SJ _
  refine gj_Do.mono h (fun v_ SI2 SJ2 h_ => ?_)
  obtain ⟨r1, rfl, q1⟩ := h_
  show gj_Goes E om0 mt_210 4 [some (.ref 81), some (.int a1)] [(.int r1)] SI2 SJ2 (QI Q)
  refine gj_goq gj_clT ok_210 [4, 17] ?_
  show (r1 = a1 → gj_Goes E om0 mt_210 18 [some (.ref 81), some (.int a1)] [] SI2 SJ2 (QI Q)) ∧ (¬ r1 = a1 → gj_Do E om0 (gj_mt 209) [(.ref 81), (.int (i3 1)), (.int (SI2 81 14))] SI2 SJ2 _)
  refine ⟨fun c2 => ?_, fun c2 => ?_⟩
  · refine gj_goq gj_clT ok_210 [4, 17] ?_
    show ((i3 1) = 0 ∨ (i3 1) = 1) ∧ (QI Q (some (.int (i3 1))) (gj_u2 SI2 81 14 ((SI2 81 14) + (i3 1))) SJ2)
    refine ⟨(Or.inr rfl), ?_⟩
    exact ⟨_, rfl, (q1.1 c2)⟩
  · refine gj_Do.mono (q1.2 c2) (fun v_ SI4 SJ4 h_ => ?_)
    obtain ⟨r3, rfl, q3⟩ := h_
    show gj_Goes E om0 mt_210 17 [some (.ref 81), some (.int a1)] [(.int r3)] SI4 SJ4 (QI Q)
    refine gj_goq gj_clT ok_210 [4, 17] ?_
    show (r3 = 0 ∨ r3 = 1) ∧ (QI Q (some (.int r3)) SI4 SJ4)
    have k4 := q3.1
    refine ⟨k4, ?_⟩
    exact ⟨_, rfl, q3.2⟩
set_option maxRecDepth 20000 in
/-- GraspJudgeModel.readsNumber -/
theorem st_211 {E : gj_E} {Q : Int32 → gj_I → gj_J → Prop} (a1 : Int32) (a2 : Int32) (SI : gj_I) (SJ : gj_J) (h : (a2 = 0 → ((i3 0) = 0 → DoI E 208 [(.ref 81)] SI SJ (fun r1 SI2 SJ2 => (¬ r1 = 0 → GoI E mt_211 61 [some (.ref 81), some (.int a1), none, some (.int (i3 0)), some (.int (SI 81 14))] (gj_u2 SI2 81 17 (i3 0)) SJ2 Q) ∧ (r1 = 0 → DoI E 209 [(.ref 81), (.int (i3 1)), (.int (SI2 81 14))] SI2 SJ2 (fun r3 SI4 SJ4 => (r3 = 0 ∨ r3 = 1) ∧ (Q r3 SI4 SJ4))))) ∧ (¬ (i3 0) = 0 → DoI E 208 [(.ref 81)] (gj_u2 SI 81 14 ((SI 81 14) + (i3 1))) SJ (fun r5 SI6 SJ6 => (¬ r5 = 0 → GoI E mt_211 61 [some (.ref 81), some (.int a1), none, some (.int (i3 0)), some (.int ((SI 81 14) + (i3 1)))] (gj_u2 SI6 81 17 (i3 0)) SJ6 Q) ∧ (r5 = 0 → DoI E 209 [(.ref 81), (.int (i3 1)), (.int (SI6 81 14))] SI6 SJ6 (fun r7 SI8 SJ8 => (r7 = 0 ∨ r7 = 1) ∧ (Q r7 SI8 SJ8)))))) ∧ (¬ a2 = 0 → DoI E 207 [(.ref 81)] SI SJ (fun r9 SI10 SJ10 => (¬ r9 = (i3 45) → ((i3 0) = 0 → DoI E 208 [(.ref 81)] SI10 SJ10 (fun r11 SI12 SJ12 => (¬ r11 = 0 → GoI E mt_211 61 [some (.ref 81), some (.int a1), none, some (.int (i3 0)), some (.int (SI10 81 14))] (gj_u2 SI12 81 17 (i3 0)) SJ12 Q) ∧ (r11 = 0 → DoI E 209 [(.ref 81), (.int (i3 1)), (.int (SI12 81 14))] SI12 SJ12 (fun r13 SI14 SJ14 => (r13 = 0 ∨ r13 = 1) ∧ (Q r13 SI14 SJ14))))) ∧ (¬ (i3 0) = 0 → DoI E 208 [(.ref 81)] (gj_u2 SI10 81 14 ((SI10 81 14) + (i3 1))) SJ10 (fun r15 SI16 SJ16 => (¬ r15 = 0 → GoI E mt_211 61 [some (.ref 81), some (.int a1), none, some (.int (i3 0)), some (.int ((SI10 81 14) + (i3 1)))] (gj_u2 SI16 81 17 (i3 0)) SJ16 Q) ∧ (r15 = 0 → DoI E 209 [(.ref 81), (.int (i3 1)), (.int (SI16 81 14))] SI16 SJ16 (fun r17 SI18 SJ18 => (r17 = 0 ∨ r17 = 1) ∧ (Q r17 SI18 SJ18)))))) ∧ (r9 = (i3 45) → ((i3 1) = 0 → DoI E 208 [(.ref 81)] SI10 SJ10 (fun r19 SI20 SJ20 => (¬ r19 = 0 → GoI E mt_211 61 [some (.ref 81), some (.int a1), none, some (.int (i3 1)), some (.int (SI10 81 14))] (gj_u2 SI20 81 17 (i3 0)) SJ20 Q) ∧ (r19 = 0 → DoI E 209 [(.ref 81), (.int (i3 1)), (.int (SI20 81 14))] SI20 SJ20 (fun r21 SI22 SJ22 => (r21 = 0 ∨ r21 = 1) ∧ (Q r21 SI22 SJ22))))) ∧ (¬ (i3 1) = 0 → DoI E 208 [(.ref 81)] (gj_u2 SI10 81 14 ((SI10 81 14) + (i3 1))) SJ10 (fun r23 SI24 SJ24 => (¬ r23 = 0 → GoI E mt_211 61 [some (.ref 81), some (.int a1), none, some (.int (i3 1)), some (.int ((SI10 81 14) + (i3 1)))] (gj_u2 SI24 81 17 (i3 0)) SJ24 Q) ∧ (r23 = 0 → DoI E 209 [(.ref 81), (.int (i3 1)), (.int (SI24 81 14))] SI24 SJ24 (fun r25 SI26 SJ26 => (r25 = 0 ∨ r25 = 1) ∧ (Q r25 SI26 SJ26))))))))) : DoI E 211 [(.ref 81), (.int a1), (.int a2)] SI SJ Q := by
  refine gj_start (M := mt_211) ok_211 (Nat.le_of_ble_eq_true rfl) ?_
  refine gj_goq gj_clT ok_211 [8, 43, 55, 61, 65, 97, 110] ?_
  show (a2 = 0 → gj_Goes E om0 mt_211 17 [some (.ref 81), some (.int a1), some (.int a2), none, none] [] SI SJ (QI Q)) ∧ (¬ a2 = 0 → gj_Do E om0 (gj_mt 207) [(.ref 81)] SI SJ _)
  refine ⟨fun c1 => ?_, fun c1 => ?_⟩
  · refine gj_goq gj_clT ok_211 [8, 43, 55, 61, 65, 97, 110] ?_
    show ((i3 0) = 0 → gj_Goes E om0 mt_211 33 [some (.ref 81), some (.int a1), some (.int a2), some (.int (i3 0)), none] [] SI SJ (QI Q)) ∧ (¬ (i3 0) = 0 → gj_Do E om0 (gj_mt 208) [(.ref 81)] (gj_u2 SI 81 14 ((SI 81 14) + (i3 1))) SJ _)
    refine ⟨fun c2 => ?_, fun c2 => ?_⟩
    · refine gj_goq gj_clT ok_211 [8, 43, 55, 61, 65, 97, 110] ?_
      show gj_Do E om0 (gj_mt 208) [(.ref 81)] SI SJ _
      refine gj_Do.mono ((h.1 c1).1 c2) (fun v_ SI2 SJ2 h_ => ?_)
      obtain ⟨r1, rfl, q3⟩ := h_
      show gj_Goes E om0 mt_211 43 [some (.ref 81), some (.int a1), some (.int a2), some (.int (i3 0)), some (.int (SI 81 14))] [(.int r1)] SI2 SJ2 (QI Q)
      refine gj_goq gj_clT ok_211 [8, 43, 55, 61, 65, 97, 110] ?_
      show (¬ r1 = 0 → gj_Goes E om0 mt_211 56 [some (.ref 81), some (.int a1), some (.int a2), some (.int (i3 0)), some (.int (SI 81 14))] [] SI2 SJ2 (QI Q)) ∧ (r1 = 0 → gj_Do E om0 (gj_mt 209) [(.ref 81), (.int (i3 1)), (.int (SI2 81 14))] SI2 SJ2 _)
      refine ⟨fun c4 => ?_, fun c4 => ?_⟩
      · refine gj_goq gj_clT ok_211 [8, 43, 55, 61, 65, 97, 110] ?_
        show gj_Goes E om0 mt_211 61 [some (.ref 81), some (.int a1), some (.int a2), some (.int (i3 0)), some (.int (SI 81 14))] [] (gj_u2 SI2 81 17 (i3 0)) SJ2 (QI Q)
        exact gj_fh (q3.1 c4) (And.intro (Or.inr rfl) (And.intro (Or.inr rfl) (And.intro (Or.inl rfl) (And.intro (Or.inr rfl) (And.intro (Or.inr rfl) trivial)))))
      · refine gj_Do.mono (q3.2 c4) (fun v_ SI4 SJ4 h_ => ?_)
        obtain ⟨r3, rfl, q5⟩ := h_
        show gj_Goes E om0 mt_211 55 [some (.ref 81), some (.int a1), some (.int a2), some (.int (i3 0)), some (.int (SI 81 14))] [(.int r3)] SI4 SJ4 (QI Q)
        refine gj_goq gj_clT ok_211 [8, 43, 55, 61, 65, 97, 110] ?_
        show (r3 = 0 ∨ r3 = 1) ∧ (QI Q (some (.int r3)) SI4 SJ4)
        have k6 := q5.1
        refine ⟨k6, ?_⟩
        exact ⟨_, rfl, q5.2⟩
    · refine gj_Do.mono ((h.1 c1).2 c2) (fun v_ SI6 SJ6 h_ => ?_)
      obtain ⟨r5, rfl, q7⟩ := h_
      show gj_Goes E om0 mt_211 43 [some (.ref 81), some (.int a1), some (.int a2), some (.int (i3 0)), some (.int ((SI 81 14) + (i3 1)))] [(.int r5)] SI6 SJ6 (QI Q)
      refine gj_goq gj_clT ok_211 [8, 43, 55, 61, 65, 97, 110] ?_
      show (¬ r5 = 0 → gj_Goes E om0 mt_211 56 [some (.ref 81), some (.int a1), some (.int a2), some (.int (i3 0)), some (.int ((SI 81 14) + (i3 1)))] [] SI6 SJ6 (QI Q)) ∧ (r5 = 0 → gj_Do E om0 (gj_mt 209) [(.ref 81), (.int (i3 1)), (.int (SI6 81 14))] SI6 SJ6 _)
      refine ⟨fun c8 => ?_, fun c8 => ?_⟩
      · refine gj_goq gj_clT ok_211 [8, 43, 55, 61, 65, 97, 110] ?_
        show gj_Goes E om0 mt_211 61 [some (.ref 81), some (.int a1), some (.int a2), some (.int (i3 0)), some (.int ((SI 81 14) + (i3 1)))] [] (gj_u2 SI6 81 17 (i3 0)) SJ6 (QI Q)
        exact gj_fh (q7.1 c8) (And.intro (Or.inr rfl) (And.intro (Or.inr rfl) (And.intro (Or.inl rfl) (And.intro (Or.inr rfl) (And.intro (Or.inr rfl) trivial)))))
      · refine gj_Do.mono (q7.2 c8) (fun v_ SI8 SJ8 h_ => ?_)
        obtain ⟨r7, rfl, q9⟩ := h_
        show gj_Goes E om0 mt_211 55 [some (.ref 81), some (.int a1), some (.int a2), some (.int (i3 0)), some (.int ((SI 81 14) + (i3 1)))] [(.int r7)] SI8 SJ8 (QI Q)
        refine gj_goq gj_clT ok_211 [8, 43, 55, 61, 65, 97, 110] ?_
        show (r7 = 0 ∨ r7 = 1) ∧ (QI Q (some (.int r7)) SI8 SJ8)
        have k10 := q9.1
        refine ⟨k10, ?_⟩
        exact ⟨_, rfl, q9.2⟩
  · refine gj_Do.mono (h.2 c1) (fun v_ SI10 SJ10 h_ => ?_)
    obtain ⟨r9, rfl, q11⟩ := h_
    show gj_Goes E om0 mt_211 8 [some (.ref 81), some (.int a1), some (.int a2), none, none] [(.int r9)] SI10 SJ10 (QI Q)
    refine gj_goq gj_clT ok_211 [8, 43, 55, 61, 65, 97, 110] ?_
    show (¬ r9 = (i3 45) → gj_Goes E om0 mt_211 17 [some (.ref 81), some (.int a1), some (.int a2), none, none] [] SI10 SJ10 (QI Q)) ∧ (r9 = (i3 45) → gj_Goes E om0 mt_211 18 [some (.ref 81), some (.int a1), some (.int a2), none, none] [(.int (i3 1))] SI10 SJ10 (QI Q))
    refine ⟨fun c12 => ?_, fun c12 => ?_⟩
    · refine gj_goq gj_clT ok_211 [8, 43, 55, 61, 65, 97, 110] ?_
      show ((i3 0) = 0 → gj_Goes E om0 mt_211 33 [some (.ref 81), some (.int a1), some (.int a2), some (.int (i3 0)), none] [] SI10 SJ10 (QI Q)) ∧ (¬ (i3 0) = 0 → gj_Do E om0 (gj_mt 208) [(.ref 81)] (gj_u2 SI10 81 14 ((SI10 81 14) + (i3 1))) SJ10 _)
      refine ⟨fun c13 => ?_, fun c13 => ?_⟩
      · refine gj_goq gj_clT ok_211 [8, 43, 55, 61, 65, 97, 110] ?_
        show gj_Do E om0 (gj_mt 208) [(.ref 81)] SI10 SJ10 _
        refine gj_Do.mono ((q11.1 c12).1 c13) (fun v_ SI12 SJ12 h_ => ?_)
        obtain ⟨r11, rfl, q14⟩ := h_
        show gj_Goes E om0 mt_211 43 [some (.ref 81), some (.int a1), some (.int a2), some (.int (i3 0)), some (.int (SI10 81 14))] [(.int r11)] SI12 SJ12 (QI Q)
        refine gj_goq gj_clT ok_211 [8, 43, 55, 61, 65, 97, 110] ?_
        show (¬ r11 = 0 → gj_Goes E om0 mt_211 56 [some (.ref 81), some (.int a1), some (.int a2), some (.int (i3 0)), some (.int (SI10 81 14))] [] SI12 SJ12 (QI Q)) ∧ (r11 = 0 → gj_Do E om0 (gj_mt 209) [(.ref 81), (.int (i3 1)), (.int (SI12 81 14))] SI12 SJ12 _)
        refine ⟨fun c15 => ?_, fun c15 => ?_⟩
        · refine gj_goq gj_clT ok_211 [8, 43, 55, 61, 65, 97, 110] ?_
          show gj_Goes E om0 mt_211 61 [some (.ref 81), some (.int a1), some (.int a2), some (.int (i3 0)), some (.int (SI10 81 14))] [] (gj_u2 SI12 81 17 (i3 0)) SJ12 (QI Q)
          exact gj_fh (q14.1 c15) (And.intro (Or.inr rfl) (And.intro (Or.inr rfl) (And.intro (Or.inl rfl) (And.intro (Or.inr rfl) (And.intro (Or.inr rfl) trivial)))))
        · refine gj_Do.mono (q14.2 c15) (fun v_ SI14 SJ14 h_ => ?_)
          obtain ⟨r13, rfl, q16⟩ := h_
          show gj_Goes E om0 mt_211 55 [some (.ref 81), some (.int a1), some (.int a2), some (.int (i3 0)), some (.int (SI10 81 14))] [(.int r13)] SI14 SJ14 (QI Q)
          refine gj_goq gj_clT ok_211 [8, 43, 55, 61, 65, 97, 110] ?_
          show (r13 = 0 ∨ r13 = 1) ∧ (QI Q (some (.int r13)) SI14 SJ14)
          have k17 := q16.1
          refine ⟨k17, ?_⟩
          exact ⟨_, rfl, q16.2⟩
      · refine gj_Do.mono ((q11.1 c12).2 c13) (fun v_ SI16 SJ16 h_ => ?_)
        obtain ⟨r15, rfl, q18⟩ := h_
        show gj_Goes E om0 mt_211 43 [some (.ref 81), some (.int a1), some (.int a2), some (.int (i3 0)), some (.int ((SI10 81 14) + (i3 1)))] [(.int r15)] SI16 SJ16 (QI Q)
        refine gj_goq gj_clT ok_211 [8, 43, 55, 61, 65, 97, 110] ?_
        show (¬ r15 = 0 → gj_Goes E om0 mt_211 56 [some (.ref 81), some (.int a1), some (.int a2), some (.int (i3 0)), some (.int ((SI10 81 14) + (i3 1)))] [] SI16 SJ16 (QI Q)) ∧ (r15 = 0 → gj_Do E om0 (gj_mt 209) [(.ref 81), (.int (i3 1)), (.int (SI16 81 14))] SI16 SJ16 _)
        refine ⟨fun c19 => ?_, fun c19 => ?_⟩
        · refine gj_goq gj_clT ok_211 [8, 43, 55, 61, 65, 97, 110] ?_
          show gj_Goes E om0 mt_211 61 [some (.ref 81), some (.int a1), some (.int a2), some (.int (i3 0)), some (.int ((SI10 81 14) + (i3 1)))] [] (gj_u2 SI16 81 17 (i3 0)) SJ16 (QI Q)
          exact gj_fh (q18.1 c19) (And.intro (Or.inr rfl) (And.intro (Or.inr rfl) (And.intro (Or.inl rfl) (And.intro (Or.inr rfl) (And.intro (Or.inr rfl) trivial)))))
        · refine gj_Do.mono (q18.2 c19) (fun v_ SI18 SJ18 h_ => ?_)
          obtain ⟨r17, rfl, q20⟩ := h_
          show gj_Goes E om0 mt_211 55 [some (.ref 81), some (.int a1), some (.int a2), some (.int (i3 0)), some (.int ((SI10 81 14) + (i3 1)))] [(.int r17)] SI18 SJ18 (QI Q)
          refine gj_goq gj_clT ok_211 [8, 43, 55, 61, 65, 97, 110] ?_
          show (r17 = 0 ∨ r17 = 1) ∧ (QI Q (some (.int r17)) SI18 SJ18)
          have k21 := q20.1
          refine ⟨k21, ?_⟩
          exact ⟨_, rfl, q20.2⟩
    · refine gj_goq gj_clT ok_211 [8, 43, 55, 61, 65, 97, 110] ?_
      show ((i3 1) = 0 → gj_Goes E om0 mt_211 33 [some (.ref 81), some (.int a1), some (.int a2), some (.int (i3 1)), none] [] SI10 SJ10 (QI Q)) ∧ (¬ (i3 1) = 0 → gj_Do E om0 (gj_mt 208) [(.ref 81)] (gj_u2 SI10 81 14 ((SI10 81 14) + (i3 1))) SJ10 _)
      refine ⟨fun c22 => ?_, fun c22 => ?_⟩
      · refine gj_goq gj_clT ok_211 [8, 43, 55, 61, 65, 97, 110] ?_
        show gj_Do E om0 (gj_mt 208) [(.ref 81)] SI10 SJ10 _
        refine gj_Do.mono ((q11.2 c12).1 c22) (fun v_ SI20 SJ20 h_ => ?_)
        obtain ⟨r19, rfl, q23⟩ := h_
        show gj_Goes E om0 mt_211 43 [some (.ref 81), some (.int a1), some (.int a2), some (.int (i3 1)), some (.int (SI10 81 14))] [(.int r19)] SI20 SJ20 (QI Q)
        refine gj_goq gj_clT ok_211 [8, 43, 55, 61, 65, 97, 110] ?_
        show (¬ r19 = 0 → gj_Goes E om0 mt_211 56 [some (.ref 81), some (.int a1), some (.int a2), some (.int (i3 1)), some (.int (SI10 81 14))] [] SI20 SJ20 (QI Q)) ∧ (r19 = 0 → gj_Do E om0 (gj_mt 209) [(.ref 81), (.int (i3 1)), (.int (SI20 81 14))] SI20 SJ20 _)
        refine ⟨fun c24 => ?_, fun c24 => ?_⟩
        · refine gj_goq gj_clT ok_211 [8, 43, 55, 61, 65, 97, 110] ?_
          show gj_Goes E om0 mt_211 61 [some (.ref 81), some (.int a1), some (.int a2), some (.int (i3 1)), some (.int (SI10 81 14))] [] (gj_u2 SI20 81 17 (i3 0)) SJ20 (QI Q)
          exact gj_fh (q23.1 c24) (And.intro (Or.inr rfl) (And.intro (Or.inr rfl) (And.intro (Or.inl rfl) (And.intro (Or.inr rfl) (And.intro (Or.inr rfl) trivial)))))
        · refine gj_Do.mono (q23.2 c24) (fun v_ SI22 SJ22 h_ => ?_)
          obtain ⟨r21, rfl, q25⟩ := h_
          show gj_Goes E om0 mt_211 55 [some (.ref 81), some (.int a1), some (.int a2), some (.int (i3 1)), some (.int (SI10 81 14))] [(.int r21)] SI22 SJ22 (QI Q)
          refine gj_goq gj_clT ok_211 [8, 43, 55, 61, 65, 97, 110] ?_
          show (r21 = 0 ∨ r21 = 1) ∧ (QI Q (some (.int r21)) SI22 SJ22)
          have k26 := q25.1
          refine ⟨k26, ?_⟩
          exact ⟨_, rfl, q25.2⟩
      · refine gj_Do.mono ((q11.2 c12).2 c22) (fun v_ SI24 SJ24 h_ => ?_)
        obtain ⟨r23, rfl, q27⟩ := h_
        show gj_Goes E om0 mt_211 43 [some (.ref 81), some (.int a1), some (.int a2), some (.int (i3 1)), some (.int ((SI10 81 14) + (i3 1)))] [(.int r23)] SI24 SJ24 (QI Q)
        refine gj_goq gj_clT ok_211 [8, 43, 55, 61, 65, 97, 110] ?_
        show (¬ r23 = 0 → gj_Goes E om0 mt_211 56 [some (.ref 81), some (.int a1), some (.int a2), some (.int (i3 1)), some (.int ((SI10 81 14) + (i3 1)))] [] SI24 SJ24 (QI Q)) ∧ (r23 = 0 → gj_Do E om0 (gj_mt 209) [(.ref 81), (.int (i3 1)), (.int (SI24 81 14))] SI24 SJ24 _)
        refine ⟨fun c28 => ?_, fun c28 => ?_⟩
        · refine gj_goq gj_clT ok_211 [8, 43, 55, 61, 65, 97, 110] ?_
          show gj_Goes E om0 mt_211 61 [some (.ref 81), some (.int a1), some (.int a2), some (.int (i3 1)), some (.int ((SI10 81 14) + (i3 1)))] [] (gj_u2 SI24 81 17 (i3 0)) SJ24 (QI Q)
          exact gj_fh (q27.1 c28) (And.intro (Or.inr rfl) (And.intro (Or.inr rfl) (And.intro (Or.inl rfl) (And.intro (Or.inr rfl) (And.intro (Or.inr rfl) trivial)))))
        · refine gj_Do.mono (q27.2 c28) (fun v_ SI26 SJ26 h_ => ?_)
          obtain ⟨r25, rfl, q29⟩ := h_
          show gj_Goes E om0 mt_211 55 [some (.ref 81), some (.int a1), some (.int a2), some (.int (i3 1)), some (.int ((SI10 81 14) + (i3 1)))] [(.int r25)] SI26 SJ26 (QI Q)
          refine gj_goq gj_clT ok_211 [8, 43, 55, 61, 65, 97, 110] ?_
          show (r25 = 0 ∨ r25 = 1) ∧ (QI Q (some (.int r25)) SI26 SJ26)
          have k30 := q29.1
          refine ⟨k30, ?_⟩
          exact ⟨_, rfl, q29.2⟩
set_option maxRecDepth 20000 in
theorem lp_211_61 {E : gj_E} {Q : Int32 → gj_I → gj_J → Prop} (x1 : Int32) (x3 : Int32) (x4 : Int32) (SI : gj_I) (SJ : gj_J) (h : DoI E 208 [(.ref 81)] SI SJ (fun r1 SI2 SJ2 => (r1 = 0 → (x3 = 0 → Q (i3 1) SI2 SJ2) ∧ (¬ x3 = 0 → Q (i3 1) (gj_u2 SI2 81 17 (-(SI2 81 17))) SJ2)) ∧ (¬ r1 = 0 → (¬ (SI2 81 14) = (x4 + x1) → DoI E 207 [(.ref 81)] SI2 SJ2 (fun r3 SI4 SJ4 => GoI E mt_211 61 [some (.ref 81), some (.int x1), none, some (.int x3), some (.int x4)] (gj_u2 (gj_u2 SI4 81 17 ((((i3 10) * (SI2 81 17)) + r3) - (i3 48))) 81 14 ((SI4 81 14) + (i3 1))) SJ4 Q)) ∧ ((SI2 81 14) = (x4 + x1) → (¬ x1 = (i3 1) → DoI E 209 [(.ref 81), (.int (i3 2)), (.int (SI2 81 14))] SI2 SJ2 (fun r5 SI6 SJ6 => (r5 = 0 ∨ r5 = 1) ∧ (Q r5 SI6 SJ6))) ∧ (x1 = (i3 1) → Q (i3 1) SI2 SJ2))))) : GoI E mt_211 61 [some (.ref 81), some (.int x1), none, some (.int x3), some (.int x4)] SI SJ Q := by
  refine gj_goq gj_clT ok_211 [8, 43, 55, 61, 65, 97, 110] ?_
  show gj_Do E om0 (gj_mt 208) [(.ref 81)] SI SJ _
  refine gj_Do.mono h (fun v_ SI2 SJ2 h_ => ?_)
  obtain ⟨r1, rfl, q1⟩ := h_
  show gj_Goes E om0 mt_211 65 [some (.ref 81), some (.int x1), none, some (.int x3), some (.int x4)] [(.int r1)] SI2 SJ2 (QI Q)
  refine gj_goq gj_clT ok_211 [8, 43, 55, 61, 65, 97, 110] ?_
  show (r1 = 0 → gj_Goes E om0 mt_211 130 [some (.ref 81), some (.int x1), none, some (.int x3), some (.int x4)] [] SI2 SJ2 (QI Q)) ∧ (¬ r1 = 0 → (¬ (SI2 81 14) = (x4 + x1) → gj_Goes E om0 mt_211 98 [some (.ref 81), some (.int x1), none, some (.int x3), some (.int x4)] [] SI2 SJ2 (QI Q)) ∧ ((SI2 81 14) = (x4 + x1) → (¬ x1 = (i3 1) → gj_Goes E om0 mt_211 88 [some (.ref 81), some (.int x1), none, some (.int x3), some (.int x4)] [] SI2 SJ2 (QI Q)) ∧ (x1 = (i3 1) → gj_Goes E om0 mt_211 97 [some (.ref 81), some (.int x1), none, some (.int x3), some (.int x4)] [(.int (i3 1))] SI2 SJ2 (QI Q))))
  refine ⟨fun c2 => ?_, fun c2 => ?_⟩
  · refine gj_goq gj_clT ok_211 [8, 43, 55, 61, 65, 97, 110] ?_
    show (x3 = 0 → gj_Goes E om0 mt_211 143 [some (.ref 81), some (.int x1), none, some (.int x3), some (.int x4)] [] SI2 SJ2 (QI Q)) ∧ (¬ x3 = 0 → ((i3 1) = 0 ∨ (i3 1) = 1) ∧ (QI Q (some (.int (i3 1))) (gj_u2 SI2 81 17 (-(SI2 81 17))) SJ2))
    refine ⟨fun c3 => ?_, fun c3 => ?_⟩
    · refine gj_goq gj_clT ok_211 [8, 43, 55, 61, 65, 97, 110] ?_
      show ((i3 1) = 0 ∨ (i3 1) = 1) ∧ (QI Q (some (.int (i3 1))) SI2 SJ2)
      refine ⟨(Or.inr rfl), ?_⟩
      exact ⟨_, rfl, ((q1.1 c2).1 c3)⟩
    · refine ⟨(Or.inr rfl), ?_⟩
      exact ⟨_, rfl, ((q1.1 c2).2 c3)⟩
  · refine ⟨fun c4 => ?_, fun c4 => ?_⟩
    · refine gj_goq gj_clT ok_211 [8, 43, 55, 61, 65, 97, 110] ?_
      show gj_Do E om0 (gj_mt 207) [(.ref 81)] SI2 SJ2 _
      refine gj_Do.mono ((q1.2 c2).1 c4) (fun v_ SI4 SJ4 h_ => ?_)
      obtain ⟨r3, rfl, q5⟩ := h_
      show gj_Goes E om0 mt_211 110 [some (.ref 81), some (.int x1), none, some (.int x3), some (.int x4)] [(.int r3), (.int ((i3 10) * (SI2 81 17))), (.ref 81)] SI4 SJ4 (QI Q)
      refine gj_goq gj_clT ok_211 [8, 43, 55, 61, 65, 97, 110] ?_
      show gj_Goes E om0 mt_211 61 [some (.ref 81), some (.int x1), none, some (.int x3), some (.int x4)] [] (gj_u2 (gj_u2 SI4 81 17 ((((i3 10) * (SI2 81 17)) + r3) - (i3 48))) 81 14 ((SI4 81 14) + (i3 1))) SJ4 (QI Q)
      exact q5
    · refine ⟨fun c6 => ?_, fun c6 => ?_⟩
      · refine gj_goq gj_clT ok_211 [8, 43, 55, 61, 65, 97, 110] ?_
        show gj_Do E om0 (gj_mt 209) [(.ref 81), (.int (i3 2)), (.int (SI2 81 14))] SI2 SJ2 _
        refine gj_Do.mono (((q1.2 c2).2 c4).1 c6) (fun v_ SI6 SJ6 h_ => ?_)
        obtain ⟨r5, rfl, q7⟩ := h_
        show gj_Goes E om0 mt_211 97 [some (.ref 81), some (.int x1), none, some (.int x3), some (.int x4)] [(.int r5)] SI6 SJ6 (QI Q)
        refine gj_goq gj_clT ok_211 [8, 43, 55, 61, 65, 97, 110] ?_
        show (r5 = 0 ∨ r5 = 1) ∧ (QI Q (some (.int r5)) SI6 SJ6)
        have k8 := q7.1
        refine ⟨k8, ?_⟩
        exact ⟨_, rfl, q7.2⟩
      · refine gj_goq gj_clT ok_211 [8, 43, 55, 61, 65, 97, 110] ?_
        show ((i3 1) = 0 ∨ (i3 1) = 1) ∧ (QI Q (some (.int (i3 1))) SI2 SJ2)
        refine ⟨(Or.inr rfl), ?_⟩
        exact ⟨_, rfl, (((q1.2 c2).2 c4).2 c6)⟩
set_option maxRecDepth 20000 in
/-- GraspJudgeModel.begins -/
theorem st_212 {E : gj_E} {Q : Int32 → gj_I → gj_J → Prop} (a1 : Int32) (a2 : Int32) (SI : gj_I) (SJ : gj_J) (h : DoI E 155 [(.long (a1).toInt64), (.long (i6 1)), (.long (a2).toInt64)] SI SJ (fun r1 SI2 SJ2 => (r1 = 0 → Q (i3 0) SI2 SJ2) ∧ (¬ r1 = 0 → (a1 ≤ (SI2 81 13) → Q (i3 1) (gj_u2 (gj_u2 (gj_u2 SI2 81 14 (i3 0)) 81 15 a1) 81 13 (i3 0)) SJ2) ∧ (¬ a1 ≤ (SI2 81 13) → Q (i3 0) SI2 SJ2)))) : DoI E 212 [(.ref 81), (.int a1), (.int a2)] SI SJ Q := by
  refine gj_start (M := mt_212) ok_212 (Nat.le_of_ble_eq_true rfl) ?_
  refine gj_goq gj_clT ok_212 [8] ?_
  show gj_Do E om0 (gj_mt 155) [(.long (a1).toInt64), (.long (i6 1)), (.long (a2).toInt64)] SI SJ _
  refine gj_Do.mono h (fun v_ SI2 SJ2 h_ => ?_)
  obtain ⟨r1, rfl, q1⟩ := h_
  show gj_Goes E om0 mt_212 8 [some (.ref 81), some (.int a1), some (.int a2)] [(.int r1)] SI2 SJ2 (QI Q)
  refine gj_goq gj_clT ok_212 [8] ?_
  show (r1 = 0 → gj_Goes E om0 mt_212 19 [some (.ref 81), some (.int a1), some (.int a2)] [] SI2 SJ2 (QI Q)) ∧ (¬ r1 = 0 → (a1 ≤ (SI2 81 13) → gj_Goes E om0 mt_212 21 [some (.ref 81), some (.int a1), some (.int a2)] [] SI2 SJ2 (QI Q)) ∧ (¬ a1 ≤ (SI2 81 13) → ((i3 0) = 0 ∨ (i3 0) = 1) ∧ (QI Q (some (.int (i3 0))) SI2 SJ2)))
  refine ⟨fun c2 => ?_, fun c2 => ?_⟩
  · refine gj_goq gj_clT ok_212 [8] ?_
    show ((i3 0) = 0 ∨ (i3 0) = 1) ∧ (QI Q (some (.int (i3 0))) SI2 SJ2)
    refine ⟨(Or.inl rfl), ?_⟩
    exact ⟨_, rfl, (q1.1 c2)⟩
  · refine ⟨fun c3 => ?_, fun c3 => ?_⟩
    · refine gj_goq gj_clT ok_212 [8] ?_
      show ((i3 1) = 0 ∨ (i3 1) = 1) ∧ (QI Q (some (.int (i3 1))) (gj_u2 (gj_u2 (gj_u2 SI2 81 14 (i3 0)) 81 15 a1) 81 13 (i3 0)) SJ2)
      refine ⟨(Or.inr rfl), ?_⟩
      exact ⟨_, rfl, ((q1.2 c2).1 c3)⟩
    · refine ⟨(Or.inl rfl), ?_⟩
      exact ⟨_, rfl, ((q1.2 c2).2 c3)⟩
set_option maxRecDepth 20000 in
/-- GraspJudgeModel.readsCorner -/
theorem st_213 {E : gj_E} {Q : Int32 → gj_I → gj_J → Prop} (SI : gj_I) (SJ : gj_J) (h : (¬ (SI 81 19) = (i3 8) → DoI E 211 [(.ref 81), (.int (i3 1)), (.int (i3 0))] SI SJ (fun r1 SI2 SJ2 => (¬ r1 = 0 → DoI E 210 [(.ref 81), (.int (i3 44))] SI2 SJ2 (fun r3 SI4 SJ4 => (r3 = 0 → Q (i3 0) SI4 SJ4) ∧ (¬ r3 = 0 → DoI E 211 [(.ref 81), (.int (i3 1)), (.int (i3 0))] SI4 SJ4 (fun r5 SI6 SJ6 => (¬ r5 = 0 → vp_in ((i3 2) * (SI6 81 19)) 40 ∧ (vp_in (((i3 2) * (SI6 81 19)) + (i3 1)) 40 ∧ (Q (i3 1) (gj_u2 (gj_u2 (gj_u2 SI6 90 (gj_n ((i3 2) * (SI6 81 19))) (SI2 81 17)) 90 (gj_n (((i3 2) * (SI6 81 19)) + (i3 1))) (SI6 81 17)) 81 19 ((SI6 81 19) + (i3 1))) SJ6))) ∧ (r5 = 0 → Q (i3 0) SI6 SJ6))))) ∧ (r1 = 0 → Q (i3 0) SI2 SJ2))) ∧ ((SI 81 19) = (i3 8) → DoI E 208 [(.ref 81)] SI SJ (fun r7 SI8 SJ8 => (r7 = 0 → DoI E 211 [(.ref 81), (.int (i3 1)), (.int (i3 0))] SI8 SJ8 (fun r9 SI10 SJ10 => (¬ r9 = 0 → DoI E 210 [(.ref 81), (.int (i3 44))] SI10 SJ10 (fun r11 SI12 SJ12 => (r11 = 0 → Q (i3 0) SI12 SJ12) ∧ (¬ r11 = 0 → DoI E 211 [(.ref 81), (.int (i3 1)), (.int (i3 0))] SI12 SJ12 (fun r13 SI14 SJ14 => (¬ r13 = 0 → vp_in ((i3 2) * (SI14 81 19)) 40 ∧ (vp_in (((i3 2) * (SI14 81 19)) + (i3 1)) 40 ∧ (Q (i3 1) (gj_u2 (gj_u2 (gj_u2 SI14 90 (gj_n ((i3 2) * (SI14 81 19))) (SI10 81 17)) 90 (gj_n (((i3 2) * (SI14 81 19)) + (i3 1))) (SI14 81 17)) 81 19 ((SI14 81 19) + (i3 1))) SJ14))) ∧ (r13 = 0 → Q (i3 0) SI14 SJ14))))) ∧ (r9 = 0 → Q (i3 0) SI10 SJ10))) ∧ (¬ r7 = 0 → DoI E 209 [(.ref 81), (.int (i3 4)), (.int (SI8 81 14))] SI8 SJ8 (fun r15 SI16 SJ16 => (r15 = 0 ∨ r15 = 1) ∧ (Q r15 SI16 SJ16)))))) : DoI E 213 [(.ref 81)] SI SJ Q := by
  refine gj_start (M := mt_213) ok_213 (Nat.le_of_ble_eq_true rfl) ?_
  refine gj_goq gj_clT ok_213 [13, 25, 32, 48, 57] ?_
  show (¬ (SI 81 19) = (i3 8) → gj_Goes E om0 mt_213 26 [some (.ref 81), none] [] SI SJ (QI Q)) ∧ ((SI 81 19) = (i3 8) → gj_Do E om0 (gj_mt 208) [(.ref 81)] SI SJ _)
  refine ⟨fun c1 => ?_, fun c1 => ?_⟩
  · refine gj_goq gj_clT ok_213 [13, 25, 32, 48, 57] ?_
    show gj_Do E om0 (gj_mt 211) [(.ref 81), (.int (i3 1)), (.int (i3 0))] SI SJ _
    refine gj_Do.mono (h.1 c1) (fun v_ SI2 SJ2 h_ => ?_)
    obtain ⟨r1, rfl, q2⟩ := h_
    show gj_Goes E om0 mt_213 32 [some (.ref 81), none] [(.int r1)] SI2 SJ2 (QI Q)
    refine gj_goq gj_clT ok_213 [13, 25, 32, 48, 57] ?_
    show (¬ r1 = 0 → gj_Goes E om0 mt_213 37 [some (.ref 81), none] [] SI2 SJ2 (QI Q)) ∧ (r1 = 0 → ((i3 0) = 0 ∨ (i3 0) = 1) ∧ (QI Q (some (.int (i3 0))) SI2 SJ2))
    refine ⟨fun c3 => ?_, fun c3 => ?_⟩
    · refine gj_goq gj_clT ok_213 [13, 25, 32, 48, 57] ?_
      show gj_Do E om0 (gj_mt 210) [(.ref 81), (.int (i3 44))] SI2 SJ2 _
      refine gj_Do.mono (q2.1 c3) (fun v_ SI4 SJ4 h_ => ?_)
      obtain ⟨r3, rfl, q4⟩ := h_
      show gj_Goes E om0 mt_213 48 [some (.ref 81), some (.int (SI2 81 17))] [(.int r3)] SI4 SJ4 (QI Q)
      refine gj_goq gj_clT ok_213 [13, 25, 32, 48, 57] ?_
      show (r3 = 0 → gj_Goes E om0 mt_213 60 [some (.ref 81), some (.int (SI2 81 17))] [] SI4 SJ4 (QI Q)) ∧ (¬ r3 = 0 → gj_Do E om0 (gj_mt 211) [(.ref 81), (.int (i3 1)), (.int (i3 0))] SI4 SJ4 _)
      refine ⟨fun c5 => ?_, fun c5 => ?_⟩
      · refine gj_goq gj_clT ok_213 [13, 25, 32, 48, 57] ?_
        show ((i3 0) = 0 ∨ (i3 0) = 1) ∧ (QI Q (some (.int (i3 0))) SI4 SJ4)
        refine ⟨(Or.inl rfl), ?_⟩
        exact ⟨_, rfl, (q4.1 c5)⟩
      · refine gj_Do.mono (q4.2 c5) (fun v_ SI6 SJ6 h_ => ?_)
        obtain ⟨r5, rfl, q6⟩ := h_
        show gj_Goes E om0 mt_213 57 [some (.ref 81), some (.int (SI2 81 17))] [(.int r5)] SI6 SJ6 (QI Q)
        refine gj_goq gj_clT ok_213 [13, 25, 32, 48, 57] ?_
        show (¬ r5 = 0 → gj_Goes E om0 mt_213 62 [some (.ref 81), some (.int (SI2 81 17))] [] SI6 SJ6 (QI Q)) ∧ (r5 = 0 → ((i3 0) = 0 ∨ (i3 0) = 1) ∧ (QI Q (some (.int (i3 0))) SI6 SJ6))
        refine ⟨fun c7 => ?_, fun c7 => ?_⟩
        · refine gj_goq gj_clT ok_213 [13, 25, 32, 48, 57] ?_
          show vp_in ((i3 2) * (SI6 81 19)) 40 ∧ (vp_in (((i3 2) * (SI6 81 19)) + (i3 1)) 40 ∧ (((i3 1) = 0 ∨ (i3 1) = 1) ∧ (QI Q (some (.int (i3 1))) (gj_u2 (gj_u2 (gj_u2 SI6 90 (gj_n ((i3 2) * (SI6 81 19))) (SI2 81 17)) 90 (gj_n (((i3 2) * (SI6 81 19)) + (i3 1))) (SI6 81 17)) 81 19 ((SI6 81 19) + (i3 1))) SJ6)))
          have k8 := (q6.1 c7).1
          refine ⟨k8, ?_⟩
          have k9 := (q6.1 c7).2.1
          refine ⟨k9, ?_⟩
          refine ⟨(Or.inr rfl), ?_⟩
          exact ⟨_, rfl, (q6.1 c7).2.2⟩
        · refine ⟨(Or.inl rfl), ?_⟩
          exact ⟨_, rfl, (q6.2 c7)⟩
    · refine ⟨(Or.inl rfl), ?_⟩
      exact ⟨_, rfl, (q2.2 c3)⟩
  · refine gj_Do.mono (h.2 c1) (fun v_ SI8 SJ8 h_ => ?_)
    obtain ⟨r7, rfl, q10⟩ := h_
    show gj_Goes E om0 mt_213 13 [some (.ref 81), none] [(.int r7)] SI8 SJ8 (QI Q)
    refine gj_goq gj_clT ok_213 [13, 25, 32, 48, 57] ?_
    show (r7 = 0 → gj_Goes E om0 mt_213 26 [some (.ref 81), none] [] SI8 SJ8 (QI Q)) ∧ (¬ r7 = 0 → gj_Do E om0 (gj_mt 209) [(.ref 81), (.int (i3 4)), (.int (SI8 81 14))] SI8 SJ8 _)
    refine ⟨fun c11 => ?_, fun c11 => ?_⟩
    · refine gj_goq gj_clT ok_213 [13, 25, 32, 48, 57] ?_
      show gj_Do E om0 (gj_mt 211) [(.ref 81), (.int (i3 1)), (.int (i3 0))] SI8 SJ8 _
      refine gj_Do.mono (q10.1 c11) (fun v_ SI10 SJ10 h_ => ?_)
      obtain ⟨r9, rfl, q12⟩ := h_
      show gj_Goes E om0 mt_213 32 [some (.ref 81), none] [(.int r9)] SI10 SJ10 (QI Q)
      refine gj_goq gj_clT ok_213 [13, 25, 32, 48, 57] ?_
      show (¬ r9 = 0 → gj_Goes E om0 mt_213 37 [some (.ref 81), none] [] SI10 SJ10 (QI Q)) ∧ (r9 = 0 → ((i3 0) = 0 ∨ (i3 0) = 1) ∧ (QI Q (some (.int (i3 0))) SI10 SJ10))
      refine ⟨fun c13 => ?_, fun c13 => ?_⟩
      · refine gj_goq gj_clT ok_213 [13, 25, 32, 48, 57] ?_
        show gj_Do E om0 (gj_mt 210) [(.ref 81), (.int (i3 44))] SI10 SJ10 _
        refine gj_Do.mono (q12.1 c13) (fun v_ SI12 SJ12 h_ => ?_)
        obtain ⟨r11, rfl, q14⟩ := h_
        show gj_Goes E om0 mt_213 48 [some (.ref 81), some (.int (SI10 81 17))] [(.int r11)] SI12 SJ12 (QI Q)
        refine gj_goq gj_clT ok_213 [13, 25, 32, 48, 57] ?_
        show (r11 = 0 → gj_Goes E om0 mt_213 60 [some (.ref 81), some (.int (SI10 81 17))] [] SI12 SJ12 (QI Q)) ∧ (¬ r11 = 0 → gj_Do E om0 (gj_mt 211) [(.ref 81), (.int (i3 1)), (.int (i3 0))] SI12 SJ12 _)
        refine ⟨fun c15 => ?_, fun c15 => ?_⟩
        · refine gj_goq gj_clT ok_213 [13, 25, 32, 48, 57] ?_
          show ((i3 0) = 0 ∨ (i3 0) = 1) ∧ (QI Q (some (.int (i3 0))) SI12 SJ12)
          refine ⟨(Or.inl rfl), ?_⟩
          exact ⟨_, rfl, (q14.1 c15)⟩
        · refine gj_Do.mono (q14.2 c15) (fun v_ SI14 SJ14 h_ => ?_)
          obtain ⟨r13, rfl, q16⟩ := h_
          show gj_Goes E om0 mt_213 57 [some (.ref 81), some (.int (SI10 81 17))] [(.int r13)] SI14 SJ14 (QI Q)
          refine gj_goq gj_clT ok_213 [13, 25, 32, 48, 57] ?_
          show (¬ r13 = 0 → gj_Goes E om0 mt_213 62 [some (.ref 81), some (.int (SI10 81 17))] [] SI14 SJ14 (QI Q)) ∧ (r13 = 0 → ((i3 0) = 0 ∨ (i3 0) = 1) ∧ (QI Q (some (.int (i3 0))) SI14 SJ14))
          refine ⟨fun c17 => ?_, fun c17 => ?_⟩
          · refine gj_goq gj_clT ok_213 [13, 25, 32, 48, 57] ?_
            show vp_in ((i3 2) * (SI14 81 19)) 40 ∧ (vp_in (((i3 2) * (SI14 81 19)) + (i3 1)) 40 ∧ (((i3 1) = 0 ∨ (i3 1) = 1) ∧ (QI Q (some (.int (i3 1))) (gj_u2 (gj_u2 (gj_u2 SI14 90 (gj_n ((i3 2) * (SI14 81 19))) (SI10 81 17)) 90 (gj_n (((i3 2) * (SI14 81 19)) + (i3 1))) (SI14 81 17)) 81 19 ((SI14 81 19) + (i3 1))) SJ14)))
            have k18 := (q16.1 c17).1
            refine ⟨k18, ?_⟩
            have k19 := (q16.1 c17).2.1
            refine ⟨k19, ?_⟩
            refine ⟨(Or.inr rfl), ?_⟩
            exact ⟨_, rfl, (q16.1 c17).2.2⟩
          · refine ⟨(Or.inl rfl), ?_⟩
            exact ⟨_, rfl, (q16.2 c17)⟩
      · refine ⟨(Or.inl rfl), ?_⟩
        exact ⟨_, rfl, (q12.2 c13)⟩
    · refine gj_Do.mono (q10.2 c11) (fun v_ SI16 SJ16 h_ => ?_)
      obtain ⟨r15, rfl, q20⟩ := h_
      show gj_Goes E om0 mt_213 25 [some (.ref 81), none] [(.int r15)] SI16 SJ16 (QI Q)
      refine gj_goq gj_clT ok_213 [13, 25, 32, 48, 57] ?_
      show (r15 = 0 ∨ r15 = 1) ∧ (QI Q (some (.int r15)) SI16 SJ16)
      have k21 := q20.1
      refine ⟨k21, ?_⟩
      exact ⟨_, rfl, q20.2⟩
set_option maxRecDepth 20000 in
/-- GraspJudgeModel.lays0 -/
theorem st_214 {E : gj_E} {Q : gj_I → gj_J → Prop} (SI : gj_I) (SJ : gj_J) (h : GoV E mt_214 2 [some (.ref 81), some (.int (i3 0))] SI SJ Q) : DoV E 214 [(.ref 81)] SI SJ Q := by
  refine gj_start (M := mt_214) ok_214 (Nat.le_of_ble_eq_true rfl) ?_
  refine gj_goq gj_clT ok_214 [2, 39] ?_
  show gj_Goes E om0 mt_214 2 [some (.ref 81), some (.int (i3 0))] [] SI SJ (QV Q)
  exact h
set_option maxRecDepth 20000 in
theorem lp_214_2 {E : gj_E} {Q : gj_I → gj_J → Prop} (x1 : Int32) (SI : gj_I) (SJ : gj_J) (h : ((i3 135) ≤ x1 → GoV E mt_214 39 [some (.ref 81), some (.int (i3 0))] (gj_u2 SI 82 0 (SI 81 19)) SJ Q) ∧ (¬ (i3 135) ≤ x1 → vp_in x1 135 ∧ (GoV E mt_214 2 [some (.ref 81), some (.int (x1 + (i3 1)))] (gj_u2 SI 84 (gj_n x1) (SI 82 (gj_n x1))) SJ Q))) : GoV E mt_214 2 [some (.ref 81), some (.int x1)] SI SJ Q := by
  refine gj_goq gj_clT ok_214 [2, 39] ?_
  show ((i3 135) ≤ x1 → gj_Goes E om0 mt_214 27 [some (.ref 81), some (.int x1)] [] SI SJ (QV Q)) ∧ (¬ (i3 135) ≤ x1 → vp_in x1 135 ∧ (vp_in x1 135 ∧ (gj_Goes E om0 mt_214 2 [some (.ref 81), some (.int (x1 + (i3 1)))] [] (gj_u2 SI 84 (gj_n x1) (SI 82 (gj_n x1))) SJ (QV Q))))
  refine ⟨fun c1 => ?_, fun c1 => ?_⟩
  · refine gj_goq gj_clT ok_214 [2, 39] ?_
    show vp_in (i3 0) 135 ∧ (gj_Goes E om0 mt_214 39 [some (.ref 81), some (.int (i3 0))] [] (gj_u2 SI 82 0 (SI 81 19)) SJ (QV Q))
    refine ⟨(gj_vin (by decide)), ?_⟩
    exact (h.1 c1)
  · have k2 := (h.2 c1).1
    refine ⟨k2, ?_⟩
    refine ⟨k2, ?_⟩
    exact (h.2 c1).2
set_option maxRecDepth 20000 in
theorem lp_214_39 {E : gj_E} {Q : gj_I → gj_J → Prop} (x1 : Int32) (SI : gj_I) (SJ : gj_J) (h : ((SI 81 19) ≤ x1 → Q (gj_u2 (gj_u2 (gj_u2 (gj_u2 SI 82 17 (i3 0)) 82 32 (i3 2)) 82 33 (i3 2)) 82 35 (i3 0)) SJ) ∧ (¬ (SI 81 19) ≤ x1 → vp_in ((i3 2) * x1) 40 ∧ (vp_in ((i3 1) + x1) 135 ∧ (vp_in (((i3 2) * x1) + (i3 1)) 40 ∧ (vp_in ((i3 9) + x1) 135 ∧ (GoV E mt_214 39 [some (.ref 81), some (.int (x1 + (i3 1)))] (gj_u2 (gj_u2 SI 82 (gj_n ((i3 1) + x1)) (SI 90 (gj_n ((i3 2) * x1)))) 82 (gj_n ((i3 9) + x1)) (SI 90 (gj_n (((i3 2) * x1) + (i3 1))))) SJ Q)))))) : GoV E mt_214 39 [some (.ref 81), some (.int x1)] SI SJ Q := by
  refine gj_goq gj_clT ok_214 [2, 39] ?_
  show ((SI 81 19) ≤ x1 → gj_Goes E om0 mt_214 88 [some (.ref 81), some (.int x1)] [] SI SJ (QV Q)) ∧ (¬ (SI 81 19) ≤ x1 → vp_in ((i3 2) * x1) 40 ∧ (vp_in ((i3 1) + x1) 135 ∧ (vp_in (((i3 2) * x1) + (i3 1)) 40 ∧ (vp_in ((i3 9) + x1) 135 ∧ (gj_Goes E om0 mt_214 39 [some (.ref 81), some (.int (x1 + (i3 1)))] [] (gj_u2 (gj_u2 SI 82 (gj_n ((i3 1) + x1)) (SI 90 (gj_n ((i3 2) * x1)))) 82 (gj_n ((i3 9) + x1)) (SI 90 (gj_n (((i3 2) * x1) + (i3 1))))) SJ (QV Q))))))
  refine ⟨fun c1 => ?_, fun c1 => ?_⟩
  · refine gj_goq gj_clT ok_214 [2, 39] ?_
    show vp_in (i3 17) 135 ∧ (vp_in (i3 32) 135 ∧ (vp_in (i3 33) 135 ∧ (vp_in (i3 35) 135 ∧ (QV Q none (gj_u2 (gj_u2 (gj_u2 (gj_u2 SI 82 17 (i3 0)) 82 32 (i3 2)) 82 33 (i3 2)) 82 35 (i3 0)) SJ))))
    refine ⟨(gj_vin (by decide)), ?_⟩
    refine ⟨(gj_vin (by decide)), ?_⟩
    refine ⟨(gj_vin (by decide)), ?_⟩
    refine ⟨(gj_vin (by decide)), ?_⟩
    exact ⟨rfl, (h.1 c1)⟩
  · have k2 := (h.2 c1).1
    refine ⟨k2, ?_⟩
    have k3 := (h.2 c1).2.1
    refine ⟨k3, ?_⟩
    have k4 := (h.2 c1).2.2.1
    refine ⟨k4, ?_⟩
    have k5 := (h.2 c1).2.2.2.1
    refine ⟨k5, ?_⟩
    exact (h.2 c1).2.2.2.2
set_option maxRecDepth 20000 in
/-- GraspJudgeModel.plate -/
theorem st_215 {E : gj_E} {Q : Int32 → gj_I → gj_J → Prop} (a1 : Int32) (SI : gj_I) (SJ : gj_J) (h : DoI E 212 [(.ref 81), (.int a1), (.int (i3 60))] SI SJ (fun r1 SI2 SJ2 => (¬ r1 = 0 → DoI E 213 [(.ref 81)] (gj_u2 SI2 81 19 (i3 0)) SJ2 (fun r3 SI4 SJ4 => GoI E mt_215 22 [some (.ref 81), none, some (.int r3), none] SI4 SJ4 Q)) ∧ (r1 = 0 → Q (i3 (-1)) SI2 SJ2))) : DoI E 215 [(.ref 81), (.int a1)] SI SJ Q := by
  refine gj_start (M := mt_215) ok_215 (Nat.le_of_ble_eq_true rfl) ?_
  refine gj_goq gj_clT ok_215 [7, 21, 22, 43, 50, 75, 79, 89] ?_
  show gj_Do E om0 (gj_mt 212) [(.ref 81), (.int a1), (.int (i3 60))] SI SJ _
  refine gj_Do.mono h (fun v_ SI2 SJ2 h_ => ?_)
  obtain ⟨r1, rfl, q1⟩ := h_
  show gj_Goes E om0 mt_215 7 [some (.ref 81), some (.int a1), none, none] [(.int r1)] SI2 SJ2 (QI Q)
  refine gj_goq gj_clT ok_215 [7, 21, 22, 43, 50, 75, 79, 89] ?_
  show (¬ r1 = 0 → gj_Goes E om0 mt_215 12 [some (.ref 81), some (.int a1), none, none] [] SI2 SJ2 (QI Q)) ∧ (r1 = 0 → QI Q (some (.int (i3 (-1)))) SI2 SJ2)
  refine ⟨fun c2 => ?_, fun c2 => ?_⟩
  · refine gj_goq gj_clT ok_215 [7, 21, 22, 43, 50, 75, 79, 89] ?_
    show gj_Do E om0 (gj_mt 213) [(.ref 81)] (gj_u2 SI2 81 19 (i3 0)) SJ2 _
    refine gj_Do.mono (q1.1 c2) (fun v_ SI4 SJ4 h_ => ?_)
    obtain ⟨r3, rfl, q3⟩ := h_
    show gj_Goes E om0 mt_215 21 [some (.ref 81), some (.int a1), none, none] [(.int r3)] SI4 SJ4 (QI Q)
    refine gj_goq gj_clT ok_215 [7, 21, 22, 43, 50, 75, 79, 89] ?_
    show gj_Goes E om0 mt_215 22 [some (.ref 81), some (.int a1), some (.int r3), none] [] SI4 SJ4 (QI Q)
    exact gj_fh q3 (And.intro (Or.inr rfl) (And.intro (Or.inl rfl) (And.intro (Or.inr rfl) (And.intro (Or.inl rfl) trivial))))
  · exact ⟨_, rfl, (q1.2 c2)⟩
set_option maxRecDepth 20000 in
theorem lp_215_22 {E : gj_E} {Q : Int32 → gj_I → gj_J → Prop} (x2 : Int32) (SI : gj_I) (SJ : gj_J) (h : (x2 = 0 → (¬ x2 = 0 → DoV E 214 [(.ref 81)] SI SJ (fun SI2 SJ2 => DoI E 175 [(.ref 81)] SI2 SJ2 (fun r3 SI4 SJ4 => (r3 = 0 → GoI E mt_215 89 [some (.ref 81), none, none, some (.int (i3 0))] SI4 SJ4 Q) ∧ (¬ r3 = 0 → Q (SI4 81 19) SI4 SJ4)))) ∧ (x2 = 0 → Q (SI 81 16) SI SJ)) ∧ (¬ x2 = 0 → ((SI 81 15) ≤ (SI 81 14) → (¬ x2 = 0 → DoV E 214 [(.ref 81)] SI SJ (fun SI6 SJ6 => DoI E 175 [(.ref 81)] SI6 SJ6 (fun r7 SI8 SJ8 => (r7 = 0 → GoI E mt_215 89 [some (.ref 81), none, none, some (.int (i3 0))] SI8 SJ8 Q) ∧ (¬ r7 = 0 → Q (SI8 81 19) SI8 SJ8)))) ∧ (x2 = 0 → Q (SI 81 16) SI SJ)) ∧ (¬ (SI 81 15) ≤ (SI 81 14) → DoI E 210 [(.ref 81), (.int (i3 59))] SI SJ (fun r9 SI10 SJ10 => (r9 = 0 → GoI E mt_215 22 [some (.ref 81), none, some (.int (i3 0)), none] SI10 SJ10 Q) ∧ (¬ r9 = 0 → DoI E 213 [(.ref 81)] SI10 SJ10 (fun r11 SI12 SJ12 => (r11 = 0 → GoI E mt_215 22 [some (.ref 81), none, some (.int (i3 0)), none] SI12 SJ12 Q) ∧ (¬ r11 = 0 → GoI E mt_215 22 [some (.ref 81), none, some (.int (i3 1)), none] SI12 SJ12 Q))))))) : GoI E mt_215 22 [some (.ref 81), none, some (.int x2), none] SI SJ Q := by
  refine gj_goq gj_clT ok_215 [7, 21, 22, 43, 50, 75, 79, 89] ?_
  show (x2 = 0 → gj_Goes E om0 mt_215 62 [some (.ref 81), none, some (.int x2), none] [] SI SJ (QI Q)) ∧ (¬ x2 = 0 → ((SI 81 15) ≤ (SI 81 14) → gj_Goes E om0 mt_215 62 [some (.ref 81), none, some (.int x2), none] [] SI SJ (QI Q)) ∧ (¬ (SI 81 15) ≤ (SI 81 14) → gj_Do E om0 (gj_mt 210) [(.ref 81), (.int (i3 59))] SI SJ _))
  refine ⟨fun c1 => ?_, fun c1 => ?_⟩
  · refine gj_goq gj_clT ok_215 [7, 21, 22, 43, 50, 75, 79, 89] ?_
    show (¬ x2 = 0 → gj_Goes E om0 mt_215 71 [some (.ref 81), none, some (.int x2), none] [] SI SJ (QI Q)) ∧ (x2 = 0 → QI Q (some (.int (SI 81 16))) SI SJ)
    refine ⟨fun c2 => ?_, fun c2 => ?_⟩
    · refine gj_goq gj_clT ok_215 [7, 21, 22, 43, 50, 75, 79, 89] ?_
      show gj_Do E om0 (gj_mt 214) [(.ref 81)] SI SJ _
      refine gj_Do.mono ((h.1 c1).1 c2) (fun v_ SI2 SJ2 h_ => ?_)
      obtain ⟨rfl, q3⟩ := h_
      show gj_Goes E om0 mt_215 75 [some (.ref 81), none, some (.int x2), none] [] SI2 SJ2 (QI Q)
      refine gj_goq gj_clT ok_215 [7, 21, 22, 43, 50, 75, 79, 89] ?_
      show gj_Do E om0 (gj_mt 175) [(.ref 81)] SI2 SJ2 _
      refine gj_Do.mono q3 (fun v_ SI4 SJ4 h_ => ?_)
      obtain ⟨r3, rfl, q4⟩ := h_
      show gj_Goes E om0 mt_215 79 [some (.ref 81), none, some (.int x2), none] [(.int r3)] SI4 SJ4 (QI Q)
      refine gj_goq gj_clT ok_215 [7, 21, 22, 43, 50, 75, 79, 89] ?_
      show (r3 = 0 → gj_Goes E om0 mt_215 87 [some (.ref 81), none, some (.int x2), none] [] SI4 SJ4 (QI Q)) ∧ (¬ r3 = 0 → QI Q (some (.int (SI4 81 19))) SI4 SJ4)
      refine ⟨fun c5 => ?_, fun c5 => ?_⟩
      · refine gj_goq gj_clT ok_215 [7, 21, 22, 43, 50, 75, 79, 89] ?_
        show gj_Goes E om0 mt_215 89 [some (.ref 81), none, some (.int x2), some (.int (i3 0))] [] SI4 SJ4 (QI Q)
        exact gj_fh (q4.1 c5) (And.intro (Or.inr rfl) (And.intro (Or.inl rfl) (And.intro (Or.inl rfl) (And.intro (Or.inr rfl) trivial))))
      · exact ⟨_, rfl, (q4.2 c5)⟩
    · exact ⟨_, rfl, ((h.1 c1).2 c2)⟩
  · refine ⟨fun c6 => ?_, fun c6 => ?_⟩
    · refine gj_goq gj_clT ok_215 [7, 21, 22, 43, 50, 75, 79, 89] ?_
      show (¬ x2 = 0 → gj_Goes E om0 mt_215 71 [some (.ref 81), none, some (.int x2), none] [] SI SJ (QI Q)) ∧ (x2 = 0 → QI Q (some (.int (SI 81 16))) SI SJ)
      refine ⟨fun c7 => ?_, fun c7 => ?_⟩
      · refine gj_goq gj_clT ok_215 [7, 21, 22, 43, 50, 75, 79, 89] ?_
        show gj_Do E om0 (gj_mt 214) [(.ref 81)] SI SJ _
        refine gj_Do.mono (((h.2 c1).1 c6).1 c7) (fun v_ SI6 SJ6 h_ => ?_)
        obtain ⟨rfl, q8⟩ := h_
        show gj_Goes E om0 mt_215 75 [some (.ref 81), none, some (.int x2), none] [] SI6 SJ6 (QI Q)
        refine gj_goq gj_clT ok_215 [7, 21, 22, 43, 50, 75, 79, 89] ?_
        show gj_Do E om0 (gj_mt 175) [(.ref 81)] SI6 SJ6 _
        refine gj_Do.mono q8 (fun v_ SI8 SJ8 h_ => ?_)
        obtain ⟨r7, rfl, q9⟩ := h_
        show gj_Goes E om0 mt_215 79 [some (.ref 81), none, some (.int x2), none] [(.int r7)] SI8 SJ8 (QI Q)
        refine gj_goq gj_clT ok_215 [7, 21, 22, 43, 50, 75, 79, 89] ?_
        show (r7 = 0 → gj_Goes E om0 mt_215 87 [some (.ref 81), none, some (.int x2), none] [] SI8 SJ8 (QI Q)) ∧ (¬ r7 = 0 → QI Q (some (.int (SI8 81 19))) SI8 SJ8)
        refine ⟨fun c10 => ?_, fun c10 => ?_⟩
        · refine gj_goq gj_clT ok_215 [7, 21, 22, 43, 50, 75, 79, 89] ?_
          show gj_Goes E om0 mt_215 89 [some (.ref 81), none, some (.int x2), some (.int (i3 0))] [] SI8 SJ8 (QI Q)
          exact gj_fh (q9.1 c10) (And.intro (Or.inr rfl) (And.intro (Or.inl rfl) (And.intro (Or.inl rfl) (And.intro (Or.inr rfl) trivial))))
        · exact ⟨_, rfl, (q9.2 c10)⟩
      · exact ⟨_, rfl, (((h.2 c1).1 c6).2 c7)⟩
    · refine gj_Do.mono ((h.2 c1).2 c6) (fun v_ SI10 SJ10 h_ => ?_)
      obtain ⟨r9, rfl, q11⟩ := h_
      show gj_Goes E om0 mt_215 43 [some (.ref 81), none, some (.int x2), none] [(.int r9)] SI10 SJ10 (QI Q)
      refine gj_goq gj_clT ok_215 [7, 21, 22, 43, 50, 75, 79, 89] ?_
      show (r9 = 0 → gj_Goes E om0 mt_215 57 [some (.ref 81), none, some (.int x2), none] [] SI10 SJ10 (QI Q)) ∧ (¬ r9 = 0 → gj_Do E om0 (gj_mt 213) [(.ref 81)] SI10 SJ10 _)
      refine ⟨fun c12 => ?_, fun c12 => ?_⟩
      · refine gj_goq gj_clT ok_215 [7, 21, 22, 43, 50, 75, 79, 89] ?_
        show gj_Goes E om0 mt_215 22 [some (.ref 81), none, some (.int (i3 0)), none] [] SI10 SJ10 (QI Q)
        exact (q11.1 c12)
      · refine gj_Do.mono (q11.2 c12) (fun v_ SI12 SJ12 h_ => ?_)
        obtain ⟨r11, rfl, q13⟩ := h_
        show gj_Goes E om0 mt_215 50 [some (.ref 81), none, some (.int x2), none] [(.int r11)] SI12 SJ12 (QI Q)
        refine gj_goq gj_clT ok_215 [7, 21, 22, 43, 50, 75, 79, 89] ?_
        show (r11 = 0 → gj_Goes E om0 mt_215 57 [some (.ref 81), none, some (.int x2), none] [] SI12 SJ12 (QI Q)) ∧ (¬ r11 = 0 → gj_Goes E om0 mt_215 58 [some (.ref 81), none, some (.int x2), none] [(.int (i3 1))] SI12 SJ12 (QI Q))
        refine ⟨fun c14 => ?_, fun c14 => ?_⟩
        · refine gj_goq gj_clT ok_215 [7, 21, 22, 43, 50, 75, 79, 89] ?_
          show gj_Goes E om0 mt_215 22 [some (.ref 81), none, some (.int (i3 0)), none] [] SI12 SJ12 (QI Q)
          exact (q13.1 c14)
        · refine gj_goq gj_clT ok_215 [7, 21, 22, 43, 50, 75, 79, 89] ?_
          show gj_Goes E om0 mt_215 22 [some (.ref 81), none, some (.int (i3 1)), none] [] SI12 SJ12 (QI Q)
          exact (q13.2 c14)
set_option maxRecDepth 20000 in
theorem lp_215_89 {E : gj_E} {Q : Int32 → gj_I → gj_J → Prop} (x3 : Int32) (SI : gj_I) (SJ : gj_J) (h : ((i3 135) ≤ x3 → Q ((i3 (-5000)) - (SI 81 15)) SI SJ) ∧ (¬ (i3 135) ≤ x3 → vp_in x3 135 ∧ (GoI E mt_215 89 [some (.ref 81), none, none, some (.int (x3 + (i3 1)))] (gj_u2 SI 82 (gj_n x3) (SI 84 (gj_n x3))) SJ Q))) : GoI E mt_215 89 [some (.ref 81), none, none, some (.int x3)] SI SJ Q := by
  refine gj_goq gj_clT ok_215 [7, 21, 22, 43, 50, 75, 79, 89] ?_
  show ((i3 135) ≤ x3 → gj_Goes E om0 mt_215 114 [some (.ref 81), none, none, some (.int x3)] [] SI SJ (QI Q)) ∧ (¬ (i3 135) ≤ x3 → vp_in x3 135 ∧ (vp_in x3 135 ∧ (gj_Goes E om0 mt_215 89 [some (.ref 81), none, none, some (.int (x3 + (i3 1)))] [] (gj_u2 SI 82 (gj_n x3) (SI 84 (gj_n x3))) SJ (QI Q))))
  refine ⟨fun c1 => ?_, fun c1 => ?_⟩
  · refine gj_goq gj_clT ok_215 [7, 21, 22, 43, 50, 75, 79, 89] ?_
    show QI Q (some (.int ((i3 (-5000)) - (SI 81 15)))) SI SJ
    exact ⟨_, rfl, (h.1 c1)⟩
  · have k2 := (h.2 c1).1
    refine ⟨k2, ?_⟩
    refine ⟨k2, ?_⟩
    exact (h.2 c1).2
set_option maxRecDepth 20000 in
/-- GraspJudgeModel.readsClause -/
theorem st_216 {E : gj_E} {Q : Int32 → gj_I → gj_J → Prop} (SI : gj_I) (SJ : gj_J) (h : (¬ (SI 81 19) = (i3 12) → GoI E mt_216 26 [some (.ref 81), some (.int (SI 81 14)), some (.long (i6 0)), none, none] SI SJ Q) ∧ ((SI 81 19) = (i3 12) → DoI E 209 [(.ref 81), (.int (i3 4)), (.int (SI 81 14))] SI SJ (fun r1 SI2 SJ2 => (r1 = 0 ∨ r1 = 1) ∧ (Q r1 SI2 SJ2)))) : DoI E 216 [(.ref 81)] SI SJ Q := by
  refine gj_start (M := mt_216) ok_216 (Nat.le_of_ble_eq_true rfl) ?_
  refine gj_goq gj_clT ok_216 [18, 26, 30, 40, 63, 129, 133, 157, 166] ?_
  show (¬ (SI 81 19) = (i3 12) → gj_Goes E om0 mt_216 19 [some (.ref 81), none, none, none, none] [] SI SJ (QI Q)) ∧ ((SI 81 19) = (i3 12) → gj_Do E om0 (gj_mt 209) [(.ref 81), (.int (i3 4)), (.int (SI 81 14))] SI SJ _)
  refine ⟨fun c1 => ?_, fun c1 => ?_⟩
  · refine gj_goq gj_clT ok_216 [18, 26, 30, 40, 63, 129, 133, 157, 166] ?_
    show gj_Goes E om0 mt_216 26 [some (.ref 81), some (.int (SI 81 14)), some (.long (i6 0)), none, none] [] SI SJ (QI Q)
    exact (h.1 c1)
  · refine gj_Do.mono (h.2 c1) (fun v_ SI2 SJ2 h_ => ?_)
    obtain ⟨r1, rfl, q2⟩ := h_
    show gj_Goes E om0 mt_216 18 [some (.ref 81), none, none, none, none] [(.int r1)] SI2 SJ2 (QI Q)
    refine gj_goq gj_clT ok_216 [18, 26, 30, 40, 63, 129, 133, 157, 166] ?_
    show (r1 = 0 ∨ r1 = 1) ∧ (QI Q (some (.int r1)) SI2 SJ2)
    have k3 := q2.1
    refine ⟨k3, ?_⟩
    exact ⟨_, rfl, q2.2⟩
set_option maxRecDepth 20000 in
theorem lp_216_26 {E : gj_E} {Q : Int32 → gj_I → gj_J → Prop} (x1 : Int32) (x2 : Int64) (SI : gj_I) (SJ : gj_J) (h : DoI E 207 [(.ref 81)] SI SJ (fun r1 SI2 SJ2 => DoI E 155 [(.long (r1).toInt64), (.long (i6 97)), (.long (i6 122))] SI2 SJ2 (fun r3 SI4 SJ4 => (r3 = 0 → (x2 = (i6 17076) → GoI E mt_216 133 [some (.ref 81), none, some (.long x2), none, some (.int (i3 0))] SI4 SJ4 Q) ∧ (¬ x2 = (i6 17076) → (x2 = (i6 656741) → GoI E mt_216 133 [some (.ref 81), none, some (.long x2), none, some (.int (i3 0))] SI4 SJ4 Q) ∧ (¬ x2 = (i6 656741) → (x2 = (i6 21566500) → GoI E mt_216 133 [some (.ref 81), none, some (.long x2), none, some (.int (i3 0))] SI4 SJ4 Q) ∧ (¬ x2 = (i6 21566500) → (x2 = (i6 106385989) → GoI E mt_216 133 [some (.ref 81), none, some (.long x2), none, some (.int (i3 0))] SI4 SJ4 Q) ∧ (¬ x2 = (i6 106385989) → DoI E 209 [(.ref 81), (.int (i3 1)), (.int x1)] SI4 SJ4 (fun r5 SI6 SJ6 => (r5 = 0 ∨ r5 = 1) ∧ (Q r5 SI6 SJ6))))))) ∧ (¬ r3 = 0 → ((i3 8) ≤ ((SI4 81 14) - x1) → GoI E mt_216 26 [some (.ref 81), some (.int x1), some (.long (i6 (-1))), none, none] (gj_u2 SI4 81 14 ((SI4 81 14) + (i3 1))) SJ4 Q) ∧ (¬ (i3 8) ≤ ((SI4 81 14) - x1) → DoI E 207 [(.ref 81)] SI4 SJ4 (fun r7 SI8 SJ8 => GoI E mt_216 26 [some (.ref 81), some (.int x1), some (.long (((((i6 32) * x2) + (r7).toInt64) - (i6 97)) + (i6 1))), none, none] (gj_u2 SI8 81 14 ((SI8 81 14) + (i3 1))) SJ8 Q)))))) : GoI E mt_216 26 [some (.ref 81), some (.int x1), some (.long x2), none, none] SI SJ Q := by
  refine gj_goq gj_clT ok_216 [18, 26, 30, 40, 63, 129, 133, 157, 166] ?_
  show gj_Do E om0 (gj_mt 207) [(.ref 81)] SI SJ _
  refine gj_Do.mono h (fun v_ SI2 SJ2 h_ => ?_)
  obtain ⟨r1, rfl, q1⟩ := h_
  show gj_Goes E om0 mt_216 30 [some (.ref 81), some (.int x1), some (.long x2), none, none] [(.int r1)] SI2 SJ2 (QI Q)
  refine gj_goq gj_clT ok_216 [18, 26, 30, 40, 63, 129, 133, 157, 166] ?_
  show gj_Do E om0 (gj_mt 155) [(.long (r1).toInt64), (.long (i6 97)), (.long (i6 122))] SI2 SJ2 _
  refine gj_Do.mono q1 (fun v_ SI4 SJ4 h_ => ?_)
  obtain ⟨r3, rfl, q2⟩ := h_
  show gj_Goes E om0 mt_216 40 [some (.ref 81), some (.int x1), some (.long x2), none, none] [(.int r3)] SI4 SJ4 (QI Q)
  refine gj_goq gj_clT ok_216 [18, 26, 30, 40, 63, 129, 133, 157, 166] ?_
  show (r3 = 0 → gj_Goes E om0 mt_216 91 [some (.ref 81), some (.int x1), some (.long x2), none, none] [] SI4 SJ4 (QI Q)) ∧ (¬ r3 = 0 → ((i3 8) ≤ ((SI4 81 14) - x1) → gj_Goes E om0 mt_216 74 [some (.ref 81), some (.int x1), some (.long x2), none, none] [] SI4 SJ4 (QI Q)) ∧ (¬ (i3 8) ≤ ((SI4 81 14) - x1) → gj_Do E om0 (gj_mt 207) [(.ref 81)] SI4 SJ4 _))
  refine ⟨fun c3 => ?_, fun c3 => ?_⟩
  · refine gj_goq gj_clT ok_216 [18, 26, 30, 40, 63, 129, 133, 157, 166] ?_
    show ((lg_cmp x2 (i6 17076)) = 0 → gj_Goes E om0 mt_216 130 [some (.ref 81), some (.int x1), some (.long x2), none, none] [] SI4 SJ4 (QI Q)) ∧ (¬ (lg_cmp x2 (i6 17076)) = 0 → ((lg_cmp x2 (i6 656741)) = 0 → gj_Goes E om0 mt_216 130 [some (.ref 81), some (.int x1), some (.long x2), none, none] [] SI4 SJ4 (QI Q)) ∧ (¬ (lg_cmp x2 (i6 656741)) = 0 → ((lg_cmp x2 (i6 21566500)) = 0 → gj_Goes E om0 mt_216 130 [some (.ref 81), some (.int x1), some (.long x2), none, none] [] SI4 SJ4 (QI Q)) ∧ (¬ (lg_cmp x2 (i6 21566500)) = 0 → ((lg_cmp x2 (i6 106385989)) = 0 → gj_Goes E om0 mt_216 130 [some (.ref 81), some (.int x1), some (.long x2), none, none] [] SI4 SJ4 (QI Q)) ∧ (¬ (lg_cmp x2 (i6 106385989)) = 0 → gj_Do E om0 (gj_mt 209) [(.ref 81), (.int (i3 1)), (.int x1)] SI4 SJ4 _))))
    refine ⟨fun c4 => ?_, fun c4 => ?_⟩
    · refine gj_goq gj_clT ok_216 [18, 26, 30, 40, 63, 129, 133, 157, 166] ?_
      show gj_Goes E om0 mt_216 133 [some (.ref 81), some (.int x1), some (.long x2), none, some (.int (i3 0))] [] SI4 SJ4 (QI Q)
      exact gj_fh ((q2.1 c3).1 (lgc_eq.mp c4)) (And.intro (Or.inr rfl) (And.intro (Or.inl rfl) (And.intro (Or.inr rfl) (And.intro (Or.inl rfl) (And.intro (Or.inr rfl) trivial)))))
    · refine ⟨fun c5 => ?_, fun c5 => ?_⟩
      · refine gj_goq gj_clT ok_216 [18, 26, 30, 40, 63, 129, 133, 157, 166] ?_
        show gj_Goes E om0 mt_216 133 [some (.ref 81), some (.int x1), some (.long x2), none, some (.int (i3 0))] [] SI4 SJ4 (QI Q)
        exact gj_fh (((q2.1 c3).2 (fun z_ => c4 (lgc_eq.mpr z_))).1 (lgc_eq.mp c5)) (And.intro (Or.inr rfl) (And.intro (Or.inl rfl) (And.intro (Or.inr rfl) (And.intro (Or.inl rfl) (And.intro (Or.inr rfl) trivial)))))
      · refine ⟨fun c6 => ?_, fun c6 => ?_⟩
        · refine gj_goq gj_clT ok_216 [18, 26, 30, 40, 63, 129, 133, 157, 166] ?_
          show gj_Goes E om0 mt_216 133 [some (.ref 81), some (.int x1), some (.long x2), none, some (.int (i3 0))] [] SI4 SJ4 (QI Q)
          exact gj_fh ((((q2.1 c3).2 (fun z_ => c4 (lgc_eq.mpr z_))).2 (fun z_ => c5 (lgc_eq.mpr z_))).1 (lgc_eq.mp c6)) (And.intro (Or.inr rfl) (And.intro (Or.inl rfl) (And.intro (Or.inr rfl) (And.intro (Or.inl rfl) (And.intro (Or.inr rfl) trivial)))))
        · refine ⟨fun c7 => ?_, fun c7 => ?_⟩
          · refine gj_goq gj_clT ok_216 [18, 26, 30, 40, 63, 129, 133, 157, 166] ?_
            show gj_Goes E om0 mt_216 133 [some (.ref 81), some (.int x1), some (.long x2), none, some (.int (i3 0))] [] SI4 SJ4 (QI Q)
            exact gj_fh (((((q2.1 c3).2 (fun z_ => c4 (lgc_eq.mpr z_))).2 (fun z_ => c5 (lgc_eq.mpr z_))).2 (fun z_ => c6 (lgc_eq.mpr z_))).1 (lgc_eq.mp c7)) (And.intro (Or.inr rfl) (And.intro (Or.inl rfl) (And.intro (Or.inr rfl) (And.intro (Or.inl rfl) (And.intro (Or.inr rfl) trivial)))))
          · refine gj_Do.mono (((((q2.1 c3).2 (fun z_ => c4 (lgc_eq.mpr z_))).2 (fun z_ => c5 (lgc_eq.mpr z_))).2 (fun z_ => c6 (lgc_eq.mpr z_))).2 (fun z_ => c7 (lgc_eq.mpr z_))) (fun v_ SI6 SJ6 h_ => ?_)
            obtain ⟨r5, rfl, q8⟩ := h_
            show gj_Goes E om0 mt_216 129 [some (.ref 81), some (.int x1), some (.long x2), none, none] [(.int r5)] SI6 SJ6 (QI Q)
            refine gj_goq gj_clT ok_216 [18, 26, 30, 40, 63, 129, 133, 157, 166] ?_
            show (r5 = 0 ∨ r5 = 1) ∧ (QI Q (some (.int r5)) SI6 SJ6)
            have k9 := q8.1
            refine ⟨k9, ?_⟩
            exact ⟨_, rfl, q8.2⟩
  · refine ⟨fun c10 => ?_, fun c10 => ?_⟩
    · refine gj_goq gj_clT ok_216 [18, 26, 30, 40, 63, 129, 133, 157, 166] ?_
      show gj_Goes E om0 mt_216 26 [some (.ref 81), some (.int x1), some (.long (i6 (-1))), none, none] [] (gj_u2 SI4 81 14 ((SI4 81 14) + (i3 1))) SJ4 (QI Q)
      exact ((q2.2 c3).1 c10)
    · refine gj_Do.mono ((q2.2 c3).2 c10) (fun v_ SI8 SJ8 h_ => ?_)
      obtain ⟨r7, rfl, q11⟩ := h_
      show gj_Goes E om0 mt_216 63 [some (.ref 81), some (.int x1), some (.long x2), none, none] [(.int r7), (.long ((i6 32) * x2))] SI8 SJ8 (QI Q)
      refine gj_goq gj_clT ok_216 [18, 26, 30, 40, 63, 129, 133, 157, 166] ?_
      show gj_Goes E om0 mt_216 77 [some (.ref 81), some (.int x1), some (.long x2), none, none] [(.long (((((i6 32) * x2) + (r7).toInt64) - (i6 97)) + (i6 1)))] SI8 SJ8 (QI Q)
      refine gj_goq gj_clT ok_216 [18, 26, 30, 40, 63, 129, 133, 157, 166] ?_
      show gj_Goes E om0 mt_216 26 [some (.ref 81), some (.int x1), some (.long (((((i6 32) * x2) + (r7).toInt64) - (i6 97)) + (i6 1))), none, none] [] (gj_u2 SI8 81 14 ((SI8 81 14) + (i3 1))) SJ8 (QI Q)
      exact q11
set_option maxRecDepth 20000 in
theorem lp_216_133 {E : gj_E} {Q : Int32 → gj_I → gj_J → Prop} (x2 : Int64) (x4 : Int32) (SI : gj_I) (SJ : gj_J) (h : (¬ x2 = (i6 656741) → ((i3 2) ≤ x4 → vp_in (SI 81 19) 12 ∧ (Q (i3 1) (gj_u2 SI 81 19 ((SI 81 19) + (i3 1))) (gj_w2 SJ 91 (gj_n (SI 81 19)) x2))) ∧ (¬ (i3 2) ≤ x4 → DoI E 210 [(.ref 81), (.int (i3 32))] SI SJ (fun r1 SI2 SJ2 => (r1 = 0 → Q (i3 0) SI2 SJ2) ∧ (¬ r1 = 0 → DoI E 211 [(.ref 81), (.int (i3 2)), (.int (i3 0))] SI2 SJ2 (fun r3 SI4 SJ4 => (¬ r3 = 0 → vp_in (((i3 2) * (SI4 81 19)) + x4) 40 ∧ (GoI E mt_216 133 [some (.ref 81), none, some (.long x2), none, some (.int (x4 + (i3 1)))] (gj_u2 SI4 90 (gj_n (((i3 2) * (SI4 81 19)) + x4)) (SI4 81 17)) SJ4 Q)) ∧ (r3 = 0 → Q (i3 0) SI4 SJ4)))))) ∧ (x2 = (i6 656741) → ((i3 1) ≤ x4 → vp_in (SI 81 19) 12 ∧ (Q (i3 1) (gj_u2 SI 81 19 ((SI 81 19) + (i3 1))) (gj_w2 SJ 91 (gj_n (SI 81 19)) x2))) ∧ (¬ (i3 1) ≤ x4 → DoI E 210 [(.ref 81), (.int (i3 32))] SI SJ (fun r5 SI6 SJ6 => (r5 = 0 → Q (i3 0) SI6 SJ6) ∧ (¬ r5 = 0 → DoI E 211 [(.ref 81), (.int (i3 2)), (.int (i3 0))] SI6 SJ6 (fun r7 SI8 SJ8 => (¬ r7 = 0 → vp_in (((i3 2) * (SI8 81 19)) + x4) 40 ∧ (GoI E mt_216 133 [some (.ref 81), none, some (.long x2), none, some (.int (x4 + (i3 1)))] (gj_u2 SI8 90 (gj_n (((i3 2) * (SI8 81 19)) + x4)) (SI8 81 17)) SJ8 Q)) ∧ (r7 = 0 → Q (i3 0) SI8 SJ8))))))) : GoI E mt_216 133 [some (.ref 81), none, some (.long x2), none, some (.int x4)] SI SJ Q := by
  refine gj_goq gj_clT ok_216 [18, 26, 30, 40, 63, 129, 133, 157, 166] ?_
  show (¬ (lg_cmp x2 (i6 656741)) = 0 → gj_Goes E om0 mt_216 147 [some (.ref 81), none, some (.long x2), none, some (.int x4)] [(.int x4)] SI SJ (QI Q)) ∧ ((lg_cmp x2 (i6 656741)) = 0 → gj_Goes E om0 mt_216 148 [some (.ref 81), none, some (.long x2), none, some (.int x4)] [(.int (i3 1)), (.int x4)] SI SJ (QI Q))
  refine ⟨fun c1 => ?_, fun c1 => ?_⟩
  · refine gj_goq gj_clT ok_216 [18, 26, 30, 40, 63, 129, 133, 157, 166] ?_
    show ((i3 2) ≤ x4 → gj_Goes E om0 mt_216 195 [some (.ref 81), none, some (.long x2), none, some (.int x4)] [] SI SJ (QI Q)) ∧ (¬ (i3 2) ≤ x4 → gj_Do E om0 (gj_mt 210) [(.ref 81), (.int (i3 32))] SI SJ _)
    refine ⟨fun c2 => ?_, fun c2 => ?_⟩
    · refine gj_goq gj_clT ok_216 [18, 26, 30, 40, 63, 129, 133, 157, 166] ?_
      show vp_in (SI 81 19) 12 ∧ (((i3 1) = 0 ∨ (i3 1) = 1) ∧ (QI Q (some (.int (i3 1))) (gj_u2 SI 81 19 ((SI 81 19) + (i3 1))) (gj_w2 SJ 91 (gj_n (SI 81 19)) x2)))
      have k3 := ((h.1 (fun z_ => c1 (lgc_eq.mpr z_))).1 c2).1
      refine ⟨k3, ?_⟩
      refine ⟨(Or.inr rfl), ?_⟩
      exact ⟨_, rfl, ((h.1 (fun z_ => c1 (lgc_eq.mpr z_))).1 c2).2⟩
    · refine gj_Do.mono ((h.1 (fun z_ => c1 (lgc_eq.mpr z_))).2 c2) (fun v_ SI2 SJ2 h_ => ?_)
      obtain ⟨r1, rfl, q4⟩ := h_
      show gj_Goes E om0 mt_216 157 [some (.ref 81), none, some (.long x2), none, some (.int x4)] [(.int r1)] SI2 SJ2 (QI Q)
      refine gj_goq gj_clT ok_216 [18, 26, 30, 40, 63, 129, 133, 157, 166] ?_
      show (r1 = 0 → gj_Goes E om0 mt_216 169 [some (.ref 81), none, some (.long x2), none, some (.int x4)] [] SI2 SJ2 (QI Q)) ∧ (¬ r1 = 0 → gj_Do E om0 (gj_mt 211) [(.ref 81), (.int (i3 2)), (.int (i3 0))] SI2 SJ2 _)
      refine ⟨fun c5 => ?_, fun c5 => ?_⟩
      · refine gj_goq gj_clT ok_216 [18, 26, 30, 40, 63, 129, 133, 157, 166] ?_
        show ((i3 0) = 0 ∨ (i3 0) = 1) ∧ (QI Q (some (.int (i3 0))) SI2 SJ2)
        refine ⟨(Or.inl rfl), ?_⟩
        exact ⟨_, rfl, (q4.1 c5)⟩
      · refine gj_Do.mono (q4.2 c5) (fun v_ SI4 SJ4 h_ => ?_)
        obtain ⟨r3, rfl, q6⟩ := h_
        show gj_Goes E om0 mt_216 166 [some (.ref 81), none, some (.long x2), none, some (.int x4)] [(.int r3)] SI4 SJ4 (QI Q)
        refine gj_goq gj_clT ok_216 [18, 26, 30, 40, 63, 129, 133, 157, 166] ?_
        show (¬ r3 = 0 → gj_Goes E om0 mt_216 171 [some (.ref 81), none, some (.long x2), none, some (.int x4)] [] SI4 SJ4 (QI Q)) ∧ (r3 = 0 → ((i3 0) = 0 ∨ (i3 0) = 1) ∧ (QI Q (some (.int (i3 0))) SI4 SJ4))
        refine ⟨fun c7 => ?_, fun c7 => ?_⟩
        · refine gj_goq gj_clT ok_216 [18, 26, 30, 40, 63, 129, 133, 157, 166] ?_
          show vp_in (((i3 2) * (SI4 81 19)) + x4) 40 ∧ (gj_Goes E om0 mt_216 133 [some (.ref 81), none, some (.long x2), none, some (.int (x4 + (i3 1)))] [] (gj_u2 SI4 90 (gj_n (((i3 2) * (SI4 81 19)) + x4)) (SI4 81 17)) SJ4 (QI Q))
          have k8 := (q6.1 c7).1
          refine ⟨k8, ?_⟩
          exact (q6.1 c7).2
        · refine ⟨(Or.inl rfl), ?_⟩
          exact ⟨_, rfl, (q6.2 c7)⟩
  · refine gj_goq gj_clT ok_216 [18, 26, 30, 40, 63, 129, 133, 157, 166] ?_
    show ((i3 1) ≤ x4 → gj_Goes E om0 mt_216 195 [some (.ref 81), none, some (.long x2), none, some (.int x4)] [] SI SJ (QI Q)) ∧ (¬ (i3 1) ≤ x4 → gj_Do E om0 (gj_mt 210) [(.ref 81), (.int (i3 32))] SI SJ _)
    refine ⟨fun c9 => ?_, fun c9 => ?_⟩
    · refine gj_goq gj_clT ok_216 [18, 26, 30, 40, 63, 129, 133, 157, 166] ?_
      show vp_in (SI 81 19) 12 ∧ (((i3 1) = 0 ∨ (i3 1) = 1) ∧ (QI Q (some (.int (i3 1))) (gj_u2 SI 81 19 ((SI 81 19) + (i3 1))) (gj_w2 SJ 91 (gj_n (SI 81 19)) x2)))
      have k10 := ((h.2 (lgc_eq.mp c1)).1 c9).1
      refine ⟨k10, ?_⟩
      refine ⟨(Or.inr rfl), ?_⟩
      exact ⟨_, rfl, ((h.2 (lgc_eq.mp c1)).1 c9).2⟩
    · refine gj_Do.mono ((h.2 (lgc_eq.mp c1)).2 c9) (fun v_ SI6 SJ6 h_ => ?_)
      obtain ⟨r5, rfl, q11⟩ := h_
      show gj_Goes E om0 mt_216 157 [some (.ref 81), none, some (.long x2), none, some (.int x4)] [(.int r5)] SI6 SJ6 (QI Q)
      refine gj_goq gj_clT ok_216 [18, 26, 30, 40, 63, 129, 133, 157, 166] ?_
      show (r5 = 0 → gj_Goes E om0 mt_216 169 [some (.ref 81), none, some (.long x2), none, some (.int x4)] [] SI6 SJ6 (QI Q)) ∧ (¬ r5 = 0 → gj_Do E om0 (gj_mt 211) [(.ref 81), (.int (i3 2)), (.int (i3 0))] SI6 SJ6 _)
      refine ⟨fun c12 => ?_, fun c12 => ?_⟩
      · refine gj_goq gj_clT ok_216 [18, 26, 30, 40, 63, 129, 133, 157, 166] ?_
        show ((i3 0) = 0 ∨ (i3 0) = 1) ∧ (QI Q (some (.int (i3 0))) SI6 SJ6)
        refine ⟨(Or.inl rfl), ?_⟩
        exact ⟨_, rfl, (q11.1 c12)⟩
      · refine gj_Do.mono (q11.2 c12) (fun v_ SI8 SJ8 h_ => ?_)
        obtain ⟨r7, rfl, q13⟩ := h_
        show gj_Goes E om0 mt_216 166 [some (.ref 81), none, some (.long x2), none, some (.int x4)] [(.int r7)] SI8 SJ8 (QI Q)
        refine gj_goq gj_clT ok_216 [18, 26, 30, 40, 63, 129, 133, 157, 166] ?_
        show (¬ r7 = 0 → gj_Goes E om0 mt_216 171 [some (.ref 81), none, some (.long x2), none, some (.int x4)] [] SI8 SJ8 (QI Q)) ∧ (r7 = 0 → ((i3 0) = 0 ∨ (i3 0) = 1) ∧ (QI Q (some (.int (i3 0))) SI8 SJ8))
        refine ⟨fun c14 => ?_, fun c14 => ?_⟩
        · refine gj_goq gj_clT ok_216 [18, 26, 30, 40, 63, 129, 133, 157, 166] ?_
          show vp_in (((i3 2) * (SI8 81 19)) + x4) 40 ∧ (gj_Goes E om0 mt_216 133 [some (.ref 81), none, some (.long x2), none, some (.int (x4 + (i3 1)))] [] (gj_u2 SI8 90 (gj_n (((i3 2) * (SI8 81 19)) + x4)) (SI8 81 17)) SJ8 (QI Q))
          have k15 := (q13.1 c14).1
          refine ⟨k15, ?_⟩
          exact (q13.1 c14).2
        · refine ⟨(Or.inl rfl), ?_⟩
          exact ⟨_, rfl, (q13.2 c14)⟩
set_option maxRecDepth 20000 in
/-- GraspJudgeModel.does -/
theorem st_217 {E : gj_E} {Q : Int32 → gj_I → gj_J → Prop} (a1 : Int32) (SI : gj_I) (SJ : gj_J) (h : vp_in ((i3 2) * a1) 40 ∧ (vp_in (((i3 2) * a1) + (i3 1)) 40 ∧ (vp_in a1 12 ∧ ((¬ (SJ 91 (gj_n a1)) = (i6 17076) → (¬ (SJ 91 (gj_n a1)) = (i6 656741) → (¬ (SJ 91 (gj_n a1)) = (i6 21566500) → DoI E 202 [(.ref 81), (.int (SI 90 (gj_n ((i3 2) * a1)))), (.int (SI 90 (gj_n (((i3 2) * a1) + (i3 1)))))] SI SJ (fun r1 SI2 SJ2 => (r1 < 0 → Q (i3 0) SI2 SJ2) ∧ (¬ r1 < 0 → Q (i3 1) SI2 SJ2))) ∧ ((SJ 91 (gj_n a1)) = (i6 21566500) → DoI E 201 [(.ref 81), (.int (SI 90 (gj_n ((i3 2) * a1)))), (.int (SI 90 (gj_n (((i3 2) * a1) + (i3 1)))))] SI SJ (fun r3 SI4 SJ4 => (r3 < 0 → Q (i3 0) SI4 SJ4) ∧ (¬ r3 < 0 → Q (i3 1) SI4 SJ4)))) ∧ ((SJ 91 (gj_n a1)) = (i6 656741) → DoI E 200 [(.ref 81), (.int (SI 90 (gj_n ((i3 2) * a1))))] SI SJ (fun r5 SI6 SJ6 => (r5 < 0 → Q (i3 0) SI6 SJ6) ∧ (¬ r5 < 0 → Q (i3 1) SI6 SJ6)))) ∧ ((SJ 91 (gj_n a1)) = (i6 17076) → DoI E 198 [(.ref 81), (.int (SI 90 (gj_n ((i3 2) * a1)))), (.int (SI 90 (gj_n (((i3 2) * a1) + (i3 1)))))] SI SJ (fun r7 SI8 SJ8 => (r7 < 0 → Q (i3 0) SI8 SJ8) ∧ (¬ r7 < 0 → Q (i3 1) SI8 SJ8))))))) : DoI E 217 [(.ref 81), (.int a1)] SI SJ Q := by
  refine gj_start (M := mt_217) ok_217 (Nat.le_of_ble_eq_true rfl) ?_
  refine gj_goq gj_clT ok_217 [43, 60, 78, 87] ?_
  show vp_in ((i3 2) * a1) 40 ∧ (vp_in (((i3 2) * a1) + (i3 1)) 40 ∧ (vp_in a1 12 ∧ ((¬ (lg_cmp (SJ 91 (gj_n a1)) (i6 17076)) = 0 → gj_Goes E om0 mt_217 46 [some (.ref 81), some (.int a1), some (.int (SI 90 (gj_n ((i3 2) * a1)))), some (.int (SI 90 (gj_n (((i3 2) * a1) + (i3 1))))), some (.long (SJ 91 (gj_n a1))), none] [] SI SJ (QI Q)) ∧ ((lg_cmp (SJ 91 (gj_n a1)) (i6 17076)) = 0 → gj_Do E om0 (gj_mt 198) [(.ref 81), (.int (SI 90 (gj_n ((i3 2) * a1)))), (.int (SI 90 (gj_n (((i3 2) * a1) + (i3 1)))))] SI SJ _))))
  have k1 := h.1
  refine ⟨k1, ?_⟩
  have k2 := h.2.1
  refine ⟨k2, ?_⟩
  have k3 := h.2.2.1
  refine ⟨k3, ?_⟩
  refine ⟨fun c4 => ?_, fun c4 => ?_⟩
  · refine gj_goq gj_clT ok_217 [43, 60, 78, 87] ?_
    show (¬ (lg_cmp (SJ 91 (gj_n a1)) (i6 656741)) = 0 → gj_Goes E om0 mt_217 63 [some (.ref 81), some (.int a1), some (.int (SI 90 (gj_n ((i3 2) * a1)))), some (.int (SI 90 (gj_n (((i3 2) * a1) + (i3 1))))), some (.long (SJ 91 (gj_n a1))), none] [] SI SJ (QI Q)) ∧ ((lg_cmp (SJ 91 (gj_n a1)) (i6 656741)) = 0 → gj_Do E om0 (gj_mt 200) [(.ref 81), (.int (SI 90 (gj_n ((i3 2) * a1))))] SI SJ _)
    refine ⟨fun c5 => ?_, fun c5 => ?_⟩
    · refine gj_goq gj_clT ok_217 [43, 60, 78, 87] ?_
      show (¬ (lg_cmp (SJ 91 (gj_n a1)) (i6 21566500)) = 0 → gj_Goes E om0 mt_217 81 [some (.ref 81), some (.int a1), some (.int (SI 90 (gj_n ((i3 2) * a1)))), some (.int (SI 90 (gj_n (((i3 2) * a1) + (i3 1))))), some (.long (SJ 91 (gj_n a1))), none] [] SI SJ (QI Q)) ∧ ((lg_cmp (SJ 91 (gj_n a1)) (i6 21566500)) = 0 → gj_Do E om0 (gj_mt 201) [(.ref 81), (.int (SI 90 (gj_n ((i3 2) * a1)))), (.int (SI 90 (gj_n (((i3 2) * a1) + (i3 1)))))] SI SJ _)
      refine ⟨fun c6 => ?_, fun c6 => ?_⟩
      · refine gj_goq gj_clT ok_217 [43, 60, 78, 87] ?_
        show gj_Do E om0 (gj_mt 202) [(.ref 81), (.int (SI 90 (gj_n ((i3 2) * a1)))), (.int (SI 90 (gj_n (((i3 2) * a1) + (i3 1)))))] SI SJ _
        refine gj_Do.mono (((h.2.2.2.1 (fun z_ => c4 (lgc_eq.mpr z_))).1 (fun z_ => c5 (lgc_eq.mpr z_))).1 (fun z_ => c6 (lgc_eq.mpr z_))) (fun v_ SI2 SJ2 h_ => ?_)
        obtain ⟨r1, rfl, q7⟩ := h_
        show gj_Goes E om0 mt_217 87 [some (.ref 81), some (.int a1), some (.int (SI 90 (gj_n ((i3 2) * a1)))), some (.int (SI 90 (gj_n (((i3 2) * a1) + (i3 1))))), some (.long (SJ 91 (gj_n a1))), none] [(.int r1)] SI2 SJ2 (QI Q)
        refine gj_goq gj_clT ok_217 [43, 60, 78, 87] ?_
        show (r1 < 0 → gj_Goes E om0 mt_217 94 [some (.ref 81), some (.int a1), some (.int (SI 90 (gj_n ((i3 2) * a1)))), some (.int (SI 90 (gj_n (((i3 2) * a1) + (i3 1))))), some (.long (SJ 91 (gj_n a1))), none] [] SI2 SJ2 (QI Q)) ∧ (¬ r1 < 0 → gj_Goes E om0 mt_217 95 [some (.ref 81), some (.int a1), some (.int (SI 90 (gj_n ((i3 2) * a1)))), some (.int (SI 90 (gj_n (((i3 2) * a1) + (i3 1))))), some (.long (SJ 91 (gj_n a1))), none] [(.int (i3 1))] SI2 SJ2 (QI Q))
        refine ⟨fun c8 => ?_, fun c8 => ?_⟩
        · refine gj_goq gj_clT ok_217 [43, 60, 78, 87] ?_
          show ((i3 0) = 0 ∨ (i3 0) = 1) ∧ (QI Q (some (.int (i3 0))) SI2 SJ2)
          refine ⟨(Or.inl rfl), ?_⟩
          exact ⟨_, rfl, (q7.1 c8)⟩
        · refine gj_goq gj_clT ok_217 [43, 60, 78, 87] ?_
          show ((i3 1) = 0 ∨ (i3 1) = 1) ∧ (QI Q (some (.int (i3 1))) SI2 SJ2)
          refine ⟨(Or.inr rfl), ?_⟩
          exact ⟨_, rfl, (q7.2 c8)⟩
      · refine gj_Do.mono (((h.2.2.2.1 (fun z_ => c4 (lgc_eq.mpr z_))).1 (fun z_ => c5 (lgc_eq.mpr z_))).2 (lgc_eq.mp c6)) (fun v_ SI4 SJ4 h_ => ?_)
        obtain ⟨r3, rfl, q9⟩ := h_
        show gj_Goes E om0 mt_217 78 [some (.ref 81), some (.int a1), some (.int (SI 90 (gj_n ((i3 2) * a1)))), some (.int (SI 90 (gj_n (((i3 2) * a1) + (i3 1))))), some (.long (SJ 91 (gj_n a1))), none] [(.int r3)] SI4 SJ4 (QI Q)
        refine gj_goq gj_clT ok_217 [43, 60, 78, 87] ?_
        show gj_Goes E om0 mt_217 87 [some (.ref 81), some (.int a1), some (.int (SI 90 (gj_n ((i3 2) * a1)))), some (.int (SI 90 (gj_n (((i3 2) * a1) + (i3 1))))), some (.long (SJ 91 (gj_n a1))), none] [(.int r3)] SI4 SJ4 (QI Q)
        refine gj_goq gj_clT ok_217 [43, 60, 78, 87] ?_
        show (r3 < 0 → gj_Goes E om0 mt_217 94 [some (.ref 81), some (.int a1), some (.int (SI 90 (gj_n ((i3 2) * a1)))), some (.int (SI 90 (gj_n (((i3 2) * a1) + (i3 1))))), some (.long (SJ 91 (gj_n a1))), none] [] SI4 SJ4 (QI Q)) ∧ (¬ r3 < 0 → gj_Goes E om0 mt_217 95 [some (.ref 81), some (.int a1), some (.int (SI 90 (gj_n ((i3 2) * a1)))), some (.int (SI 90 (gj_n (((i3 2) * a1) + (i3 1))))), some (.long (SJ 91 (gj_n a1))), none] [(.int (i3 1))] SI4 SJ4 (QI Q))
        refine ⟨fun c10 => ?_, fun c10 => ?_⟩
        · refine gj_goq gj_clT ok_217 [43, 60, 78, 87] ?_
          show ((i3 0) = 0 ∨ (i3 0) = 1) ∧ (QI Q (some (.int (i3 0))) SI4 SJ4)
          refine ⟨(Or.inl rfl), ?_⟩
          exact ⟨_, rfl, (q9.1 c10)⟩
        · refine gj_goq gj_clT ok_217 [43, 60, 78, 87] ?_
          show ((i3 1) = 0 ∨ (i3 1) = 1) ∧ (QI Q (some (.int (i3 1))) SI4 SJ4)
          refine ⟨(Or.inr rfl), ?_⟩
          exact ⟨_, rfl, (q9.2 c10)⟩
    · refine gj_Do.mono ((h.2.2.2.1 (fun z_ => c4 (lgc_eq.mpr z_))).2 (lgc_eq.mp c5)) (fun v_ SI6 SJ6 h_ => ?_)
      obtain ⟨r5, rfl, q11⟩ := h_
      show gj_Goes E om0 mt_217 60 [some (.ref 81), some (.int a1), some (.int (SI 90 (gj_n ((i3 2) * a1)))), some (.int (SI 90 (gj_n (((i3 2) * a1) + (i3 1))))), some (.long (SJ 91 (gj_n a1))), none] [(.int r5)] SI6 SJ6 (QI Q)
      refine gj_goq gj_clT ok_217 [43, 60, 78, 87] ?_
      show gj_Goes E om0 mt_217 87 [some (.ref 81), some (.int a1), some (.int (SI 90 (gj_n ((i3 2) * a1)))), some (.int (SI 90 (gj_n (((i3 2) * a1) + (i3 1))))), some (.long (SJ 91 (gj_n a1))), none] [(.int r5)] SI6 SJ6 (QI Q)
      refine gj_goq gj_clT ok_217 [43, 60, 78, 87] ?_
      show (r5 < 0 → gj_Goes E om0 mt_217 94 [some (.ref 81), some (.int a1), some (.int (SI 90 (gj_n ((i3 2) * a1)))), some (.int (SI 90 (gj_n (((i3 2) * a1) + (i3 1))))), some (.long (SJ 91 (gj_n a1))), none] [] SI6 SJ6 (QI Q)) ∧ (¬ r5 < 0 → gj_Goes E om0 mt_217 95 [some (.ref 81), some (.int a1), some (.int (SI 90 (gj_n ((i3 2) * a1)))), some (.int (SI 90 (gj_n (((i3 2) * a1) + (i3 1))))), some (.long (SJ 91 (gj_n a1))), none] [(.int (i3 1))] SI6 SJ6 (QI Q))
      refine ⟨fun c12 => ?_, fun c12 => ?_⟩
      · refine gj_goq gj_clT ok_217 [43, 60, 78, 87] ?_
        show ((i3 0) = 0 ∨ (i3 0) = 1) ∧ (QI Q (some (.int (i3 0))) SI6 SJ6)
        refine ⟨(Or.inl rfl), ?_⟩
        exact ⟨_, rfl, (q11.1 c12)⟩
      · refine gj_goq gj_clT ok_217 [43, 60, 78, 87] ?_
        show ((i3 1) = 0 ∨ (i3 1) = 1) ∧ (QI Q (some (.int (i3 1))) SI6 SJ6)
        refine ⟨(Or.inr rfl), ?_⟩
        exact ⟨_, rfl, (q11.2 c12)⟩
  · refine gj_Do.mono (h.2.2.2.2 (lgc_eq.mp c4)) (fun v_ SI8 SJ8 h_ => ?_)
    obtain ⟨r7, rfl, q13⟩ := h_
    show gj_Goes E om0 mt_217 43 [some (.ref 81), some (.int a1), some (.int (SI 90 (gj_n ((i3 2) * a1)))), some (.int (SI 90 (gj_n (((i3 2) * a1) + (i3 1))))), some (.long (SJ 91 (gj_n a1))), none] [(.int r7)] SI8 SJ8 (QI Q)
    refine gj_goq gj_clT ok_217 [43, 60, 78, 87] ?_
    show gj_Goes E om0 mt_217 87 [some (.ref 81), some (.int a1), some (.int (SI 90 (gj_n ((i3 2) * a1)))), some (.int (SI 90 (gj_n (((i3 2) * a1) + (i3 1))))), some (.long (SJ 91 (gj_n a1))), none] [(.int r7)] SI8 SJ8 (QI Q)
    refine gj_goq gj_clT ok_217 [43, 60, 78, 87] ?_
    show (r7 < 0 → gj_Goes E om0 mt_217 94 [some (.ref 81), some (.int a1), some (.int (SI 90 (gj_n ((i3 2) * a1)))), some (.int (SI 90 (gj_n (((i3 2) * a1) + (i3 1))))), some (.long (SJ 91 (gj_n a1))), none] [] SI8 SJ8 (QI Q)) ∧ (¬ r7 < 0 → gj_Goes E om0 mt_217 95 [some (.ref 81), some (.int a1), some (.int (SI 90 (gj_n ((i3 2) * a1)))), some (.int (SI 90 (gj_n (((i3 2) * a1) + (i3 1))))), some (.long (SJ 91 (gj_n a1))), none] [(.int (i3 1))] SI8 SJ8 (QI Q))
    refine ⟨fun c14 => ?_, fun c14 => ?_⟩
    · refine gj_goq gj_clT ok_217 [43, 60, 78, 87] ?_
      show ((i3 0) = 0 ∨ (i3 0) = 1) ∧ (QI Q (some (.int (i3 0))) SI8 SJ8)
      refine ⟨(Or.inl rfl), ?_⟩
      exact ⟨_, rfl, (q13.1 c14)⟩
    · refine gj_goq gj_clT ok_217 [43, 60, 78, 87] ?_
      show ((i3 1) = 0 ∨ (i3 1) = 1) ∧ (QI Q (some (.int (i3 1))) SI8 SJ8)
      refine ⟨(Or.inr rfl), ?_⟩
      exact ⟨_, rfl, (q13.2 c14)⟩
set_option maxRecDepth 20000 in
/-- GraspJudgeModel.orders -/
theorem st_218 {E : gj_E} {Q : Int32 → gj_I → gj_J → Prop} (a1 : Int32) (SI : gj_I) (SJ : gj_J) (h : DoI E 212 [(.ref 81), (.int a1), (.int (i3 120))] SI SJ (fun r1 SI2 SJ2 => (¬ r1 = 0 → DoI E 216 [(.ref 81)] (gj_u2 SI2 81 19 (i3 0)) SJ2 (fun r3 SI4 SJ4 => GoI E mt_218 22 [some (.ref 81), none, some (.int r3), none, none] SI4 SJ4 Q)) ∧ (r1 = 0 → Q (i3 (-1)) SI2 SJ2))) : DoI E 218 [(.ref 81), (.int a1)] SI SJ Q := by
  refine gj_start (M := mt_218) ok_218 (Nat.le_of_ble_eq_true rfl) ?_
  refine gj_goq gj_clT ok_218 [7, 21, 22, 43, 50, 79, 91] ?_
  show gj_Do E om0 (gj_mt 212) [(.ref 81), (.int a1), (.int (i3 120))] SI SJ _
  refine gj_Do.mono h (fun v_ SI2 SJ2 h_ => ?_)
  obtain ⟨r1, rfl, q1⟩ := h_
  show gj_Goes E om0 mt_218 7 [some (.ref 81), some (.int a1), none, none, none] [(.int r1)] SI2 SJ2 (QI Q)
  refine gj_goq gj_clT ok_218 [7, 21, 22, 43, 50, 79, 91] ?_
  show (¬ r1 = 0 → gj_Goes E om0 mt_218 12 [some (.ref 81), some (.int a1), none, none, none] [] SI2 SJ2 (QI Q)) ∧ (r1 = 0 → QI Q (some (.int (i3 (-1)))) SI2 SJ2)
  refine ⟨fun c2 => ?_, fun c2 => ?_⟩
  · refine gj_goq gj_clT ok_218 [7, 21, 22, 43, 50, 79, 91] ?_
    show gj_Do E om0 (gj_mt 216) [(.ref 81)] (gj_u2 SI2 81 19 (i3 0)) SJ2 _
    refine gj_Do.mono (q1.1 c2) (fun v_ SI4 SJ4 h_ => ?_)
    obtain ⟨r3, rfl, q3⟩ := h_
    show gj_Goes E om0 mt_218 21 [some (.ref 81), some (.int a1), none, none, none] [(.int r3)] SI4 SJ4 (QI Q)
    refine gj_goq gj_clT ok_218 [7, 21, 22, 43, 50, 79, 91] ?_
    show gj_Goes E om0 mt_218 22 [some (.ref 81), some (.int a1), some (.int r3), none, none] [] SI4 SJ4 (QI Q)
    exact gj_fh q3 (And.intro (Or.inr rfl) (And.intro (Or.inl rfl) (And.intro (Or.inr rfl) (And.intro (Or.inl rfl) (And.intro (Or.inl rfl) trivial)))))
  · exact ⟨_, rfl, (q1.2 c2)⟩
set_option maxRecDepth 20000 in
theorem lp_218_22 {E : gj_E} {Q : Int32 → gj_I → gj_J → Prop} (x2 : Int32) (SI : gj_I) (SJ : gj_J) (h : (x2 = 0 → (¬ x2 = 0 → GoI E mt_218 79 [some (.ref 81), none, none, some (.int (SI 81 19)), some (.int (i3 0))] SI SJ Q) ∧ (x2 = 0 → Q (SI 81 16) SI SJ)) ∧ (¬ x2 = 0 → ((SI 81 15) ≤ (SI 81 14) → (¬ x2 = 0 → GoI E mt_218 79 [some (.ref 81), none, none, some (.int (SI 81 19)), some (.int (i3 0))] SI SJ Q) ∧ (x2 = 0 → Q (SI 81 16) SI SJ)) ∧ (¬ (SI 81 15) ≤ (SI 81 14) → DoI E 210 [(.ref 81), (.int (i3 59))] SI SJ (fun r1 SI2 SJ2 => (r1 = 0 → GoI E mt_218 22 [some (.ref 81), none, some (.int (i3 0)), none, none] SI2 SJ2 Q) ∧ (¬ r1 = 0 → DoI E 216 [(.ref 81)] SI2 SJ2 (fun r3 SI4 SJ4 => (r3 = 0 → GoI E mt_218 22 [some (.ref 81), none, some (.int (i3 0)), none, none] SI4 SJ4 Q) ∧ (¬ r3 = 0 → GoI E mt_218 22 [some (.ref 81), none, some (.int (i3 1)), none, none] SI4 SJ4 Q))))))) : GoI E mt_218 22 [some (.ref 81), none, some (.int x2), none, none] SI SJ Q := by
  refine gj_goq gj_clT ok_218 [7, 21, 22, 43, 50, 79, 91] ?_
  show (x2 = 0 → gj_Goes E om0 mt_218 62 [some (.ref 81), none, some (.int x2), none, none] [] SI SJ (QI Q)) ∧ (¬ x2 = 0 → ((SI 81 15) ≤ (SI 81 14) → gj_Goes E om0 mt_218 62 [some (.ref 81), none, some (.int x2), none, none] [] SI SJ (QI Q)) ∧ (¬ (SI 81 15) ≤ (SI 81 14) → gj_Do E om0 (gj_mt 210) [(.ref 81), (.int (i3 59))] SI SJ _))
  refine ⟨fun c1 => ?_, fun c1 => ?_⟩
  · refine gj_goq gj_clT ok_218 [7, 21, 22, 43, 50, 79, 91] ?_
    show (¬ x2 = 0 → gj_Goes E om0 mt_218 71 [some (.ref 81), none, some (.int x2), none, none] [] SI SJ (QI Q)) ∧ (x2 = 0 → QI Q (some (.int (SI 81 16))) SI SJ)
    refine ⟨fun c2 => ?_, fun c2 => ?_⟩
    · refine gj_goq gj_clT ok_218 [7, 21, 22, 43, 50, 79, 91] ?_
      show gj_Goes E om0 mt_218 79 [some (.ref 81), none, some (.int x2), some (.int (SI 81 19)), some (.int (i3 0))] [] SI SJ (QI Q)
      exact gj_fh ((h.1 c1).1 c2) (And.intro (Or.inr rfl) (And.intro (Or.inl rfl) (And.intro (Or.inl rfl) (And.intro (Or.inr rfl) (And.intro (Or.inr rfl) trivial)))))
    · exact ⟨_, rfl, ((h.1 c1).2 c2)⟩
  · refine ⟨fun c3 => ?_, fun c3 => ?_⟩
    · refine gj_goq gj_clT ok_218 [7, 21, 22, 43, 50, 79, 91] ?_
      show (¬ x2 = 0 → gj_Goes E om0 mt_218 71 [some (.ref 81), none, some (.int x2), none, none] [] SI SJ (QI Q)) ∧ (x2 = 0 → QI Q (some (.int (SI 81 16))) SI SJ)
      refine ⟨fun c4 => ?_, fun c4 => ?_⟩
      · refine gj_goq gj_clT ok_218 [7, 21, 22, 43, 50, 79, 91] ?_
        show gj_Goes E om0 mt_218 79 [some (.ref 81), none, some (.int x2), some (.int (SI 81 19)), some (.int (i3 0))] [] SI SJ (QI Q)
        exact gj_fh (((h.2 c1).1 c3).1 c4) (And.intro (Or.inr rfl) (And.intro (Or.inl rfl) (And.intro (Or.inl rfl) (And.intro (Or.inr rfl) (And.intro (Or.inr rfl) trivial)))))
      · exact ⟨_, rfl, (((h.2 c1).1 c3).2 c4)⟩
    · refine gj_Do.mono ((h.2 c1).2 c3) (fun v_ SI2 SJ2 h_ => ?_)
      obtain ⟨r1, rfl, q5⟩ := h_
      show gj_Goes E om0 mt_218 43 [some (.ref 81), none, some (.int x2), none, none] [(.int r1)] SI2 SJ2 (QI Q)
      refine gj_goq gj_clT ok_218 [7, 21, 22, 43, 50, 79, 91] ?_
      show (r1 = 0 → gj_Goes E om0 mt_218 57 [some (.ref 81), none, some (.int x2), none, none] [] SI2 SJ2 (QI Q)) ∧ (¬ r1 = 0 → gj_Do E om0 (gj_mt 216) [(.ref 81)] SI2 SJ2 _)
      refine ⟨fun c6 => ?_, fun c6 => ?_⟩
      · refine gj_goq gj_clT ok_218 [7, 21, 22, 43, 50, 79, 91] ?_
        show gj_Goes E om0 mt_218 22 [some (.ref 81), none, some (.int (i3 0)), none, none] [] SI2 SJ2 (QI Q)
        exact (q5.1 c6)
      · refine gj_Do.mono (q5.2 c6) (fun v_ SI4 SJ4 h_ => ?_)
        obtain ⟨r3, rfl, q7⟩ := h_
        show gj_Goes E om0 mt_218 50 [some (.ref 81), none, some (.int x2), none, none] [(.int r3)] SI4 SJ4 (QI Q)
        refine gj_goq gj_clT ok_218 [7, 21, 22, 43, 50, 79, 91] ?_
        show (r3 = 0 → gj_Goes E om0 mt_218 57 [some (.ref 81), none, some (.int x2), none, none] [] SI4 SJ4 (QI Q)) ∧ (¬ r3 = 0 → gj_Goes E om0 mt_218 58 [some (.ref 81), none, some (.int x2), none, none] [(.int (i3 1))] SI4 SJ4 (QI Q))
        refine ⟨fun c8 => ?_, fun c8 => ?_⟩
        · refine gj_goq gj_clT ok_218 [7, 21, 22, 43, 50, 79, 91] ?_
          show gj_Goes E om0 mt_218 22 [some (.ref 81), none, some (.int (i3 0)), none, none] [] SI4 SJ4 (QI Q)
          exact (q7.1 c8)
        · refine gj_goq gj_clT ok_218 [7, 21, 22, 43, 50, 79, 91] ?_
          show gj_Goes E om0 mt_218 22 [some (.ref 81), none, some (.int (i3 1)), none, none] [] SI4 SJ4 (QI Q)
          exact (q7.2 c8)
set_option maxRecDepth 20000 in
theorem lp_218_79 {E : gj_E} {Q : Int32 → gj_I → gj_J → Prop} (x3 : Int32) (x4 : Int32) (SI : gj_I) (SJ : gj_J) (h : (x3 ≤ x4 → Q x4 SI SJ) ∧ (¬ x3 ≤ x4 → DoI E 217 [(.ref 81), (.int x4)] SI SJ (fun r1 SI2 SJ2 => (r1 = 0 → Q x4 SI2 SJ2) ∧ (¬ r1 = 0 → GoI E mt_218 79 [some (.ref 81), none, none, some (.int x3), some (.int (x4 + (i3 1)))] SI2 SJ2 Q)))) : GoI E mt_218 79 [some (.ref 81), none, none, some (.int x3), some (.int x4)] SI SJ Q := by
  refine gj_goq gj_clT ok_218 [7, 21, 22, 43, 50, 79, 91] ?_
  show (x3 ≤ x4 → gj_Goes E om0 mt_218 103 [some (.ref 81), none, none, some (.int x3), some (.int x4)] [] SI SJ (QI Q)) ∧ (¬ x3 ≤ x4 → gj_Do E om0 (gj_mt 217) [(.ref 81), (.int x4)] SI SJ _)
  refine ⟨fun c1 => ?_, fun c1 => ?_⟩
  · refine gj_goq gj_clT ok_218 [7, 21, 22, 43, 50, 79, 91] ?_
    show QI Q (some (.int x4)) SI SJ
    exact ⟨_, rfl, (h.1 c1)⟩
  · refine gj_Do.mono (h.2 c1) (fun v_ SI2 SJ2 h_ => ?_)
    obtain ⟨r1, rfl, q2⟩ := h_
    show gj_Goes E om0 mt_218 91 [some (.ref 81), none, none, some (.int x3), some (.int x4)] [(.int r1)] SI2 SJ2 (QI Q)
    refine gj_goq gj_clT ok_218 [7, 21, 22, 43, 50, 79, 91] ?_
    show (r1 = 0 → gj_Goes E om0 mt_218 103 [some (.ref 81), none, none, some (.int x3), some (.int x4)] [] SI2 SJ2 (QI Q)) ∧ (¬ r1 = 0 → gj_Goes E om0 mt_218 79 [some (.ref 81), none, none, some (.int x3), some (.int (x4 + (i3 1)))] [] SI2 SJ2 (QI Q))
    refine ⟨fun c3 => ?_, fun c3 => ?_⟩
    · refine gj_goq gj_clT ok_218 [7, 21, 22, 43, 50, 79, 91] ?_
      show QI Q (some (.int x4)) SI2 SJ2
      exact ⟨_, rfl, (q2.1 c3)⟩
    · exact (q2.2 c3)
set_option maxRecDepth 20000 in
/-- GraspJudgeModel.readsLoad -/
theorem st_219 {E : gj_E} {Q : Int32 → gj_I → gj_J → Prop} (SI : gj_I) (SJ : gj_J) (h : (¬ (SI 81 19) = (i3 6) → GoI E mt_219 21 [some (.ref 81), some (.int (i3 0))] SI SJ Q) ∧ ((SI 81 19) = (i3 6) → DoI E 209 [(.ref 81), (.int (i3 4)), (.int (SI 81 14))] SI SJ (fun r1 SI2 SJ2 => (r1 = 0 ∨ r1 = 1) ∧ (Q r1 SI2 SJ2)))) : DoI E 219 [(.ref 81)] SI SJ Q := by
  refine gj_start (M := mt_219) ok_219 (Nat.le_of_ble_eq_true rfl) ?_
  refine gj_goq gj_clT ok_219 [18, 21, 36, 47] ?_
  show (¬ (SI 81 19) = (i3 6) → gj_Goes E om0 mt_219 19 [some (.ref 81), none] [] SI SJ (QI Q)) ∧ ((SI 81 19) = (i3 6) → gj_Do E om0 (gj_mt 209) [(.ref 81), (.int (i3 4)), (.int (SI 81 14))] SI SJ _)
  refine ⟨fun c1 => ?_, fun c1 => ?_⟩
  · refine gj_goq gj_clT ok_219 [18, 21, 36, 47] ?_
    show gj_Goes E om0 mt_219 21 [some (.ref 81), some (.int (i3 0))] [] SI SJ (QI Q)
    exact (h.1 c1)
  · refine gj_Do.mono (h.2 c1) (fun v_ SI2 SJ2 h_ => ?_)
    obtain ⟨r1, rfl, q2⟩ := h_
    show gj_Goes E om0 mt_219 18 [some (.ref 81), none] [(.int r1)] SI2 SJ2 (QI Q)
    refine gj_goq gj_clT ok_219 [18, 21, 36, 47] ?_
    show (r1 = 0 ∨ r1 = 1) ∧ (QI Q (some (.int r1)) SI2 SJ2)
    have k3 := q2.1
    refine ⟨k3, ?_⟩
    exact ⟨_, rfl, q2.2⟩
set_option maxRecDepth 20000 in
theorem lp_219_21 {E : gj_E} {Q : Int32 → gj_I → gj_J → Prop} (x1 : Int32) (SI : gj_I) (SJ : gj_J) (h : ((i3 3) ≤ x1 → Q (i3 1) (gj_u2 SI 81 19 ((SI 81 19) + (i3 1))) SJ) ∧ (¬ (i3 3) ≤ x1 → (x1 ≤ 0 → DoI E 211 [(.ref 81), (.int (i3 3)), (.int (i3 1))] SI SJ (fun r1 SI2 SJ2 => (¬ r1 = 0 → vp_in (((i3 3) * (SI2 81 19)) + x1) 40 ∧ (GoI E mt_219 21 [some (.ref 81), some (.int (x1 + (i3 1)))] (gj_u2 SI2 90 (gj_n (((i3 3) * (SI2 81 19)) + x1)) (SI2 81 17)) SJ2 Q)) ∧ (r1 = 0 → Q (i3 0) SI2 SJ2))) ∧ (¬ x1 ≤ 0 → DoI E 210 [(.ref 81), (.int (i3 44))] SI SJ (fun r3 SI4 SJ4 => (¬ r3 = 0 → DoI E 211 [(.ref 81), (.int (i3 3)), (.int (i3 1))] SI4 SJ4 (fun r5 SI6 SJ6 => (¬ r5 = 0 → vp_in (((i3 3) * (SI6 81 19)) + x1) 40 ∧ (GoI E mt_219 21 [some (.ref 81), some (.int (x1 + (i3 1)))] (gj_u2 SI6 90 (gj_n (((i3 3) * (SI6 81 19)) + x1)) (SI6 81 17)) SJ6 Q)) ∧ (r5 = 0 → Q (i3 0) SI6 SJ6))) ∧ (r3 = 0 → Q (i3 0) SI4 SJ4))))) : GoI E mt_219 21 [some (.ref 81), some (.int x1)] SI SJ Q := by
  refine gj_goq gj_clT ok_219 [18, 21, 36, 47] ?_
  show ((i3 3) ≤ x1 → gj_Goes E om0 mt_219 75 [some (.ref 81), some (.int x1)] [] SI SJ (QI Q)) ∧ (¬ (i3 3) ≤ x1 → (x1 ≤ 0 → gj_Goes E om0 mt_219 41 [some (.ref 81), some (.int x1)] [] SI SJ (QI Q)) ∧ (¬ x1 ≤ 0 → gj_Do E om0 (gj_mt 210) [(.ref 81), (.int (i3 44))] SI SJ _))
  refine ⟨fun c1 => ?_, fun c1 => ?_⟩
  · refine gj_goq gj_clT ok_219 [18, 21, 36, 47] ?_
    show ((i3 1) = 0 ∨ (i3 1) = 1) ∧ (QI Q (some (.int (i3 1))) (gj_u2 SI 81 19 ((SI 81 19) + (i3 1))) SJ)
    refine ⟨(Or.inr rfl), ?_⟩
    exact ⟨_, rfl, (h.1 c1)⟩
  · refine ⟨fun c2 => ?_, fun c2 => ?_⟩
    · refine gj_goq gj_clT ok_219 [18, 21, 36, 47] ?_
      show gj_Do E om0 (gj_mt 211) [(.ref 81), (.int (i3 3)), (.int (i3 1))] SI SJ _
      refine gj_Do.mono ((h.2 c1).1 c2) (fun v_ SI2 SJ2 h_ => ?_)
      obtain ⟨r1, rfl, q3⟩ := h_
      show gj_Goes E om0 mt_219 47 [some (.ref 81), some (.int x1)] [(.int r1)] SI2 SJ2 (QI Q)
      refine gj_goq gj_clT ok_219 [18, 21, 36, 47] ?_
      show (¬ r1 = 0 → gj_Goes E om0 mt_219 52 [some (.ref 81), some (.int x1)] [] SI2 SJ2 (QI Q)) ∧ (r1 = 0 → ((i3 0) = 0 ∨ (i3 0) = 1) ∧ (QI Q (some (.int (i3 0))) SI2 SJ2))
      refine ⟨fun c4 => ?_, fun c4 => ?_⟩
      · refine gj_goq gj_clT ok_219 [18, 21, 36, 47] ?_
        show vp_in (((i3 3) * (SI2 81 19)) + x1) 40 ∧ (gj_Goes E om0 mt_219 21 [some (.ref 81), some (.int (x1 + (i3 1)))] [] (gj_u2 SI2 90 (gj_n (((i3 3) * (SI2 81 19)) + x1)) (SI2 81 17)) SJ2 (QI Q))
        have k5 := (q3.1 c4).1
        refine ⟨k5, ?_⟩
        exact (q3.1 c4).2
      · refine ⟨(Or.inl rfl), ?_⟩
        exact ⟨_, rfl, (q3.2 c4)⟩
    · refine gj_Do.mono ((h.2 c1).2 c2) (fun v_ SI4 SJ4 h_ => ?_)
      obtain ⟨r3, rfl, q6⟩ := h_
      show gj_Goes E om0 mt_219 36 [some (.ref 81), some (.int x1)] [(.int r3)] SI4 SJ4 (QI Q)
      refine gj_goq gj_clT ok_219 [18, 21, 36, 47] ?_
      show (¬ r3 = 0 → gj_Goes E om0 mt_219 41 [some (.ref 81), some (.int x1)] [] SI4 SJ4 (QI Q)) ∧ (r3 = 0 → ((i3 0) = 0 ∨ (i3 0) = 1) ∧ (QI Q (some (.int (i3 0))) SI4 SJ4))
      refine ⟨fun c7 => ?_, fun c7 => ?_⟩
      · refine gj_goq gj_clT ok_219 [18, 21, 36, 47] ?_
        show gj_Do E om0 (gj_mt 211) [(.ref 81), (.int (i3 3)), (.int (i3 1))] SI4 SJ4 _
        refine gj_Do.mono (q6.1 c7) (fun v_ SI6 SJ6 h_ => ?_)
        obtain ⟨r5, rfl, q8⟩ := h_
        show gj_Goes E om0 mt_219 47 [some (.ref 81), some (.int x1)] [(.int r5)] SI6 SJ6 (QI Q)
        refine gj_goq gj_clT ok_219 [18, 21, 36, 47] ?_
        show (¬ r5 = 0 → gj_Goes E om0 mt_219 52 [some (.ref 81), some (.int x1)] [] SI6 SJ6 (QI Q)) ∧ (r5 = 0 → ((i3 0) = 0 ∨ (i3 0) = 1) ∧ (QI Q (some (.int (i3 0))) SI6 SJ6))
        refine ⟨fun c9 => ?_, fun c9 => ?_⟩
        · refine gj_goq gj_clT ok_219 [18, 21, 36, 47] ?_
          show vp_in (((i3 3) * (SI6 81 19)) + x1) 40 ∧ (gj_Goes E om0 mt_219 21 [some (.ref 81), some (.int (x1 + (i3 1)))] [] (gj_u2 SI6 90 (gj_n (((i3 3) * (SI6 81 19)) + x1)) (SI6 81 17)) SJ6 (QI Q))
          have k10 := (q8.1 c9).1
          refine ⟨k10, ?_⟩
          exact (q8.1 c9).2
        · refine ⟨(Or.inl rfl), ?_⟩
          exact ⟨_, rfl, (q8.2 c9)⟩
      · refine ⟨(Or.inl rfl), ?_⟩
        exact ⟨_, rfl, (q6.2 c7)⟩
set_option maxRecDepth 20000 in
/-- GraspJudgeModel.loads -/
theorem st_220 {E : gj_E} {Q : Int32 → gj_I → gj_J → Prop} (a1 : Int32) (SI : gj_I) (SJ : gj_J) (h : DoI E 212 [(.ref 81), (.int a1), (.int (i3 60))] SI SJ (fun r1 SI2 SJ2 => (¬ r1 = 0 → DoI E 219 [(.ref 81)] (gj_u2 SI2 81 19 (i3 0)) SJ2 (fun r3 SI4 SJ4 => GoI E mt_220 22 [some (.ref 81), none, some (.int r3), none] SI4 SJ4 Q)) ∧ (r1 = 0 → Q (i3 (-1)) SI2 SJ2))) : DoI E 220 [(.ref 81), (.int a1)] SI SJ Q := by
  refine gj_start (M := mt_220) ok_220 (Nat.le_of_ble_eq_true rfl) ?_
  refine gj_goq gj_clT ok_220 [7, 21, 22, 43, 50, 84] ?_
  show gj_Do E om0 (gj_mt 212) [(.ref 81), (.int a1), (.int (i3 60))] SI SJ _
  refine gj_Do.mono h (fun v_ SI2 SJ2 h_ => ?_)
  obtain ⟨r1, rfl, q1⟩ := h_
  show gj_Goes E om0 mt_220 7 [some (.ref 81), some (.int a1), none, none] [(.int r1)] SI2 SJ2 (QI Q)
  refine gj_goq gj_clT ok_220 [7, 21, 22, 43, 50, 84] ?_
  show (¬ r1 = 0 → gj_Goes E om0 mt_220 12 [some (.ref 81), some (.int a1), none, none] [] SI2 SJ2 (QI Q)) ∧ (r1 = 0 → QI Q (some (.int (i3 (-1)))) SI2 SJ2)
  refine ⟨fun c2 => ?_, fun c2 => ?_⟩
  · refine gj_goq gj_clT ok_220 [7, 21, 22, 43, 50, 84] ?_
    show gj_Do E om0 (gj_mt 219) [(.ref 81)] (gj_u2 SI2 81 19 (i3 0)) SJ2 _
    refine gj_Do.mono (q1.1 c2) (fun v_ SI4 SJ4 h_ => ?_)
    obtain ⟨r3, rfl, q3⟩ := h_
    show gj_Goes E om0 mt_220 21 [some (.ref 81), some (.int a1), none, none] [(.int r3)] SI4 SJ4 (QI Q)
    refine gj_goq gj_clT ok_220 [7, 21, 22, 43, 50, 84] ?_
    show gj_Goes E om0 mt_220 22 [some (.ref 81), some (.int a1), some (.int r3), none] [] SI4 SJ4 (QI Q)
    exact gj_fh q3 (And.intro (Or.inr rfl) (And.intro (Or.inl rfl) (And.intro (Or.inr rfl) (And.intro (Or.inl rfl) trivial))))
  · exact ⟨_, rfl, (q1.2 c2)⟩
set_option maxRecDepth 20000 in
theorem lp_220_22 {E : gj_E} {Q : Int32 → gj_I → gj_J → Prop} (x2 : Int32) (SI : gj_I) (SJ : gj_J) (h : (x2 = 0 → (¬ x2 = 0 → GoI E mt_220 84 [some (.ref 81), none, none, some (.int (i3 0))] (gj_u2 SI 82 116 (SI 81 19)) SJ Q) ∧ (x2 = 0 → Q (SI 81 16) SI SJ)) ∧ (¬ x2 = 0 → ((SI 81 15) ≤ (SI 81 14) → (¬ x2 = 0 → GoI E mt_220 84 [some (.ref 81), none, none, some (.int (i3 0))] (gj_u2 SI 82 116 (SI 81 19)) SJ Q) ∧ (x2 = 0 → Q (SI 81 16) SI SJ)) ∧ (¬ (SI 81 15) ≤ (SI 81 14) → DoI E 210 [(.ref 81), (.int (i3 59))] SI SJ (fun r1 SI2 SJ2 => (r1 = 0 → GoI E mt_220 22 [some (.ref 81), none, some (.int (i3 0)), none] SI2 SJ2 Q) ∧ (¬ r1 = 0 → DoI E 219 [(.ref 81)] SI2 SJ2 (fun r3 SI4 SJ4 => (r3 = 0 → GoI E mt_220 22 [some (.ref 81), none, some (.int (i3 0)), none] SI4 SJ4 Q) ∧ (¬ r3 = 0 → GoI E mt_220 22 [some (.ref 81), none, some (.int (i3 1)), none] SI4 SJ4 Q))))))) : GoI E mt_220 22 [some (.ref 81), none, some (.int x2), none] SI SJ Q := by
  refine gj_goq gj_clT ok_220 [7, 21, 22, 43, 50, 84] ?_
  show (x2 = 0 → gj_Goes E om0 mt_220 62 [some (.ref 81), none, some (.int x2), none] [] SI SJ (QI Q)) ∧ (¬ x2 = 0 → ((SI 81 15) ≤ (SI 81 14) → gj_Goes E om0 mt_220 62 [some (.ref 81), none, some (.int x2), none] [] SI SJ (QI Q)) ∧ (¬ (SI 81 15) ≤ (SI 81 14) → gj_Do E om0 (gj_mt 210) [(.ref 81), (.int (i3 59))] SI SJ _))
  refine ⟨fun c1 => ?_, fun c1 => ?_⟩
  · refine gj_goq gj_clT ok_220 [7, 21, 22, 43, 50, 84] ?_
    show (¬ x2 = 0 → gj_Goes E om0 mt_220 71 [some (.ref 81), none, some (.int x2), none] [] SI SJ (QI Q)) ∧ (x2 = 0 → QI Q (some (.int (SI 81 16))) SI SJ)
    refine ⟨fun c2 => ?_, fun c2 => ?_⟩
    · refine gj_goq gj_clT ok_220 [7, 21, 22, 43, 50, 84] ?_
      show vp_in (i3 116) 135 ∧ (gj_Goes E om0 mt_220 84 [some (.ref 81), none, some (.int x2), some (.int (i3 0))] [] (gj_u2 SI 82 116 (SI 81 19)) SJ (QI Q))
      refine ⟨(gj_vin (by decide)), ?_⟩
      exact gj_fh ((h.1 c1).1 c2) (And.intro (Or.inr rfl) (And.intro (Or.inl rfl) (And.intro (Or.inl rfl) (And.intro (Or.inr rfl) trivial))))
    · exact ⟨_, rfl, ((h.1 c1).2 c2)⟩
  · refine ⟨fun c3 => ?_, fun c3 => ?_⟩
    · refine gj_goq gj_clT ok_220 [7, 21, 22, 43, 50, 84] ?_
      show (¬ x2 = 0 → gj_Goes E om0 mt_220 71 [some (.ref 81), none, some (.int x2), none] [] SI SJ (QI Q)) ∧ (x2 = 0 → QI Q (some (.int (SI 81 16))) SI SJ)
      refine ⟨fun c4 => ?_, fun c4 => ?_⟩
      · refine gj_goq gj_clT ok_220 [7, 21, 22, 43, 50, 84] ?_
        show vp_in (i3 116) 135 ∧ (gj_Goes E om0 mt_220 84 [some (.ref 81), none, some (.int x2), some (.int (i3 0))] [] (gj_u2 SI 82 116 (SI 81 19)) SJ (QI Q))
        refine ⟨(gj_vin (by decide)), ?_⟩
        exact gj_fh (((h.2 c1).1 c3).1 c4) (And.intro (Or.inr rfl) (And.intro (Or.inl rfl) (And.intro (Or.inl rfl) (And.intro (Or.inr rfl) trivial))))
      · exact ⟨_, rfl, (((h.2 c1).1 c3).2 c4)⟩
    · refine gj_Do.mono ((h.2 c1).2 c3) (fun v_ SI2 SJ2 h_ => ?_)
      obtain ⟨r1, rfl, q5⟩ := h_
      show gj_Goes E om0 mt_220 43 [some (.ref 81), none, some (.int x2), none] [(.int r1)] SI2 SJ2 (QI Q)
      refine gj_goq gj_clT ok_220 [7, 21, 22, 43, 50, 84] ?_
      show (r1 = 0 → gj_Goes E om0 mt_220 57 [some (.ref 81), none, some (.int x2), none] [] SI2 SJ2 (QI Q)) ∧ (¬ r1 = 0 → gj_Do E om0 (gj_mt 219) [(.ref 81)] SI2 SJ2 _)
      refine ⟨fun c6 => ?_, fun c6 => ?_⟩
      · refine gj_goq gj_clT ok_220 [7, 21, 22, 43, 50, 84] ?_
        show gj_Goes E om0 mt_220 22 [some (.ref 81), none, some (.int (i3 0)), none] [] SI2 SJ2 (QI Q)
        exact (q5.1 c6)
      · refine gj_Do.mono (q5.2 c6) (fun v_ SI4 SJ4 h_ => ?_)
        obtain ⟨r3, rfl, q7⟩ := h_
        show gj_Goes E om0 mt_220 50 [some (.ref 81), none, some (.int x2), none] [(.int r3)] SI4 SJ4 (QI Q)
        refine gj_goq gj_clT ok_220 [7, 21, 22, 43, 50, 84] ?_
        show (r3 = 0 → gj_Goes E om0 mt_220 57 [some (.ref 81), none, some (.int x2), none] [] SI4 SJ4 (QI Q)) ∧ (¬ r3 = 0 → gj_Goes E om0 mt_220 58 [some (.ref 81), none, some (.int x2), none] [(.int (i3 1))] SI4 SJ4 (QI Q))
        refine ⟨fun c8 => ?_, fun c8 => ?_⟩
        · refine gj_goq gj_clT ok_220 [7, 21, 22, 43, 50, 84] ?_
          show gj_Goes E om0 mt_220 22 [some (.ref 81), none, some (.int (i3 0)), none] [] SI4 SJ4 (QI Q)
          exact (q7.1 c8)
        · refine gj_goq gj_clT ok_220 [7, 21, 22, 43, 50, 84] ?_
          show gj_Goes E om0 mt_220 22 [some (.ref 81), none, some (.int (i3 1)), none] [] SI4 SJ4 (QI Q)
          exact (q7.2 c8)
set_option maxRecDepth 20000 in
theorem lp_220_84 {E : gj_E} {Q : Int32 → gj_I → gj_J → Prop} (x3 : Int32) (SI : gj_I) (SJ : gj_J) (h : (((i3 3) * (SI 81 19)) ≤ x3 → Q (SI 81 19) SI SJ) ∧ (¬ ((i3 3) * (SI 81 19)) ≤ x3 → vp_in x3 40 ∧ (vp_in ((i3 117) + x3) 135 ∧ (GoI E mt_220 84 [some (.ref 81), none, none, some (.int (x3 + (i3 1)))] (gj_u2 SI 82 (gj_n ((i3 117) + x3)) (SI 90 (gj_n x3))) SJ Q)))) : GoI E mt_220 84 [some (.ref 81), none, none, some (.int x3)] SI SJ Q := by
  refine gj_goq gj_clT ok_220 [7, 21, 22, 43, 50, 84] ?_
  show (((i3 3) * (SI 81 19)) ≤ x3 → gj_Goes E om0 mt_220 115 [some (.ref 81), none, none, some (.int x3)] [] SI SJ (QI Q)) ∧ (¬ ((i3 3) * (SI 81 19)) ≤ x3 → vp_in x3 40 ∧ (vp_in ((i3 117) + x3) 135 ∧ (gj_Goes E om0 mt_220 84 [some (.ref 81), none, none, some (.int (x3 + (i3 1)))] [] (gj_u2 SI 82 (gj_n ((i3 117) + x3)) (SI 90 (gj_n x3))) SJ (QI Q))))
  refine ⟨fun c1 => ?_, fun c1 => ?_⟩
  · refine gj_goq gj_clT ok_220 [7, 21, 22, 43, 50, 84] ?_
    show QI Q (some (.int (SI 81 19))) SI SJ
    exact ⟨_, rfl, (h.1 c1)⟩
  · have k2 := (h.2 c1).1
    refine ⟨k2, ?_⟩
    have k3 := (h.2 c1).2.1
    refine ⟨k3, ?_⟩
    exact (h.2 c1).2.2
set_option maxRecDepth 20000 in
/-- GraspJudgeModel.three -/
theorem st_221 {E : gj_E} {Q : Int64 → gj_I → gj_J → Prop} (a1 : Int64) (a2 : Int64) (a3 : Int64) (a4 : Int64) (a5 : Int64) (a6 : Int64) (a7 : Int64) (a8 : Int64) (a9 : Int64) (SI : gj_I) (SJ : gj_J) (h : Q (((a1 * ((a5 * a9) - (a6 * a8))) - (a2 * ((a4 * a9) - (a6 * a7)))) + (a3 * ((a4 * a8) - (a5 * a7)))) SI SJ) : DoL E 221 [(.long a1), (.long a2), (.long a3), (.long a4), (.long a5), (.long a6), (.long a7), (.long a8), (.long a9)] SI SJ Q := by
  refine gj_start (M := mt_221) ok_221 (Nat.le_of_ble_eq_true rfl) ?_
  refine gj_goq gj_clT ok_221 [] ?_
  show QL Q (some (.long (((a1 * ((a5 * a9) - (a6 * a8))) - (a2 * ((a4 * a9) - (a6 * a7)))) + (a3 * ((a4 * a8) - (a5 * a7)))))) SI SJ
  exact ⟨_, rfl, h⟩
set_option maxRecDepth 20000 in
/-- GraspJudgeModel.straightens -/
theorem st_222 {E : gj_E} {Q : gj_I → gj_J → Prop} (SI : gj_I) (SJ : gj_J) (h : ((SJ 81 24) ≤ (i6 0) → GoV E mt_222 21 [some (.ref 81), some (.int (i3 0))] SI (gj_w2 SJ 81 24 (-(SJ 81 24))) Q) ∧ (¬ (SJ 81 24) ≤ (i6 0) → Q SI SJ)) : DoV E 222 [(.ref 81)] SI SJ Q := by
  refine gj_start (M := mt_222) ok_222 (Nat.le_of_ble_eq_true rfl) ?_
  refine gj_goq gj_clT ok_222 [21] ?_
  show ((lg_cmp (SJ 81 24) (i6 0)) ≤ 0 → gj_Goes E om0 mt_222 10 [some (.ref 81), none] [] SI SJ (QV Q)) ∧ (¬ (lg_cmp (SJ 81 24) (i6 0)) ≤ 0 → QV Q none SI SJ)
  refine ⟨fun c1 => ?_, fun c1 => ?_⟩
  · refine gj_goq gj_clT ok_222 [21] ?_
    show gj_Goes E om0 mt_222 21 [some (.ref 81), some (.int (i3 0))] [] SI (gj_w2 SJ 81 24 (-(SJ 81 24))) (QV Q)
    exact (h.1 (lgc_le.mp c1))
  · exact ⟨rfl, (h.2 (fun z_ => c1 (lgc_le.mpr z_)))⟩
set_option maxRecDepth 20000 in
theorem lp_222_21 {E : gj_E} {Q : gj_I → gj_J → Prop} (x1 : Int32) (SI : gj_I) (SJ : gj_J) (h : ((i3 3) ≤ x1 → Q SI SJ) ∧ (¬ (i3 3) ≤ x1 → vp_in x1 3 ∧ (GoV E mt_222 21 [some (.ref 81), some (.int (x1 + (i3 1)))] SI (gj_w2 SJ 92 (gj_n x1) (-(SJ 92 (gj_n x1)))) Q))) : GoV E mt_222 21 [some (.ref 81), some (.int x1)] SI SJ Q := by
  refine gj_goq gj_clT ok_222 [21] ?_
  show ((i3 3) ≤ x1 → gj_Goes E om0 mt_222 45 [some (.ref 81), some (.int x1)] [] SI SJ (QV Q)) ∧ (¬ (i3 3) ≤ x1 → vp_in x1 3 ∧ (vp_in x1 3 ∧ (gj_Goes E om0 mt_222 21 [some (.ref 81), some (.int (x1 + (i3 1)))] [] SI (gj_w2 SJ 92 (gj_n x1) (-(SJ 92 (gj_n x1)))) (QV Q))))
  refine ⟨fun c1 => ?_, fun c1 => ?_⟩
  · refine gj_goq gj_clT ok_222 [21] ?_
    show QV Q none SI SJ
    exact ⟨rfl, (h.1 c1)⟩
  · have k2 := (h.2 c1).1
    refine ⟨k2, ?_⟩
    refine ⟨k2, ?_⟩
    exact (h.2 c1).2
set_option maxRecDepth 20000 in
/-- GraspJudgeModel.solvesOne -/
theorem st_223 {E : gj_E} {Q : Int32 → gj_I → gj_J → Prop} (SI : gj_I) (SJ : gj_J) (h : vp_in (SI 93 0) 16 ∧ (((SJ 85 (gj_n (SI 93 0))) = (i6 0) → ((SJ 85 (gj_n (SI 93 0))) = (i6 0) → DoV E 222 [(.ref 81)] SI (gj_w2 (gj_w2 SJ 81 24 (SJ 86 (gj_n (SI 93 0)))) 92 0 (SJ 81 22)) (fun SI2 SJ2 => (¬ ((SJ2 92 0) * (SJ2 85 (gj_n (SI 93 0)))) = ((SJ2 81 21) * (SJ2 81 24)) → Q (i3 0) SI2 SJ2) ∧ (((SJ2 92 0) * (SJ2 85 (gj_n (SI 93 0)))) = ((SJ2 81 21) * (SJ2 81 24)) → (¬ ((SJ2 92 0) * (SJ2 86 (gj_n (SI 93 0)))) = ((SJ2 81 22) * (SJ2 81 24)) → Q (i3 0) SI2 SJ2) ∧ (((SJ2 92 0) * (SJ2 86 (gj_n (SI 93 0)))) = ((SJ2 81 22) * (SJ2 81 24)) → (¬ ((SJ2 92 0) * (SJ2 87 (gj_n (SI 93 0)))) = ((SJ2 81 23) * (SJ2 81 24)) → Q (i3 0) SI2 SJ2) ∧ (((SJ2 92 0) * (SJ2 87 (gj_n (SI 93 0)))) = ((SJ2 81 23) * (SJ2 81 24)) → ((SJ2 92 0) ≤ (i6 0) → Q (i3 0) SI2 SJ2) ∧ (¬ (SJ2 92 0) ≤ (i6 0) → Q (i3 1) SI2 SJ2)))))) ∧ (¬ (SJ 85 (gj_n (SI 93 0))) = (i6 0) → DoV E 222 [(.ref 81)] SI (gj_w2 (gj_w2 SJ 81 24 (SJ 86 (gj_n (SI 93 0)))) 92 0 (SJ 81 21)) (fun SI4 SJ4 => (¬ ((SJ4 92 0) * (SJ4 85 (gj_n (SI 93 0)))) = ((SJ4 81 21) * (SJ4 81 24)) → Q (i3 0) SI4 SJ4) ∧ (((SJ4 92 0) * (SJ4 85 (gj_n (SI 93 0)))) = ((SJ4 81 21) * (SJ4 81 24)) → (¬ ((SJ4 92 0) * (SJ4 86 (gj_n (SI 93 0)))) = ((SJ4 81 22) * (SJ4 81 24)) → Q (i3 0) SI4 SJ4) ∧ (((SJ4 92 0) * (SJ4 86 (gj_n (SI 93 0)))) = ((SJ4 81 22) * (SJ4 81 24)) → (¬ ((SJ4 92 0) * (SJ4 87 (gj_n (SI 93 0)))) = ((SJ4 81 23) * (SJ4 81 24)) → Q (i3 0) SI4 SJ4) ∧ (((SJ4 92 0) * (SJ4 87 (gj_n (SI 93 0)))) = ((SJ4 81 23) * (SJ4 81 24)) → ((SJ4 92 0) ≤ (i6 0) → Q (i3 0) SI4 SJ4) ∧ (¬ (SJ4 92 0) ≤ (i6 0) → Q (i3 1) SI4 SJ4))))))) ∧ (¬ (SJ 85 (gj_n (SI 93 0))) = (i6 0) → ((SJ 85 (gj_n (SI 93 0))) = (i6 0) → DoV E 222 [(.ref 81)] SI (gj_w2 (gj_w2 SJ 81 24 (SJ 85 (gj_n (SI 93 0)))) 92 0 (SJ 81 22)) (fun SI6 SJ6 => (¬ ((SJ6 92 0) * (SJ6 85 (gj_n (SI 93 0)))) = ((SJ6 81 21) * (SJ6 81 24)) → Q (i3 0) SI6 SJ6) ∧ (((SJ6 92 0) * (SJ6 85 (gj_n (SI 93 0)))) = ((SJ6 81 21) * (SJ6 81 24)) → (¬ ((SJ6 92 0) * (SJ6 86 (gj_n (SI 93 0)))) = ((SJ6 81 22) * (SJ6 81 24)) → Q (i3 0) SI6 SJ6) ∧ (((SJ6 92 0) * (SJ6 86 (gj_n (SI 93 0)))) = ((SJ6 81 22) * (SJ6 81 24)) → (¬ ((SJ6 92 0) * (SJ6 87 (gj_n (SI 93 0)))) = ((SJ6 81 23) * (SJ6 81 24)) → Q (i3 0) SI6 SJ6) ∧ (((SJ6 92 0) * (SJ6 87 (gj_n (SI 93 0)))) = ((SJ6 81 23) * (SJ6 81 24)) → ((SJ6 92 0) ≤ (i6 0) → Q (i3 0) SI6 SJ6) ∧ (¬ (SJ6 92 0) ≤ (i6 0) → Q (i3 1) SI6 SJ6)))))) ∧ (¬ (SJ 85 (gj_n (SI 93 0))) = (i6 0) → DoV E 222 [(.ref 81)] SI (gj_w2 (gj_w2 SJ 81 24 (SJ 85 (gj_n (SI 93 0)))) 92 0 (SJ 81 21)) (fun SI8 SJ8 => (¬ ((SJ8 92 0) * (SJ8 85 (gj_n (SI 93 0)))) = ((SJ8 81 21) * (SJ8 81 24)) → Q (i3 0) SI8 SJ8) ∧ (((SJ8 92 0) * (SJ8 85 (gj_n (SI 93 0)))) = ((SJ8 81 21) * (SJ8 81 24)) → (¬ ((SJ8 92 0) * (SJ8 86 (gj_n (SI 93 0)))) = ((SJ8 81 22) * (SJ8 81 24)) → Q (i3 0) SI8 SJ8) ∧ (((SJ8 92 0) * (SJ8 86 (gj_n (SI 93 0)))) = ((SJ8 81 22) * (SJ8 81 24)) → (¬ ((SJ8 92 0) * (SJ8 87 (gj_n (SI 93 0)))) = ((SJ8 81 23) * (SJ8 81 24)) → Q (i3 0) SI8 SJ8) ∧ (((SJ8 92 0) * (SJ8 87 (gj_n (SI 93 0)))) = ((SJ8 81 23) * (SJ8 81 24)) → ((SJ8 92 0) ≤ (i6 0) → Q (i3 0) SI8 SJ8) ∧ (¬ (SJ8 92 0) ≤ (i6 0) → Q (i3 1) SI8 SJ8))))))))) : DoI E 223 [(.ref 81)] SI SJ Q := by
  refine gj_start (M := mt_223) ok_223 (Nat.le_of_ble_eq_true rfl) ?_
  refine gj_goq gj_clT ok_223 [69] ?_
  show vp_in (i3 0) 3 ∧ (vp_in (SI 93 0) 16 ∧ (((lg_cmp (SJ 85 (gj_n (SI 93 0))) (i6 0)) = 0 → gj_Goes E om0 mt_223 28 [some (.ref 81), some (.int (SI 93 0))] [(.ref 81)] SI SJ (QI Q)) ∧ (¬ (lg_cmp (SJ 85 (gj_n (SI 93 0))) (i6 0)) = 0 → vp_in (SI 93 0) 16 ∧ (gj_Goes E om0 mt_223 34 [some (.ref 81), some (.int (SI 93 0))] [(.long (SJ 85 (gj_n (SI 93 0)))), (.ref 81)] SI SJ (QI Q)))))
  refine ⟨(gj_vin (by decide)), ?_⟩
  have k1 := h.1
  refine ⟨k1, ?_⟩
  refine ⟨fun c2 => ?_, fun c2 => ?_⟩
  · refine gj_goq gj_clT ok_223 [69] ?_
    show vp_in (SI 93 0) 16 ∧ (vp_in (SI 93 0) 16 ∧ (((lg_cmp (SJ 85 (gj_n (SI 93 0))) (i6 0)) = 0 → gj_Goes E om0 mt_223 60 [some (.ref 81), some (.int (SI 93 0))] [(.int (i3 0)), (.ref 92)] SI (gj_w2 SJ 81 24 (SJ 86 (gj_n (SI 93 0)))) (QI Q)) ∧ (¬ (lg_cmp (SJ 85 (gj_n (SI 93 0))) (i6 0)) = 0 → gj_Goes E om0 mt_223 64 [some (.ref 81), some (.int (SI 93 0))] [(.long (SJ 81 21)), (.int (i3 0)), (.ref 92)] SI (gj_w2 SJ 81 24 (SJ 86 (gj_n (SI 93 0)))) (QI Q))))
    refine ⟨k1, ?_⟩
    refine ⟨k1, ?_⟩
    refine ⟨fun c3 => ?_, fun c3 => ?_⟩
    · refine gj_goq gj_clT ok_223 [69] ?_
      show vp_in (i3 0) 3 ∧ (gj_Do E om0 (gj_mt 222) [(.ref 81)] SI (gj_w2 (gj_w2 SJ 81 24 (SJ 86 (gj_n (SI 93 0)))) 92 0 (SJ 81 22)) _)
      refine ⟨(gj_vin (by decide)), ?_⟩
      refine gj_Do.mono ((h.2.1 (lgc_eq.mp c2)).1 (lgc_eq.mp c3)) (fun v_ SI2 SJ2 h_ => ?_)
      obtain ⟨rfl, q4⟩ := h_
      show gj_Goes E om0 mt_223 69 [some (.ref 81), some (.int (SI 93 0))] [] SI2 SJ2 (QI Q)
      refine gj_goq gj_clT ok_223 [69] ?_
      show vp_in (i3 0) 3 ∧ (vp_in (SI 93 0) 16 ∧ ((¬ (lg_cmp ((SJ2 92 0) * (SJ2 85 (gj_n (SI 93 0)))) ((SJ2 81 21) * (SJ2 81 24))) = 0 → gj_Goes E om0 mt_223 162 [some (.ref 81), some (.int (SI 93 0))] [] SI2 SJ2 (QI Q)) ∧ ((lg_cmp ((SJ2 92 0) * (SJ2 85 (gj_n (SI 93 0)))) ((SJ2 81 21) * (SJ2 81 24))) = 0 → vp_in (i3 0) 3 ∧ (vp_in (SI 93 0) 16 ∧ ((¬ (lg_cmp ((SJ2 92 0) * (SJ2 86 (gj_n (SI 93 0)))) ((SJ2 81 22) * (SJ2 81 24))) = 0 → gj_Goes E om0 mt_223 162 [some (.ref 81), some (.int (SI 93 0))] [] SI2 SJ2 (QI Q)) ∧ ((lg_cmp ((SJ2 92 0) * (SJ2 86 (gj_n (SI 93 0)))) ((SJ2 81 22) * (SJ2 81 24))) = 0 → vp_in (i3 0) 3 ∧ (vp_in (SI 93 0) 16 ∧ ((¬ (lg_cmp ((SJ2 92 0) * (SJ2 87 (gj_n (SI 93 0)))) ((SJ2 81 23) * (SJ2 81 24))) = 0 → gj_Goes E om0 mt_223 162 [some (.ref 81), some (.int (SI 93 0))] [] SI2 SJ2 (QI Q)) ∧ ((lg_cmp ((SJ2 92 0) * (SJ2 87 (gj_n (SI 93 0)))) ((SJ2 81 23) * (SJ2 81 24))) = 0 → vp_in (i3 0) 3 ∧ (((lg_cmp (SJ2 92 0) (i6 0)) ≤ 0 → gj_Goes E om0 mt_223 162 [some (.ref 81), some (.int (SI 93 0))] [] SI2 SJ2 (QI Q)) ∧ (¬ (lg_cmp (SJ2 92 0) (i6 0)) ≤ 0 → gj_Goes E om0 mt_223 163 [some (.ref 81), some (.int (SI 93 0))] [(.int (i3 1))] SI2 SJ2 (QI Q))))))))))))
      refine ⟨(gj_vin (by decide)), ?_⟩
      refine ⟨k1, ?_⟩
      refine ⟨fun c5 => ?_, fun c5 => ?_⟩
      · refine gj_goq gj_clT ok_223 [69] ?_
        show ((i3 0) = 0 ∨ (i3 0) = 1) ∧ (QI Q (some (.int (i3 0))) SI2 SJ2)
        refine ⟨(Or.inl rfl), ?_⟩
        exact ⟨_, rfl, (q4.1 (fun z_ => c5 (lgc_eq.mpr z_)))⟩
      · refine ⟨(gj_vin (by decide)), ?_⟩
        refine ⟨k1, ?_⟩
        refine ⟨fun c6 => ?_, fun c6 => ?_⟩
        · refine gj_goq gj_clT ok_223 [69] ?_
          show ((i3 0) = 0 ∨ (i3 0) = 1) ∧ (QI Q (some (.int (i3 0))) SI2 SJ2)
          refine ⟨(Or.inl rfl), ?_⟩
          exact ⟨_, rfl, ((q4.2 (lgc_eq.mp c5)).1 (fun z_ => c6 (lgc_eq.mpr z_)))⟩
        · refine ⟨(gj_vin (by decide)), ?_⟩
          refine ⟨k1, ?_⟩
          refine ⟨fun c7 => ?_, fun c7 => ?_⟩
          · refine gj_goq gj_clT ok_223 [69] ?_
            show ((i3 0) = 0 ∨ (i3 0) = 1) ∧ (QI Q (some (.int (i3 0))) SI2 SJ2)
            refine ⟨(Or.inl rfl), ?_⟩
            exact ⟨_, rfl, (((q4.2 (lgc_eq.mp c5)).2 (lgc_eq.mp c6)).1 (fun z_ => c7 (lgc_eq.mpr z_)))⟩
          · refine ⟨(gj_vin (by decide)), ?_⟩
            refine ⟨fun c8 => ?_, fun c8 => ?_⟩
            · refine gj_goq gj_clT ok_223 [69] ?_
              show ((i3 0) = 0 ∨ (i3 0) = 1) ∧ (QI Q (some (.int (i3 0))) SI2 SJ2)
              refine ⟨(Or.inl rfl), ?_⟩
              exact ⟨_, rfl, ((((q4.2 (lgc_eq.mp c5)).2 (lgc_eq.mp c6)).2 (lgc_eq.mp c7)).1 (lgc_le.mp c8))⟩
            · refine gj_goq gj_clT ok_223 [69] ?_
              show ((i3 1) = 0 ∨ (i3 1) = 1) ∧ (QI Q (some (.int (i3 1))) SI2 SJ2)
              refine ⟨(Or.inr rfl), ?_⟩
              exact ⟨_, rfl, ((((q4.2 (lgc_eq.mp c5)).2 (lgc_eq.mp c6)).2 (lgc_eq.mp c7)).2 (fun z_ => c8 (lgc_le.mpr z_)))⟩
    · refine gj_goq gj_clT ok_223 [69] ?_
      show vp_in (i3 0) 3 ∧ (gj_Do E om0 (gj_mt 222) [(.ref 81)] SI (gj_w2 (gj_w2 SJ 81 24 (SJ 86 (gj_n (SI 93 0)))) 92 0 (SJ 81 21)) _)
      refine ⟨(gj_vin (by decide)), ?_⟩
      refine gj_Do.mono ((h.2.1 (lgc_eq.mp c2)).2 (fun z_ => c3 (lgc_eq.mpr z_))) (fun v_ SI4 SJ4 h_ => ?_)
      obtain ⟨rfl, q9⟩ := h_
      show gj_Goes E om0 mt_223 69 [some (.ref 81), some (.int (SI 93 0))] [] SI4 SJ4 (QI Q)
      refine gj_goq gj_clT ok_223 [69] ?_
      show vp_in (i3 0) 3 ∧ (vp_in (SI 93 0) 16 ∧ ((¬ (lg_cmp ((SJ4 92 0) * (SJ4 85 (gj_n (SI 93 0)))) ((SJ4 81 21) * (SJ4 81 24))) = 0 → gj_Goes E om0 mt_223 162 [some (.ref 81), some (.int (SI 93 0))] [] SI4 SJ4 (QI Q)) ∧ ((lg_cmp ((SJ4 92 0) * (SJ4 85 (gj_n (SI 93 0)))) ((SJ4 81 21) * (SJ4 81 24))) = 0 → vp_in (i3 0) 3 ∧ (vp_in (SI 93 0) 16 ∧ ((¬ (lg_cmp ((SJ4 92 0) * (SJ4 86 (gj_n (SI 93 0)))) ((SJ4 81 22) * (SJ4 81 24))) = 0 → gj_Goes E om0 mt_223 162 [some (.ref 81), some (.int (SI 93 0))] [] SI4 SJ4 (QI Q)) ∧ ((lg_cmp ((SJ4 92 0) * (SJ4 86 (gj_n (SI 93 0)))) ((SJ4 81 22) * (SJ4 81 24))) = 0 → vp_in (i3 0) 3 ∧ (vp_in (SI 93 0) 16 ∧ ((¬ (lg_cmp ((SJ4 92 0) * (SJ4 87 (gj_n (SI 93 0)))) ((SJ4 81 23) * (SJ4 81 24))) = 0 → gj_Goes E om0 mt_223 162 [some (.ref 81), some (.int (SI 93 0))] [] SI4 SJ4 (QI Q)) ∧ ((lg_cmp ((SJ4 92 0) * (SJ4 87 (gj_n (SI 93 0)))) ((SJ4 81 23) * (SJ4 81 24))) = 0 → vp_in (i3 0) 3 ∧ (((lg_cmp (SJ4 92 0) (i6 0)) ≤ 0 → gj_Goes E om0 mt_223 162 [some (.ref 81), some (.int (SI 93 0))] [] SI4 SJ4 (QI Q)) ∧ (¬ (lg_cmp (SJ4 92 0) (i6 0)) ≤ 0 → gj_Goes E om0 mt_223 163 [some (.ref 81), some (.int (SI 93 0))] [(.int (i3 1))] SI4 SJ4 (QI Q))))))))))))
      refine ⟨(gj_vin (by decide)), ?_⟩
      refine ⟨k1, ?_⟩
      refine ⟨fun c10 => ?_, fun c10 => ?_⟩
      · refine gj_goq gj_clT ok_223 [69] ?_
        show ((i3 0) = 0 ∨ (i3 0) = 1) ∧ (QI Q (some (.int (i3 0))) SI4 SJ4)
        refine ⟨(Or.inl rfl), ?_⟩
        exact ⟨_, rfl, (q9.1 (fun z_ => c10 (lgc_eq.mpr z_)))⟩
      · refine ⟨(gj_vin (by decide)), ?_⟩
        refine ⟨k1, ?_⟩
        refine ⟨fun c11 => ?_, fun c11 => ?_⟩
        · refine gj_goq gj_clT ok_223 [69] ?_
          show ((i3 0) = 0 ∨ (i3 0) = 1) ∧ (QI Q (some (.int (i3 0))) SI4 SJ4)
          refine ⟨(Or.inl rfl), ?_⟩
          exact ⟨_, rfl, ((q9.2 (lgc_eq.mp c10)).1 (fun z_ => c11 (lgc_eq.mpr z_)))⟩
        · refine ⟨(gj_vin (by decide)), ?_⟩
          refine ⟨k1, ?_⟩
          refine ⟨fun c12 => ?_, fun c12 => ?_⟩
          · refine gj_goq gj_clT ok_223 [69] ?_
            show ((i3 0) = 0 ∨ (i3 0) = 1) ∧ (QI Q (some (.int (i3 0))) SI4 SJ4)
            refine ⟨(Or.inl rfl), ?_⟩
            exact ⟨_, rfl, (((q9.2 (lgc_eq.mp c10)).2 (lgc_eq.mp c11)).1 (fun z_ => c12 (lgc_eq.mpr z_)))⟩
          · refine ⟨(gj_vin (by decide)), ?_⟩
            refine ⟨fun c13 => ?_, fun c13 => ?_⟩
            · refine gj_goq gj_clT ok_223 [69] ?_
              show ((i3 0) = 0 ∨ (i3 0) = 1) ∧ (QI Q (some (.int (i3 0))) SI4 SJ4)
              refine ⟨(Or.inl rfl), ?_⟩
              exact ⟨_, rfl, ((((q9.2 (lgc_eq.mp c10)).2 (lgc_eq.mp c11)).2 (lgc_eq.mp c12)).1 (lgc_le.mp c13))⟩
            · refine gj_goq gj_clT ok_223 [69] ?_
              show ((i3 1) = 0 ∨ (i3 1) = 1) ∧ (QI Q (some (.int (i3 1))) SI4 SJ4)
              refine ⟨(Or.inr rfl), ?_⟩
              exact ⟨_, rfl, ((((q9.2 (lgc_eq.mp c10)).2 (lgc_eq.mp c11)).2 (lgc_eq.mp c12)).2 (fun z_ => c13 (lgc_le.mpr z_)))⟩
  · refine ⟨k1, ?_⟩
    refine gj_goq gj_clT ok_223 [69] ?_
    show vp_in (SI 93 0) 16 ∧ (((lg_cmp (SJ 85 (gj_n (SI 93 0))) (i6 0)) = 0 → gj_Goes E om0 mt_223 60 [some (.ref 81), some (.int (SI 93 0))] [(.int (i3 0)), (.ref 92)] SI (gj_w2 SJ 81 24 (SJ 85 (gj_n (SI 93 0)))) (QI Q)) ∧ (¬ (lg_cmp (SJ 85 (gj_n (SI 93 0))) (i6 0)) = 0 → gj_Goes E om0 mt_223 64 [some (.ref 81), some (.int (SI 93 0))] [(.long (SJ 81 21)), (.int (i3 0)), (.ref 92)] SI (gj_w2 SJ 81 24 (SJ 85 (gj_n (SI 93 0)))) (QI Q)))
    refine ⟨k1, ?_⟩
    refine ⟨fun c14 => ?_, fun c14 => ?_⟩
    · refine gj_goq gj_clT ok_223 [69] ?_
      show vp_in (i3 0) 3 ∧ (gj_Do E om0 (gj_mt 222) [(.ref 81)] SI (gj_w2 (gj_w2 SJ 81 24 (SJ 85 (gj_n (SI 93 0)))) 92 0 (SJ 81 22)) _)
      refine ⟨(gj_vin (by decide)), ?_⟩
      refine gj_Do.mono ((h.2.2 (fun z_ => c2 (lgc_eq.mpr z_))).1 (lgc_eq.mp c14)) (fun v_ SI6 SJ6 h_ => ?_)
      obtain ⟨rfl, q15⟩ := h_
      show gj_Goes E om0 mt_223 69 [some (.ref 81), some (.int (SI 93 0))] [] SI6 SJ6 (QI Q)
      refine gj_goq gj_clT ok_223 [69] ?_
      show vp_in (i3 0) 3 ∧ (vp_in (SI 93 0) 16 ∧ ((¬ (lg_cmp ((SJ6 92 0) * (SJ6 85 (gj_n (SI 93 0)))) ((SJ6 81 21) * (SJ6 81 24))) = 0 → gj_Goes E om0 mt_223 162 [some (.ref 81), some (.int (SI 93 0))] [] SI6 SJ6 (QI Q)) ∧ ((lg_cmp ((SJ6 92 0) * (SJ6 85 (gj_n (SI 93 0)))) ((SJ6 81 21) * (SJ6 81 24))) = 0 → vp_in (i3 0) 3 ∧ (vp_in (SI 93 0) 16 ∧ ((¬ (lg_cmp ((SJ6 92 0) * (SJ6 86 (gj_n (SI 93 0)))) ((SJ6 81 22) * (SJ6 81 24))) = 0 → gj_Goes E om0 mt_223 162 [some (.ref 81), some (.int (SI 93 0))] [] SI6 SJ6 (QI Q)) ∧ ((lg_cmp ((SJ6 92 0) * (SJ6 86 (gj_n (SI 93 0)))) ((SJ6 81 22) * (SJ6 81 24))) = 0 → vp_in (i3 0) 3 ∧ (vp_in (SI 93 0) 16 ∧ ((¬ (lg_cmp ((SJ6 92 0) * (SJ6 87 (gj_n (SI 93 0)))) ((SJ6 81 23) * (SJ6 81 24))) = 0 → gj_Goes E om0 mt_223 162 [some (.ref 81), some (.int (SI 93 0))] [] SI6 SJ6 (QI Q)) ∧ ((lg_cmp ((SJ6 92 0) * (SJ6 87 (gj_n (SI 93 0)))) ((SJ6 81 23) * (SJ6 81 24))) = 0 → vp_in (i3 0) 3 ∧ (((lg_cmp (SJ6 92 0) (i6 0)) ≤ 0 → gj_Goes E om0 mt_223 162 [some (.ref 81), some (.int (SI 93 0))] [] SI6 SJ6 (QI Q)) ∧ (¬ (lg_cmp (SJ6 92 0) (i6 0)) ≤ 0 → gj_Goes E om0 mt_223 163 [some (.ref 81), some (.int (SI 93 0))] [(.int (i3 1))] SI6 SJ6 (QI Q))))))))))))
      refine ⟨(gj_vin (by decide)), ?_⟩
      refine ⟨k1, ?_⟩
      refine ⟨fun c16 => ?_, fun c16 => ?_⟩
      · refine gj_goq gj_clT ok_223 [69] ?_
        show ((i3 0) = 0 ∨ (i3 0) = 1) ∧ (QI Q (some (.int (i3 0))) SI6 SJ6)
        refine ⟨(Or.inl rfl), ?_⟩
        exact ⟨_, rfl, (q15.1 (fun z_ => c16 (lgc_eq.mpr z_)))⟩
      · refine ⟨(gj_vin (by decide)), ?_⟩
        refine ⟨k1, ?_⟩
        refine ⟨fun c17 => ?_, fun c17 => ?_⟩
        · refine gj_goq gj_clT ok_223 [69] ?_
          show ((i3 0) = 0 ∨ (i3 0) = 1) ∧ (QI Q (some (.int (i3 0))) SI6 SJ6)
          refine ⟨(Or.inl rfl), ?_⟩
          exact ⟨_, rfl, ((q15.2 (lgc_eq.mp c16)).1 (fun z_ => c17 (lgc_eq.mpr z_)))⟩
        · refine ⟨(gj_vin (by decide)), ?_⟩
          refine ⟨k1, ?_⟩
          refine ⟨fun c18 => ?_, fun c18 => ?_⟩
          · refine gj_goq gj_clT ok_223 [69] ?_
            show ((i3 0) = 0 ∨ (i3 0) = 1) ∧ (QI Q (some (.int (i3 0))) SI6 SJ6)
            refine ⟨(Or.inl rfl), ?_⟩
            exact ⟨_, rfl, (((q15.2 (lgc_eq.mp c16)).2 (lgc_eq.mp c17)).1 (fun z_ => c18 (lgc_eq.mpr z_)))⟩
          · refine ⟨(gj_vin (by decide)), ?_⟩
            refine ⟨fun c19 => ?_, fun c19 => ?_⟩
            · refine gj_goq gj_clT ok_223 [69] ?_
              show ((i3 0) = 0 ∨ (i3 0) = 1) ∧ (QI Q (some (.int (i3 0))) SI6 SJ6)
              refine ⟨(Or.inl rfl), ?_⟩
              exact ⟨_, rfl, ((((q15.2 (lgc_eq.mp c16)).2 (lgc_eq.mp c17)).2 (lgc_eq.mp c18)).1 (lgc_le.mp c19))⟩
            · refine gj_goq gj_clT ok_223 [69] ?_
              show ((i3 1) = 0 ∨ (i3 1) = 1) ∧ (QI Q (some (.int (i3 1))) SI6 SJ6)
              refine ⟨(Or.inr rfl), ?_⟩
              exact ⟨_, rfl, ((((q15.2 (lgc_eq.mp c16)).2 (lgc_eq.mp c17)).2 (lgc_eq.mp c18)).2 (fun z_ => c19 (lgc_le.mpr z_)))⟩
    · refine gj_goq gj_clT ok_223 [69] ?_
      show vp_in (i3 0) 3 ∧ (gj_Do E om0 (gj_mt 222) [(.ref 81)] SI (gj_w2 (gj_w2 SJ 81 24 (SJ 85 (gj_n (SI 93 0)))) 92 0 (SJ 81 21)) _)
      refine ⟨(gj_vin (by decide)), ?_⟩
      refine gj_Do.mono ((h.2.2 (fun z_ => c2 (lgc_eq.mpr z_))).2 (fun z_ => c14 (lgc_eq.mpr z_))) (fun v_ SI8 SJ8 h_ => ?_)
      obtain ⟨rfl, q20⟩ := h_
      show gj_Goes E om0 mt_223 69 [some (.ref 81), some (.int (SI 93 0))] [] SI8 SJ8 (QI Q)
      refine gj_goq gj_clT ok_223 [69] ?_
      show vp_in (i3 0) 3 ∧ (vp_in (SI 93 0) 16 ∧ ((¬ (lg_cmp ((SJ8 92 0) * (SJ8 85 (gj_n (SI 93 0)))) ((SJ8 81 21) * (SJ8 81 24))) = 0 → gj_Goes E om0 mt_223 162 [some (.ref 81), some (.int (SI 93 0))] [] SI8 SJ8 (QI Q)) ∧ ((lg_cmp ((SJ8 92 0) * (SJ8 85 (gj_n (SI 93 0)))) ((SJ8 81 21) * (SJ8 81 24))) = 0 → vp_in (i3 0) 3 ∧ (vp_in (SI 93 0) 16 ∧ ((¬ (lg_cmp ((SJ8 92 0) * (SJ8 86 (gj_n (SI 93 0)))) ((SJ8 81 22) * (SJ8 81 24))) = 0 → gj_Goes E om0 mt_223 162 [some (.ref 81), some (.int (SI 93 0))] [] SI8 SJ8 (QI Q)) ∧ ((lg_cmp ((SJ8 92 0) * (SJ8 86 (gj_n (SI 93 0)))) ((SJ8 81 22) * (SJ8 81 24))) = 0 → vp_in (i3 0) 3 ∧ (vp_in (SI 93 0) 16 ∧ ((¬ (lg_cmp ((SJ8 92 0) * (SJ8 87 (gj_n (SI 93 0)))) ((SJ8 81 23) * (SJ8 81 24))) = 0 → gj_Goes E om0 mt_223 162 [some (.ref 81), some (.int (SI 93 0))] [] SI8 SJ8 (QI Q)) ∧ ((lg_cmp ((SJ8 92 0) * (SJ8 87 (gj_n (SI 93 0)))) ((SJ8 81 23) * (SJ8 81 24))) = 0 → vp_in (i3 0) 3 ∧ (((lg_cmp (SJ8 92 0) (i6 0)) ≤ 0 → gj_Goes E om0 mt_223 162 [some (.ref 81), some (.int (SI 93 0))] [] SI8 SJ8 (QI Q)) ∧ (¬ (lg_cmp (SJ8 92 0) (i6 0)) ≤ 0 → gj_Goes E om0 mt_223 163 [some (.ref 81), some (.int (SI 93 0))] [(.int (i3 1))] SI8 SJ8 (QI Q))))))))))))
      refine ⟨(gj_vin (by decide)), ?_⟩
      refine ⟨k1, ?_⟩
      refine ⟨fun c21 => ?_, fun c21 => ?_⟩
      · refine gj_goq gj_clT ok_223 [69] ?_
        show ((i3 0) = 0 ∨ (i3 0) = 1) ∧ (QI Q (some (.int (i3 0))) SI8 SJ8)
        refine ⟨(Or.inl rfl), ?_⟩
        exact ⟨_, rfl, (q20.1 (fun z_ => c21 (lgc_eq.mpr z_)))⟩
      · refine ⟨(gj_vin (by decide)), ?_⟩
        refine ⟨k1, ?_⟩
        refine ⟨fun c22 => ?_, fun c22 => ?_⟩
        · refine gj_goq gj_clT ok_223 [69] ?_
          show ((i3 0) = 0 ∨ (i3 0) = 1) ∧ (QI Q (some (.int (i3 0))) SI8 SJ8)
          refine ⟨(Or.inl rfl), ?_⟩
          exact ⟨_, rfl, ((q20.2 (lgc_eq.mp c21)).1 (fun z_ => c22 (lgc_eq.mpr z_)))⟩
        · refine ⟨(gj_vin (by decide)), ?_⟩
          refine ⟨k1, ?_⟩
          refine ⟨fun c23 => ?_, fun c23 => ?_⟩
          · refine gj_goq gj_clT ok_223 [69] ?_
            show ((i3 0) = 0 ∨ (i3 0) = 1) ∧ (QI Q (some (.int (i3 0))) SI8 SJ8)
            refine ⟨(Or.inl rfl), ?_⟩
            exact ⟨_, rfl, (((q20.2 (lgc_eq.mp c21)).2 (lgc_eq.mp c22)).1 (fun z_ => c23 (lgc_eq.mpr z_)))⟩
          · refine ⟨(gj_vin (by decide)), ?_⟩
            refine ⟨fun c24 => ?_, fun c24 => ?_⟩
            · refine gj_goq gj_clT ok_223 [69] ?_
              show ((i3 0) = 0 ∨ (i3 0) = 1) ∧ (QI Q (some (.int (i3 0))) SI8 SJ8)
              refine ⟨(Or.inl rfl), ?_⟩
              exact ⟨_, rfl, ((((q20.2 (lgc_eq.mp c21)).2 (lgc_eq.mp c22)).2 (lgc_eq.mp c23)).1 (lgc_le.mp c24))⟩
            · refine gj_goq gj_clT ok_223 [69] ?_
              show ((i3 1) = 0 ∨ (i3 1) = 1) ∧ (QI Q (some (.int (i3 1))) SI8 SJ8)
              refine ⟨(Or.inr rfl), ?_⟩
              exact ⟨_, rfl, ((((q20.2 (lgc_eq.mp c21)).2 (lgc_eq.mp c22)).2 (lgc_eq.mp c23)).2 (fun z_ => c24 (lgc_le.mpr z_)))⟩
set_option maxRecDepth 20000 in
/-- GraspJudgeModel.solvesTwo -/
theorem st_224 {E : gj_E} {Q : Int32 → gj_I → gj_J → Prop} (SI : gj_I) (SJ : gj_J) (h : DoV E 187 [(.ref 81), (.int (SI 93 0)), (.int (SI 93 1))] SI SJ (fun SI2 SJ2 => DoI E 188 [(.ref 81)] SI2 SJ2 (fun r3 SI4 SJ4 => (¬ r3 = 0 → Q (i3 0) SI4 SJ4) ∧ (r3 = 0 → (((((SJ4 81 9) * (SJ4 81 21)) + ((SJ4 81 10) * (SJ4 81 22))) + ((SJ4 81 11) * (SJ4 81 23))) = (i6 0) → ((SJ4 81 11) = (i6 0) → ((SJ4 81 10) = (i6 0) → vp_in (SI 93 1) 16 ∧ (vp_in (SI 93 0) 16 ∧ (DoV E 222 [(.ref 81)] SI4 (gj_w2 (gj_w2 (gj_w2 SJ4 81 24 (SJ4 81 9)) 92 0 (((SJ4 81 22) * (SJ4 87 (gj_n (SI 93 1)))) - ((SJ4 81 23) * (SJ4 86 (gj_n (SI 93 1)))))) 92 1 (((SJ4 86 (gj_n (SI 93 0))) * (SJ4 81 23)) - ((SJ4 87 (gj_n (SI 93 0))) * (SJ4 81 22)))) (fun SI6 SJ6 => ((SJ6 92 0) ≤ (i6 0) → Q (i3 0) SI6 SJ6) ∧ (¬ (SJ6 92 0) ≤ (i6 0) → ((SJ6 92 1) ≤ (i6 0) → Q (i3 0) SI6 SJ6) ∧ (¬ (SJ6 92 1) ≤ (i6 0) → Q (i3 1) SI6 SJ6)))))) ∧ (¬ (SJ4 81 10) = (i6 0) → vp_in (SI 93 1) 16 ∧ (vp_in (SI 93 0) 16 ∧ (DoV E 222 [(.ref 81)] SI4 (gj_w2 (gj_w2 (gj_w2 SJ4 81 24 (SJ4 81 10)) 92 0 (((SJ4 81 23) * (SJ4 85 (gj_n (SI 93 1)))) - ((SJ4 81 21) * (SJ4 87 (gj_n (SI 93 1)))))) 92 1 (((SJ4 87 (gj_n (SI 93 0))) * (SJ4 81 21)) - ((SJ4 85 (gj_n (SI 93 0))) * (SJ4 81 23)))) (fun SI8 SJ8 => ((SJ8 92 0) ≤ (i6 0) → Q (i3 0) SI8 SJ8) ∧ (¬ (SJ8 92 0) ≤ (i6 0) → ((SJ8 92 1) ≤ (i6 0) → Q (i3 0) SI8 SJ8) ∧ (¬ (SJ8 92 1) ≤ (i6 0) → Q (i3 1) SI8 SJ8))))))) ∧ (¬ (SJ4 81 11) = (i6 0) → vp_in (SI 93 1) 16 ∧ (vp_in (SI 93 0) 16 ∧ (DoV E 222 [(.ref 81)] SI4 (gj_w2 (gj_w2 (gj_w2 SJ4 81 24 (SJ4 81 11)) 92 0 (((SJ4 81 21) * (SJ4 86 (gj_n (SI 93 1)))) - ((SJ4 81 22) * (SJ4 85 (gj_n (SI 93 1)))))) 92 1 (((SJ4 85 (gj_n (SI 93 0))) * (SJ4 81 22)) - ((SJ4 86 (gj_n (SI 93 0))) * (SJ4 81 21)))) (fun SI10 SJ10 => ((SJ10 92 0) ≤ (i6 0) → Q (i3 0) SI10 SJ10) ∧ (¬ (SJ10 92 0) ≤ (i6 0) → ((SJ10 92 1) ≤ (i6 0) → Q (i3 0) SI10 SJ10) ∧ (¬ (SJ10 92 1) ≤ (i6 0) → Q (i3 1) SI10 SJ10))))))) ∧ (¬ ((((SJ4 81 9) * (SJ4 81 21)) + ((SJ4 81 10) * (SJ4 81 22))) + ((SJ4 81 11) * (SJ4 81 23))) = (i6 0) → Q (i3 0) SI4 SJ4))))) : DoI E 224 [(.ref 81)] SI SJ Q := by
  refine gj_start (M := mt_224) ok_224 (Nat.le_of_ble_eq_true rfl) ?_
  refine gj_goq gj_clT ok_224 [20, 24, 289] ?_
  show vp_in (i3 0) 3 ∧ (vp_in (i3 1) 3 ∧ (gj_Do E om0 (gj_mt 187) [(.ref 81), (.int (SI 93 0)), (.int (SI 93 1))] SI SJ _))
  refine ⟨(gj_vin (by decide)), ?_⟩
  refine ⟨(gj_vin (by decide)), ?_⟩
  refine gj_Do.mono h (fun v_ SI2 SJ2 h_ => ?_)
  obtain ⟨rfl, q1⟩ := h_
  show gj_Goes E om0 mt_224 20 [some (.ref 81), some (.int (SI 93 0)), some (.int (SI 93 1))] [] SI2 SJ2 (QI Q)
  refine gj_goq gj_clT ok_224 [20, 24, 289] ?_
  show gj_Do E om0 (gj_mt 188) [(.ref 81)] SI2 SJ2 _
  refine gj_Do.mono q1 (fun v_ SI4 SJ4 h_ => ?_)
  obtain ⟨r3, rfl, q2⟩ := h_
  show gj_Goes E om0 mt_224 24 [some (.ref 81), some (.int (SI 93 0)), some (.int (SI 93 1))] [(.int r3)] SI4 SJ4 (QI Q)
  refine gj_goq gj_clT ok_224 [20, 24, 289] ?_
  show (¬ r3 = 0 → gj_Goes E om0 mt_224 61 [some (.ref 81), some (.int (SI 93 0)), some (.int (SI 93 1))] [] SI4 SJ4 (QI Q)) ∧ (r3 = 0 → ((lg_cmp ((((SJ4 81 9) * (SJ4 81 21)) + ((SJ4 81 10) * (SJ4 81 22))) + ((SJ4 81 11) * (SJ4 81 23))) (i6 0)) = 0 → gj_Goes E om0 mt_224 63 [some (.ref 81), some (.int (SI 93 0)), some (.int (SI 93 1))] [] SI4 SJ4 (QI Q)) ∧ (¬ (lg_cmp ((((SJ4 81 9) * (SJ4 81 21)) + ((SJ4 81 10) * (SJ4 81 22))) + ((SJ4 81 11) * (SJ4 81 23))) (i6 0)) = 0 → ((i3 0) = 0 ∨ (i3 0) = 1) ∧ (QI Q (some (.int (i3 0))) SI4 SJ4)))
  refine ⟨fun c3 => ?_, fun c3 => ?_⟩
  · refine gj_goq gj_clT ok_224 [20, 24, 289] ?_
    show ((i3 0) = 0 ∨ (i3 0) = 1) ∧ (QI Q (some (.int (i3 0))) SI4 SJ4)
    refine ⟨(Or.inl rfl), ?_⟩
    exact ⟨_, rfl, (q2.1 c3)⟩
  · refine ⟨fun c4 => ?_, fun c4 => ?_⟩
    · refine gj_goq gj_clT ok_224 [20, 24, 289] ?_
      show ((lg_cmp (SJ4 81 11) (i6 0)) = 0 → gj_Goes E om0 mt_224 141 [some (.ref 81), some (.int (SI 93 0)), some (.int (SI 93 1))] [] SI4 SJ4 (QI Q)) ∧ (¬ (lg_cmp (SJ4 81 11) (i6 0)) = 0 → vp_in (SI 93 1) 16 ∧ (vp_in (SI 93 1) 16 ∧ (vp_in (i3 0) 3 ∧ (vp_in (SI 93 0) 16 ∧ (vp_in (SI 93 0) 16 ∧ (vp_in (i3 1) 3 ∧ (gj_Goes E om0 mt_224 285 [some (.ref 81), some (.int (SI 93 0)), some (.int (SI 93 1))] [] SI4 (gj_w2 (gj_w2 (gj_w2 SJ4 81 24 (SJ4 81 11)) 92 0 (((SJ4 81 21) * (SJ4 86 (gj_n (SI 93 1)))) - ((SJ4 81 22) * (SJ4 85 (gj_n (SI 93 1)))))) 92 1 (((SJ4 85 (gj_n (SI 93 0))) * (SJ4 81 22)) - ((SJ4 86 (gj_n (SI 93 0))) * (SJ4 81 21)))) (QI Q))))))))
      refine ⟨fun c5 => ?_, fun c5 => ?_⟩
      · refine gj_goq gj_clT ok_224 [20, 24, 289] ?_
        show ((lg_cmp (SJ4 81 10) (i6 0)) = 0 → gj_Goes E om0 mt_224 219 [some (.ref 81), some (.int (SI 93 0)), some (.int (SI 93 1))] [] SI4 SJ4 (QI Q)) ∧ (¬ (lg_cmp (SJ4 81 10) (i6 0)) = 0 → vp_in (SI 93 1) 16 ∧ (vp_in (SI 93 1) 16 ∧ (vp_in (i3 0) 3 ∧ (vp_in (SI 93 0) 16 ∧ (vp_in (SI 93 0) 16 ∧ (vp_in (i3 1) 3 ∧ (gj_Goes E om0 mt_224 285 [some (.ref 81), some (.int (SI 93 0)), some (.int (SI 93 1))] [] SI4 (gj_w2 (gj_w2 (gj_w2 SJ4 81 24 (SJ4 81 10)) 92 0 (((SJ4 81 23) * (SJ4 85 (gj_n (SI 93 1)))) - ((SJ4 81 21) * (SJ4 87 (gj_n (SI 93 1)))))) 92 1 (((SJ4 87 (gj_n (SI 93 0))) * (SJ4 81 21)) - ((SJ4 85 (gj_n (SI 93 0))) * (SJ4 81 23)))) (QI Q))))))))
        refine ⟨fun c6 => ?_, fun c6 => ?_⟩
        · refine gj_goq gj_clT ok_224 [20, 24, 289] ?_
          show vp_in (SI 93 1) 16 ∧ (vp_in (SI 93 1) 16 ∧ (vp_in (i3 0) 3 ∧ (vp_in (SI 93 0) 16 ∧ (vp_in (SI 93 0) 16 ∧ (vp_in (i3 1) 3 ∧ (gj_Do E om0 (gj_mt 222) [(.ref 81)] SI4 (gj_w2 (gj_w2 (gj_w2 SJ4 81 24 (SJ4 81 9)) 92 0 (((SJ4 81 22) * (SJ4 87 (gj_n (SI 93 1)))) - ((SJ4 81 23) * (SJ4 86 (gj_n (SI 93 1)))))) 92 1 (((SJ4 86 (gj_n (SI 93 0))) * (SJ4 81 23)) - ((SJ4 87 (gj_n (SI 93 0))) * (SJ4 81 22)))) _))))))
          have k7 := ((((q2.2 c3).1 (lgc_eq.mp c4)).1 (lgc_eq.mp c5)).1 (lgc_eq.mp c6)).1
          refine ⟨k7, ?_⟩
          refine ⟨k7, ?_⟩
          refine ⟨(gj_vin (by decide)), ?_⟩
          have k8 := ((((q2.2 c3).1 (lgc_eq.mp c4)).1 (lgc_eq.mp c5)).1 (lgc_eq.mp c6)).2.1
          refine ⟨k8, ?_⟩
          refine ⟨k8, ?_⟩
          refine ⟨(gj_vin (by decide)), ?_⟩
          refine gj_Do.mono ((((q2.2 c3).1 (lgc_eq.mp c4)).1 (lgc_eq.mp c5)).1 (lgc_eq.mp c6)).2.2 (fun v_ SI6 SJ6 h_ => ?_)
          obtain ⟨rfl, q9⟩ := h_
          show gj_Goes E om0 mt_224 289 [some (.ref 81), some (.int (SI 93 0)), some (.int (SI 93 1))] [] SI6 SJ6 (QI Q)
          refine gj_goq gj_clT ok_224 [20, 24, 289] ?_
          show vp_in (i3 0) 3 ∧ (((lg_cmp (SJ6 92 0) (i6 0)) ≤ 0 → gj_Goes E om0 mt_224 315 [some (.ref 81), some (.int (SI 93 0)), some (.int (SI 93 1))] [] SI6 SJ6 (QI Q)) ∧ (¬ (lg_cmp (SJ6 92 0) (i6 0)) ≤ 0 → vp_in (i3 1) 3 ∧ (((lg_cmp (SJ6 92 1) (i6 0)) ≤ 0 → gj_Goes E om0 mt_224 315 [some (.ref 81), some (.int (SI 93 0)), some (.int (SI 93 1))] [] SI6 SJ6 (QI Q)) ∧ (¬ (lg_cmp (SJ6 92 1) (i6 0)) ≤ 0 → gj_Goes E om0 mt_224 316 [some (.ref 81), some (.int (SI 93 0)), some (.int (SI 93 1))] [(.int (i3 1))] SI6 SJ6 (QI Q)))))
          refine ⟨(gj_vin (by decide)), ?_⟩
          refine ⟨fun c10 => ?_, fun c10 => ?_⟩
          · refine gj_goq gj_clT ok_224 [20, 24, 289] ?_
            show ((i3 0) = 0 ∨ (i3 0) = 1) ∧ (QI Q (some (.int (i3 0))) SI6 SJ6)
            refine ⟨(Or.inl rfl), ?_⟩
            exact ⟨_, rfl, (q9.1 (lgc_le.mp c10))⟩
          · refine ⟨(gj_vin (by decide)), ?_⟩
            refine ⟨fun c11 => ?_, fun c11 => ?_⟩
            · refine gj_goq gj_clT ok_224 [20, 24, 289] ?_
              show ((i3 0) = 0 ∨ (i3 0) = 1) ∧ (QI Q (some (.int (i3 0))) SI6 SJ6)
              refine ⟨(Or.inl rfl), ?_⟩
              exact ⟨_, rfl, ((q9.2 (fun z_ => c10 (lgc_le.mpr z_))).1 (lgc_le.mp c11))⟩
            · refine gj_goq gj_clT ok_224 [20, 24, 289] ?_
              show ((i3 1) = 0 ∨ (i3 1) = 1) ∧ (QI Q (some (.int (i3 1))) SI6 SJ6)
              refine ⟨(Or.inr rfl), ?_⟩
              exact ⟨_, rfl, ((q9.2 (fun z_ => c10 (lgc_le.mpr z_))).2 (fun z_ => c11 (lgc_le.mpr z_)))⟩
        · have k12 := ((((q2.2 c3).1 (lgc_eq.mp c4)).1 (lgc_eq.mp c5)).2 (fun z_ => c6 (lgc_eq.mpr z_))).1
          refine ⟨k12, ?_⟩
          refine ⟨k12, ?_⟩
          refine ⟨(gj_vin (by decide)), ?_⟩
          have k13 := ((((q2.2 c3).1 (lgc_eq.mp c4)).1 (lgc_eq.mp c5)).2 (fun z_ => c6 (lgc_eq.mpr z_))).2.1
          refine ⟨k13, ?_⟩
          refine ⟨k13, ?_⟩
          refine ⟨(gj_vin (by decide)), ?_⟩
          refine gj_goq gj_clT ok_224 [20, 24, 289] ?_
          show gj_Do E om0 (gj_mt 222) [(.ref 81)] SI4 (gj_w2 (gj_w2 (gj_w2 SJ4 81 24 (SJ4 81 10)) 92 0 (((SJ4 81 23) * (SJ4 85 (gj_n (SI 93 1)))) - ((SJ4 81 21) * (SJ4 87 (gj_n (SI 93 1)))))) 92 1 (((SJ4 87 (gj_n (SI 93 0))) * (SJ4 81 21)) - ((SJ4 85 (gj_n (SI 93 0))) * (SJ4 81 23)))) _
          refine gj_Do.mono ((((q2.2 c3).1 (lgc_eq.mp c4)).1 (lgc_eq.mp c5)).2 (fun z_ => c6 (lgc_eq.mpr z_))).2.2 (fun v_ SI8 SJ8 h_ => ?_)
          obtain ⟨rfl, q14⟩ := h_
          show gj_Goes E om0 mt_224 289 [some (.ref 81), some (.int (SI 93 0)), some (.int (SI 93 1))] [] SI8 SJ8 (QI Q)
          refine gj_goq gj_clT ok_224 [20, 24, 289] ?_
          show vp_in (i3 0) 3 ∧ (((lg_cmp (SJ8 92 0) (i6 0)) ≤ 0 → gj_Goes E om0 mt_224 315 [some (.ref 81), some (.int (SI 93 0)), some (.int (SI 93 1))] [] SI8 SJ8 (QI Q)) ∧ (¬ (lg_cmp (SJ8 92 0) (i6 0)) ≤ 0 → vp_in (i3 1) 3 ∧ (((lg_cmp (SJ8 92 1) (i6 0)) ≤ 0 → gj_Goes E om0 mt_224 315 [some (.ref 81), some (.int (SI 93 0)), some (.int (SI 93 1))] [] SI8 SJ8 (QI Q)) ∧ (¬ (lg_cmp (SJ8 92 1) (i6 0)) ≤ 0 → gj_Goes E om0 mt_224 316 [some (.ref 81), some (.int (SI 93 0)), some (.int (SI 93 1))] [(.int (i3 1))] SI8 SJ8 (QI Q)))))
          refine ⟨(gj_vin (by decide)), ?_⟩
          refine ⟨fun c15 => ?_, fun c15 => ?_⟩
          · refine gj_goq gj_clT ok_224 [20, 24, 289] ?_
            show ((i3 0) = 0 ∨ (i3 0) = 1) ∧ (QI Q (some (.int (i3 0))) SI8 SJ8)
            refine ⟨(Or.inl rfl), ?_⟩
            exact ⟨_, rfl, (q14.1 (lgc_le.mp c15))⟩
          · refine ⟨(gj_vin (by decide)), ?_⟩
            refine ⟨fun c16 => ?_, fun c16 => ?_⟩
            · refine gj_goq gj_clT ok_224 [20, 24, 289] ?_
              show ((i3 0) = 0 ∨ (i3 0) = 1) ∧ (QI Q (some (.int (i3 0))) SI8 SJ8)
              refine ⟨(Or.inl rfl), ?_⟩
              exact ⟨_, rfl, ((q14.2 (fun z_ => c15 (lgc_le.mpr z_))).1 (lgc_le.mp c16))⟩
            · refine gj_goq gj_clT ok_224 [20, 24, 289] ?_
              show ((i3 1) = 0 ∨ (i3 1) = 1) ∧ (QI Q (some (.int (i3 1))) SI8 SJ8)
              refine ⟨(Or.inr rfl), ?_⟩
              exact ⟨_, rfl, ((q14.2 (fun z_ => c15 (lgc_le.mpr z_))).2 (fun z_ => c16 (lgc_le.mpr z_)))⟩
      · have k17 := (((q2.2 c3).1 (lgc_eq.mp c4)).2 (fun z_ => c5 (lgc_eq.mpr z_))).1
        refine ⟨k17, ?_⟩
        refine ⟨k17, ?_⟩
        refine ⟨(gj_vin (by decide)), ?_⟩
        have k18 := (((q2.2 c3).1 (lgc_eq.mp c4)).2 (fun z_ => c5 (lgc_eq.mpr z_))).2.1
        refine ⟨k18, ?_⟩
        refine ⟨k18, ?_⟩
        refine ⟨(gj_vin (by decide)), ?_⟩
        refine gj_goq gj_clT ok_224 [20, 24, 289] ?_
        show gj_Do E om0 (gj_mt 222) [(.ref 81)] SI4 (gj_w2 (gj_w2 (gj_w2 SJ4 81 24 (SJ4 81 11)) 92 0 (((SJ4 81 21) * (SJ4 86 (gj_n (SI 93 1)))) - ((SJ4 81 22) * (SJ4 85 (gj_n (SI 93 1)))))) 92 1 (((SJ4 85 (gj_n (SI 93 0))) * (SJ4 81 22)) - ((SJ4 86 (gj_n (SI 93 0))) * (SJ4 81 21)))) _
        refine gj_Do.mono (((q2.2 c3).1 (lgc_eq.mp c4)).2 (fun z_ => c5 (lgc_eq.mpr z_))).2.2 (fun v_ SI10 SJ10 h_ => ?_)
        obtain ⟨rfl, q19⟩ := h_
        show gj_Goes E om0 mt_224 289 [some (.ref 81), some (.int (SI 93 0)), some (.int (SI 93 1))] [] SI10 SJ10 (QI Q)
        refine gj_goq gj_clT ok_224 [20, 24, 289] ?_
        show vp_in (i3 0) 3 ∧ (((lg_cmp (SJ10 92 0) (i6 0)) ≤ 0 → gj_Goes E om0 mt_224 315 [some (.ref 81), some (.int (SI 93 0)), some (.int (SI 93 1))] [] SI10 SJ10 (QI Q)) ∧ (¬ (lg_cmp (SJ10 92 0) (i6 0)) ≤ 0 → vp_in (i3 1) 3 ∧ (((lg_cmp (SJ10 92 1) (i6 0)) ≤ 0 → gj_Goes E om0 mt_224 315 [some (.ref 81), some (.int (SI 93 0)), some (.int (SI 93 1))] [] SI10 SJ10 (QI Q)) ∧ (¬ (lg_cmp (SJ10 92 1) (i6 0)) ≤ 0 → gj_Goes E om0 mt_224 316 [some (.ref 81), some (.int (SI 93 0)), some (.int (SI 93 1))] [(.int (i3 1))] SI10 SJ10 (QI Q)))))
        refine ⟨(gj_vin (by decide)), ?_⟩
        refine ⟨fun c20 => ?_, fun c20 => ?_⟩
        · refine gj_goq gj_clT ok_224 [20, 24, 289] ?_
          show ((i3 0) = 0 ∨ (i3 0) = 1) ∧ (QI Q (some (.int (i3 0))) SI10 SJ10)
          refine ⟨(Or.inl rfl), ?_⟩
          exact ⟨_, rfl, (q19.1 (lgc_le.mp c20))⟩
        · refine ⟨(gj_vin (by decide)), ?_⟩
          refine ⟨fun c21 => ?_, fun c21 => ?_⟩
          · refine gj_goq gj_clT ok_224 [20, 24, 289] ?_
            show ((i3 0) = 0 ∨ (i3 0) = 1) ∧ (QI Q (some (.int (i3 0))) SI10 SJ10)
            refine ⟨(Or.inl rfl), ?_⟩
            exact ⟨_, rfl, ((q19.2 (fun z_ => c20 (lgc_le.mpr z_))).1 (lgc_le.mp c21))⟩
          · refine gj_goq gj_clT ok_224 [20, 24, 289] ?_
            show ((i3 1) = 0 ∨ (i3 1) = 1) ∧ (QI Q (some (.int (i3 1))) SI10 SJ10)
            refine ⟨(Or.inr rfl), ?_⟩
            exact ⟨_, rfl, ((q19.2 (fun z_ => c20 (lgc_le.mpr z_))).2 (fun z_ => c21 (lgc_le.mpr z_)))⟩
    · refine ⟨(Or.inl rfl), ?_⟩
      exact ⟨_, rfl, ((q2.2 c3).2 (fun z_ => c4 (lgc_eq.mpr z_)))⟩
set_option maxRecDepth 20000 in
/-- GraspJudgeModel.solvesThree -/
theorem st_225 {E : gj_E} {Q : Int32 → gj_I → gj_J → Prop} (SI : gj_I) (SJ : gj_J) (h : vp_in (SI 93 0) 16 ∧ (vp_in (SI 93 1) 16 ∧ (vp_in (SI 93 2) 16 ∧ (DoL E 221 [(.long (SJ 85 (gj_n (SI 93 0)))), (.long (SJ 86 (gj_n (SI 93 0)))), (.long (SJ 87 (gj_n (SI 93 0)))), (.long (SJ 85 (gj_n (SI 93 1)))), (.long (SJ 86 (gj_n (SI 93 1)))), (.long (SJ 87 (gj_n (SI 93 1)))), (.long (SJ 85 (gj_n (SI 93 2)))), (.long (SJ 86 (gj_n (SI 93 2)))), (.long (SJ 87 (gj_n (SI 93 2))))] SI SJ (fun r1 SI2 SJ2 => (¬ r1 = (i6 0) → DoL E 221 [(.long (SJ2 81 21)), (.long (SJ2 81 22)), (.long (SJ2 81 23)), (.long (SJ2 85 (gj_n (SI 93 1)))), (.long (SJ2 86 (gj_n (SI 93 1)))), (.long (SJ2 87 (gj_n (SI 93 1)))), (.long (SJ2 85 (gj_n (SI 93 2)))), (.long (SJ2 86 (gj_n (SI 93 2)))), (.long (SJ2 87 (gj_n (SI 93 2))))] SI2 (gj_w2 SJ2 81 24 r1) (fun r3 SI4 SJ4 => DoL E 221 [(.long (SJ4 85 (gj_n (SI 93 0)))), (.long (SJ4 86 (gj_n (SI 93 0)))), (.long (SJ4 87 (gj_n (SI 93 0)))), (.long (SJ4 81 21)), (.long (SJ4 81 22)), (.long (SJ4 81 23)), (.long (SJ4 85 (gj_n (SI 93 2)))), (.long (SJ4 86 (gj_n (SI 93 2)))), (.long (SJ4 87 (gj_n (SI 93 2))))] SI4 (gj_w2 SJ4 92 0 r3) (fun r5 SI6 SJ6 => DoL E 221 [(.long (SJ6 85 (gj_n (SI 93 0)))), (.long (SJ6 86 (gj_n (SI 93 0)))), (.long (SJ6 87 (gj_n (SI 93 0)))), (.long (SJ6 85 (gj_n (SI 93 1)))), (.long (SJ6 86 (gj_n (SI 93 1)))), (.long (SJ6 87 (gj_n (SI 93 1)))), (.long (SJ6 81 21)), (.long (SJ6 81 22)), (.long (SJ6 81 23))] SI6 (gj_w2 SJ6 92 1 r5) (fun r7 SI8 SJ8 => DoV E 222 [(.ref 81)] SI8 (gj_w2 SJ8 92 2 r7) (fun SI10 SJ10 => ((SJ10 92 0) ≤ (i6 0) → Q (i3 0) SI10 SJ10) ∧ (¬ (SJ10 92 0) ≤ (i6 0) → ((SJ10 92 1) ≤ (i6 0) → Q (i3 0) SI10 SJ10) ∧ (¬ (SJ10 92 1) ≤ (i6 0) → ((SJ10 92 2) ≤ (i6 0) → Q (i3 0) SI10 SJ10) ∧ (¬ (SJ10 92 2) ≤ (i6 0) → Q (i3 1) SI10 SJ10)))))))) ∧ (r1 = (i6 0) → Q (i3 0) SI2 (gj_w2 SJ2 81 24 r1))))))) : DoI E 225 [(.ref 81)] SI SJ Q := by
  refine gj_start (M := mt_225) ok_225 (Nat.le_of_ble_eq_true rfl) ?_
  refine gj_goq gj_clT ok_225 [79, 149, 206, 263, 268] ?_
  show vp_in (i3 0) 3 ∧ (vp_in (i3 1) 3 ∧ (vp_in (i3 2) 3 ∧ (vp_in (SI 93 0) 16 ∧ (vp_in (SI 93 0) 16 ∧ (vp_in (SI 93 0) 16 ∧ (vp_in (SI 93 1) 16 ∧ (vp_in (SI 93 1) 16 ∧ (vp_in (SI 93 1) 16 ∧ (vp_in (SI 93 2) 16 ∧ (vp_in (SI 93 2) 16 ∧ (vp_in (SI 93 2) 16 ∧ (gj_Do E om0 (gj_mt 221) [(.long (SJ 85 (gj_n (SI 93 0)))), (.long (SJ 86 (gj_n (SI 93 0)))), (.long (SJ 87 (gj_n (SI 93 0)))), (.long (SJ 85 (gj_n (SI 93 1)))), (.long (SJ 86 (gj_n (SI 93 1)))), (.long (SJ 87 (gj_n (SI 93 1)))), (.long (SJ 85 (gj_n (SI 93 2)))), (.long (SJ 86 (gj_n (SI 93 2)))), (.long (SJ 87 (gj_n (SI 93 2))))] SI SJ _))))))))))))
  refine ⟨(gj_vin (by decide)), ?_⟩
  refine ⟨(gj_vin (by decide)), ?_⟩
  refine ⟨(gj_vin (by decide)), ?_⟩
  have k1 := h.1
  refine ⟨k1, ?_⟩
  refine ⟨k1, ?_⟩
  refine ⟨k1, ?_⟩
  have k2 := h.2.1
  refine ⟨k2, ?_⟩
  refine ⟨k2, ?_⟩
  refine ⟨k2, ?_⟩
  have k3 := h.2.2.1
  refine ⟨k3, ?_⟩
  refine ⟨k3, ?_⟩
  refine ⟨k3, ?_⟩
  refine gj_Do.mono h.2.2.2 (fun v_ SI2 SJ2 h_ => ?_)
  obtain ⟨r1, rfl, q4⟩ := h_
  show gj_Goes E om0 mt_225 79 [some (.ref 81), some (.int (SI 93 0)), some (.int (SI 93 1)), some (.int (SI 93 2))] [(.long r1), (.ref 81)] SI2 SJ2 (QI Q)
  refine gj_goq gj_clT ok_225 [79, 149, 206, 263, 268] ?_
  show (¬ (lg_cmp r1 (i6 0)) = 0 → gj_Goes E om0 mt_225 93 [some (.ref 81), some (.int (SI 93 0)), some (.int (SI 93 1)), some (.int (SI 93 2))] [] SI2 (gj_w2 SJ2 81 24 r1) (QI Q)) ∧ ((lg_cmp r1 (i6 0)) = 0 → ((i3 0) = 0 ∨ (i3 0) = 1) ∧ (QI Q (some (.int (i3 0))) SI2 (gj_w2 SJ2 81 24 r1)))
  refine ⟨fun c5 => ?_, fun c5 => ?_⟩
  · refine gj_goq gj_clT ok_225 [79, 149, 206, 263, 268] ?_
    show vp_in (SI 93 1) 16 ∧ (vp_in (SI 93 1) 16 ∧ (vp_in (SI 93 1) 16 ∧ (vp_in (SI 93 2) 16 ∧ (vp_in (SI 93 2) 16 ∧ (vp_in (SI 93 2) 16 ∧ (gj_Do E om0 (gj_mt 221) [(.long (SJ2 81 21)), (.long (SJ2 81 22)), (.long (SJ2 81 23)), (.long (SJ2 85 (gj_n (SI 93 1)))), (.long (SJ2 86 (gj_n (SI 93 1)))), (.long (SJ2 87 (gj_n (SI 93 1)))), (.long (SJ2 85 (gj_n (SI 93 2)))), (.long (SJ2 86 (gj_n (SI 93 2)))), (.long (SJ2 87 (gj_n (SI 93 2))))] SI2 (gj_w2 SJ2 81 24 r1) _))))))
    refine ⟨k2, ?_⟩
    refine ⟨k2, ?_⟩
    refine ⟨k2, ?_⟩
    refine ⟨k3, ?_⟩
    refine ⟨k3, ?_⟩
    refine ⟨k3, ?_⟩
    refine gj_Do.mono (q4.1 (fun z_ => c5 (lgc_eq.mpr z_))) (fun v_ SI4 SJ4 h_ => ?_)
    obtain ⟨r3, rfl, q6⟩ := h_
    show gj_Goes E om0 mt_225 149 [some (.ref 81), some (.int (SI 93 0)), some (.int (SI 93 1)), some (.int (SI 93 2))] [(.long r3), (.int (i3 0)), (.ref 92)] SI4 SJ4 (QI Q)
    refine gj_goq gj_clT ok_225 [79, 149, 206, 263, 268] ?_
    show vp_in (i3 0) 3 ∧ (vp_in (SI 93 0) 16 ∧ (vp_in (SI 93 0) 16 ∧ (vp_in (SI 93 0) 16 ∧ (vp_in (SI 93 2) 16 ∧ (vp_in (SI 93 2) 16 ∧ (vp_in (SI 93 2) 16 ∧ (gj_Do E om0 (gj_mt 221) [(.long (SJ4 85 (gj_n (SI 93 0)))), (.long (SJ4 86 (gj_n (SI 93 0)))), (.long (SJ4 87 (gj_n (SI 93 0)))), (.long (SJ4 81 21)), (.long (SJ4 81 22)), (.long (SJ4 81 23)), (.long (SJ4 85 (gj_n (SI 93 2)))), (.long (SJ4 86 (gj_n (SI 93 2)))), (.long (SJ4 87 (gj_n (SI 93 2))))] SI4 (gj_w2 SJ4 92 0 r3) _)))))))
    refine ⟨(gj_vin (by decide)), ?_⟩
    refine ⟨k1, ?_⟩
    refine ⟨k1, ?_⟩
    refine ⟨k1, ?_⟩
    refine ⟨k3, ?_⟩
    refine ⟨k3, ?_⟩
    refine ⟨k3, ?_⟩
    refine gj_Do.mono q6 (fun v_ SI6 SJ6 h_ => ?_)
    obtain ⟨r5, rfl, q7⟩ := h_
    show gj_Goes E om0 mt_225 206 [some (.ref 81), some (.int (SI 93 0)), some (.int (SI 93 1)), some (.int (SI 93 2))] [(.long r5), (.int (i3 1)), (.ref 92)] SI6 SJ6 (QI Q)
    refine gj_goq gj_clT ok_225 [79, 149, 206, 263, 268] ?_
    show vp_in (i3 1) 3 ∧ (vp_in (SI 93 0) 16 ∧ (vp_in (SI 93 0) 16 ∧ (vp_in (SI 93 0) 16 ∧ (vp_in (SI 93 1) 16 ∧ (vp_in (SI 93 1) 16 ∧ (vp_in (SI 93 1) 16 ∧ (gj_Do E om0 (gj_mt 221) [(.long (SJ6 85 (gj_n (SI 93 0)))), (.long (SJ6 86 (gj_n (SI 93 0)))), (.long (SJ6 87 (gj_n (SI 93 0)))), (.long (SJ6 85 (gj_n (SI 93 1)))), (.long (SJ6 86 (gj_n (SI 93 1)))), (.long (SJ6 87 (gj_n (SI 93 1)))), (.long (SJ6 81 21)), (.long (SJ6 81 22)), (.long (SJ6 81 23))] SI6 (gj_w2 SJ6 92 1 r5) _)))))))
    refine ⟨(gj_vin (by decide)), ?_⟩
    refine ⟨k1, ?_⟩
    refine ⟨k1, ?_⟩
    refine ⟨k1, ?_⟩
    refine ⟨k2, ?_⟩
    refine ⟨k2, ?_⟩
    refine ⟨k2, ?_⟩
    refine gj_Do.mono q7 (fun v_ SI8 SJ8 h_ => ?_)
    obtain ⟨r7, rfl, q8⟩ := h_
    show gj_Goes E om0 mt_225 263 [some (.ref 81), some (.int (SI 93 0)), some (.int (SI 93 1)), some (.int (SI 93 2))] [(.long r7), (.int (i3 2)), (.ref 92)] SI8 SJ8 (QI Q)
    refine gj_goq gj_clT ok_225 [79, 149, 206, 263, 268] ?_
    show vp_in (i3 2) 3 ∧ (gj_Do E om0 (gj_mt 222) [(.ref 81)] SI8 (gj_w2 SJ8 92 2 r7) _)
    refine ⟨(gj_vin (by decide)), ?_⟩
    refine gj_Do.mono q8 (fun v_ SI10 SJ10 h_ => ?_)
    obtain ⟨rfl, q9⟩ := h_
    show gj_Goes E om0 mt_225 268 [some (.ref 81), some (.int (SI 93 0)), some (.int (SI 93 1)), some (.int (SI 93 2))] [] SI10 SJ10 (QI Q)
    refine gj_goq gj_clT ok_225 [79, 149, 206, 263, 268] ?_
    show vp_in (i3 0) 3 ∧ (((lg_cmp (SJ10 92 0) (i6 0)) ≤ 0 → gj_Goes E om0 mt_225 305 [some (.ref 81), some (.int (SI 93 0)), some (.int (SI 93 1)), some (.int (SI 93 2))] [] SI10 SJ10 (QI Q)) ∧ (¬ (lg_cmp (SJ10 92 0) (i6 0)) ≤ 0 → vp_in (i3 1) 3 ∧ (((lg_cmp (SJ10 92 1) (i6 0)) ≤ 0 → gj_Goes E om0 mt_225 305 [some (.ref 81), some (.int (SI 93 0)), some (.int (SI 93 1)), some (.int (SI 93 2))] [] SI10 SJ10 (QI Q)) ∧ (¬ (lg_cmp (SJ10 92 1) (i6 0)) ≤ 0 → vp_in (i3 2) 3 ∧ (((lg_cmp (SJ10 92 2) (i6 0)) ≤ 0 → gj_Goes E om0 mt_225 305 [some (.ref 81), some (.int (SI 93 0)), some (.int (SI 93 1)), some (.int (SI 93 2))] [] SI10 SJ10 (QI Q)) ∧ (¬ (lg_cmp (SJ10 92 2) (i6 0)) ≤ 0 → gj_Goes E om0 mt_225 306 [some (.ref 81), some (.int (SI 93 0)), some (.int (SI 93 1)), some (.int (SI 93 2))] [(.int (i3 1))] SI10 SJ10 (QI Q)))))))
    refine ⟨(gj_vin (by decide)), ?_⟩
    refine ⟨fun c10 => ?_, fun c10 => ?_⟩
    · refine gj_goq gj_clT ok_225 [79, 149, 206, 263, 268] ?_
      show ((i3 0) = 0 ∨ (i3 0) = 1) ∧ (QI Q (some (.int (i3 0))) SI10 SJ10)
      refine ⟨(Or.inl rfl), ?_⟩
      exact ⟨_, rfl, (q9.1 (lgc_le.mp c10))⟩
    · refine ⟨(gj_vin (by decide)), ?_⟩
      refine ⟨fun c11 => ?_, fun c11 => ?_⟩
      · refine gj_goq gj_clT ok_225 [79, 149, 206, 263, 268] ?_
        show ((i3 0) = 0 ∨ (i3 0) = 1) ∧ (QI Q (some (.int (i3 0))) SI10 SJ10)
        refine ⟨(Or.inl rfl), ?_⟩
        exact ⟨_, rfl, ((q9.2 (fun z_ => c10 (lgc_le.mpr z_))).1 (lgc_le.mp c11))⟩
      · refine ⟨(gj_vin (by decide)), ?_⟩
        refine ⟨fun c12 => ?_, fun c12 => ?_⟩
        · refine gj_goq gj_clT ok_225 [79, 149, 206, 263, 268] ?_
          show ((i3 0) = 0 ∨ (i3 0) = 1) ∧ (QI Q (some (.int (i3 0))) SI10 SJ10)
          refine ⟨(Or.inl rfl), ?_⟩
          exact ⟨_, rfl, (((q9.2 (fun z_ => c10 (lgc_le.mpr z_))).2 (fun z_ => c11 (lgc_le.mpr z_))).1 (lgc_le.mp c12))⟩
        · refine gj_goq gj_clT ok_225 [79, 149, 206, 263, 268] ?_
          show ((i3 1) = 0 ∨ (i3 1) = 1) ∧ (QI Q (some (.int (i3 1))) SI10 SJ10)
          refine ⟨(Or.inr rfl), ?_⟩
          exact ⟨_, rfl, (((q9.2 (fun z_ => c10 (lgc_le.mpr z_))).2 (fun z_ => c11 (lgc_le.mpr z_))).2 (fun z_ => c12 (lgc_le.mpr z_)))⟩
  · refine ⟨(Or.inl rfl), ?_⟩
    exact ⟨_, rfl, (q4.2 (lgc_eq.mp c5))⟩
set_option maxRecDepth 20000 in
/-- GraspJudgeModel.offers -/
theorem st_226 {E : gj_E} {Q : gj_I → gj_J → Prop} (a1 : Int32) (SI : gj_I) (SJ : gj_J) (h : GoV E mt_226 5 [some (.ref 81), some (.int a1), some (.long (i6 0)), none, some (.int (i3 0)), none, none] SI SJ Q) : DoV E 226 [(.ref 81), (.int a1)] SI SJ Q := by
  refine gj_start (M := mt_226) ok_226 (Nat.le_of_ble_eq_true rfl) ?_
  refine gj_goq gj_clT ok_226 [5, 35, 97, 144, 170] ?_
  show gj_Goes E om0 mt_226 5 [some (.ref 81), some (.int a1), some (.long (i6 0)), none, some (.int (i3 0)), none, none] [] SI SJ (QV Q)
  exact h
set_option maxRecDepth 20000 in
theorem lp_226_5 {E : gj_E} {Q : gj_I → gj_J → Prop} (x1 : Int32) (x2 : Int64) (x4 : Int32) (SI : gj_I) (SJ : gj_J) (h : (x1 ≤ x4 → DoL E 161 [(.long x2), (.long (SJ 81 24))] SI SJ (fun r1 SI2 SJ2 => ((SI2 81 29) < 0 → ¬ r1 = 0 ∧ (GoV E mt_226 97 [some (.ref 81), some (.int x1), none, none, none, none, some (.int (i3 0))] (gj_u2 SI2 81 29 x1) (gj_w2 (gj_w2 SJ2 81 30 (x2 / r1)) 81 31 ((SJ2 81 24) / r1)) Q)) ∧ (¬ (SI2 81 29) < 0 → ¬ r1 = 0 ∧ ((((x2 / r1) * (SJ2 81 31)) < ((SJ2 81 30) * ((SJ2 81 24) / r1)) → GoV E mt_226 97 [some (.ref 81), some (.int x1), none, none, none, none, some (.int (i3 0))] (gj_u2 SI2 81 29 x1) (gj_w2 (gj_w2 SJ2 81 30 (x2 / r1)) 81 31 ((SJ2 81 24) / r1)) Q) ∧ (¬ ((x2 / r1) * (SJ2 81 31)) < ((SJ2 81 30) * ((SJ2 81 24) / r1)) → Q SI2 SJ2))))) ∧ (¬ x1 ≤ x4 → vp_in x4 3 ∧ (GoV E mt_226 5 [some (.ref 81), some (.int x1), some (.long (x2 + (SJ 92 (gj_n x4)))), none, some (.int (x4 + (i3 1))), none, none] SI SJ Q))) : GoV E mt_226 5 [some (.ref 81), some (.int x1), some (.long x2), none, some (.int x4), none, none] SI SJ Q := by
  refine gj_goq gj_clT ok_226 [5, 35, 97, 144, 170] ?_
  show (x1 ≤ x4 → gj_Goes E om0 mt_226 27 [some (.ref 81), some (.int x1), some (.long x2), none, some (.int x4), none, none] [] SI SJ (QV Q)) ∧ (¬ x1 ≤ x4 → vp_in x4 3 ∧ (gj_Goes E om0 mt_226 5 [some (.ref 81), some (.int x1), some (.long (x2 + (SJ 92 (gj_n x4)))), none, some (.int (x4 + (i3 1))), none, none] [] SI SJ (QV Q)))
  refine ⟨fun c1 => ?_, fun c1 => ?_⟩
  · refine gj_goq gj_clT ok_226 [5, 35, 97, 144, 170] ?_
    show gj_Do E om0 (gj_mt 161) [(.long x2), (.long (SJ 81 24))] SI SJ _
    refine gj_Do.mono (h.1 c1) (fun v_ SI2 SJ2 h_ => ?_)
    obtain ⟨r1, rfl, q2⟩ := h_
    show gj_Goes E om0 mt_226 35 [some (.ref 81), some (.int x1), some (.long x2), none, some (.int x4), none, none] [(.long r1)] SI2 SJ2 (QV Q)
    refine gj_goq gj_clT ok_226 [5, 35, 97, 144, 170] ?_
    show ((SI2 81 29) < 0 → gj_Goes E om0 mt_226 70 [some (.ref 81), some (.int x1), some (.long x2), none, some (.long r1), none, none] [] SI2 SJ2 (QV Q)) ∧ (¬ (SI2 81 29) < 0 → ¬ r1 = 0 ∧ (¬ r1 = 0 ∧ (((lg_cmp ((x2 / r1) * (SJ2 81 31)) ((SJ2 81 30) * ((SJ2 81 24) / r1))) < 0 → gj_Goes E om0 mt_226 70 [some (.ref 81), some (.int x1), some (.long x2), none, some (.long r1), none, none] [] SI2 SJ2 (QV Q)) ∧ (¬ (lg_cmp ((x2 / r1) * (SJ2 81 31)) ((SJ2 81 30) * ((SJ2 81 24) / r1))) < 0 → QV Q none SI2 SJ2))))
    refine ⟨fun c3 => ?_, fun c3 => ?_⟩
    · refine gj_goq gj_clT ok_226 [5, 35, 97, 144, 170] ?_
      show ¬ r1 = 0 ∧ (¬ r1 = 0 ∧ (gj_Goes E om0 mt_226 97 [some (.ref 81), some (.int x1), some (.long x2), none, some (.long r1), none, some (.int (i3 0))] [] (gj_u2 SI2 81 29 x1) (gj_w2 (gj_w2 SJ2 81 30 (x2 / r1)) 81 31 ((SJ2 81 24) / r1)) (QV Q)))
      have k4 := (q2.1 c3).1
      refine ⟨k4, ?_⟩
      refine ⟨k4, ?_⟩
      exact gj_fh (q2.1 c3).2 (And.intro (Or.inr rfl) (And.intro (Or.inr rfl) (And.intro (Or.inl rfl) (And.intro (Or.inl rfl) (And.intro (Or.inl rfl) (And.intro (Or.inl rfl) (And.intro (Or.inr rfl) trivial)))))))
    · have k5 := (q2.2 c3).1
      refine ⟨k5, ?_⟩
      refine ⟨k5, ?_⟩
      refine ⟨fun c6 => ?_, fun c6 => ?_⟩
      · refine gj_goq gj_clT ok_226 [5, 35, 97, 144, 170] ?_
        show ¬ r1 = 0 ∧ (¬ r1 = 0 ∧ (gj_Goes E om0 mt_226 97 [some (.ref 81), some (.int x1), some (.long x2), none, some (.long r1), none, some (.int (i3 0))] [] (gj_u2 SI2 81 29 x1) (gj_w2 (gj_w2 SJ2 81 30 (x2 / r1)) 81 31 ((SJ2 81 24) / r1)) (QV Q)))
        refine ⟨k5, ?_⟩
        refine ⟨k5, ?_⟩
        exact gj_fh ((q2.2 c3).2.1 (lgc_lt.mp c6)) (And.intro (Or.inr rfl) (And.intro (Or.inr rfl) (And.intro (Or.inl rfl) (And.intro (Or.inl rfl) (And.intro (Or.inl rfl) (And.intro (Or.inl rfl) (And.intro (Or.inr rfl) trivial)))))))
      · exact ⟨rfl, ((q2.2 c3).2.2 (fun z_ => c6 (lgc_lt.mpr z_)))⟩
  · have k7 := (h.2 c1).1
    refine ⟨k7, ?_⟩
    exact (h.2 c1).2
set_option maxRecDepth 20000 in
theorem lp_226_97 {E : gj_E} {Q : gj_I → gj_J → Prop} (x1 : Int32) (x6 : Int32) (SI : gj_I) (SJ : gj_J) (h : (x1 ≤ x6 → Q SI SJ) ∧ (¬ x1 ≤ x6 → vp_in x6 3 ∧ (DoL E 161 [(.long (SJ 92 (gj_n x6))), (.long (SJ 81 24))] (gj_u2 SI 94 (gj_n x6) (SI 93 (gj_n x6))) SJ (fun r1 SI2 SJ2 => ¬ r1 = 0 ∧ (DoL E 161 [(.long (SJ2 92 (gj_n x6))), (.long (SJ2 81 24))] SI2 (gj_w2 SJ2 95 (gj_n x6) ((SJ 92 (gj_n x6)) / r1)) (fun r3 SI4 SJ4 => ¬ r3 = 0 ∧ (GoV E mt_226 97 [some (.ref 81), some (.int x1), none, none, none, none, some (.int (x6 + (i3 1)))] SI4 (gj_w2 SJ4 96 (gj_n x6) ((SJ2 81 24) / r3)) Q))))))) : GoV E mt_226 97 [some (.ref 81), some (.int x1), none, none, none, none, some (.int x6)] SI SJ Q := by
  refine gj_goq gj_clT ok_226 [5, 35, 97, 144, 170] ?_
  show (x1 ≤ x6 → gj_Goes E om0 mt_226 178 [some (.ref 81), some (.int x1), none, none, none, none, some (.int x6)] [] SI SJ (QV Q)) ∧ (¬ x1 ≤ x6 → vp_in x6 3 ∧ (vp_in x6 3 ∧ (vp_in x6 3 ∧ (vp_in x6 3 ∧ (gj_Do E om0 (gj_mt 161) [(.long (SJ 92 (gj_n x6))), (.long (SJ 81 24))] (gj_u2 SI 94 (gj_n x6) (SI 93 (gj_n x6))) SJ _)))))
  refine ⟨fun c1 => ?_, fun c1 => ?_⟩
  · refine gj_goq gj_clT ok_226 [5, 35, 97, 144, 170] ?_
    show QV Q none SI SJ
    exact ⟨rfl, (h.1 c1)⟩
  · have k2 := (h.2 c1).1
    refine ⟨k2, ?_⟩
    refine ⟨k2, ?_⟩
    refine ⟨k2, ?_⟩
    refine ⟨k2, ?_⟩
    refine gj_Do.mono (h.2 c1).2 (fun v_ SI2 SJ2 h_ => ?_)
    obtain ⟨r1, rfl, q3⟩ := h_
    show gj_Goes E om0 mt_226 144 [some (.ref 81), some (.int x1), none, none, none, none, some (.int x6)] [(.long r1), (.long (SJ 92 (gj_n x6))), (.int x6), (.ref 95)] SI2 SJ2 (QV Q)
    refine gj_goq gj_clT ok_226 [5, 35, 97, 144, 170] ?_
    show ¬ r1 = 0 ∧ (vp_in x6 3 ∧ (vp_in x6 3 ∧ (gj_Do E om0 (gj_mt 161) [(.long (SJ2 92 (gj_n x6))), (.long (SJ2 81 24))] SI2 (gj_w2 SJ2 95 (gj_n x6) ((SJ 92 (gj_n x6)) / r1)) _)))
    have k4 := q3.1
    refine ⟨k4, ?_⟩
    refine ⟨k2, ?_⟩
    refine ⟨k2, ?_⟩
    refine gj_Do.mono q3.2 (fun v_ SI4 SJ4 h_ => ?_)
    obtain ⟨r3, rfl, q5⟩ := h_
    show gj_Goes E om0 mt_226 170 [some (.ref 81), some (.int x1), none, none, none, none, some (.int x6)] [(.long r3), (.long (SJ2 81 24)), (.int x6), (.ref 96)] SI4 SJ4 (QV Q)
    refine gj_goq gj_clT ok_226 [5, 35, 97, 144, 170] ?_
    show ¬ r3 = 0 ∧ (vp_in x6 3 ∧ (gj_Goes E om0 mt_226 97 [some (.ref 81), some (.int x1), none, none, none, none, some (.int (x6 + (i3 1)))] [] SI4 (gj_w2 SJ4 96 (gj_n x6) ((SJ2 81 24) / r3)) (QV Q)))
    have k6 := q5.1
    refine ⟨k6, ?_⟩
    refine ⟨k2, ?_⟩
    exact q5.2
set_option maxRecDepth 20000 in
/-- GraspJudgeModel.holds -/
theorem st_227 {E : gj_E} {Q : Int32 → gj_I → gj_J → Prop} (a1 : Int64) (a2 : Int64) (a3 : Int64) (SI : gj_I) (SJ : gj_J) (h : (¬ a1 = (i6 0) → GoI E mt_227 63 [some (.ref 81), none, none, none, none, none, none, some (.int (i3 0)), none, none] (gj_u2 SI 81 29 (i3 (-1))) (gj_w2 (gj_w2 (gj_w2 SJ 81 21 (-a1)) 81 22 (-a2)) 81 23 (-a3)) Q) ∧ (a1 = (i6 0) → (¬ a2 = (i6 0) → GoI E mt_227 63 [some (.ref 81), none, none, none, none, none, none, some (.int (i3 0)), none, none] (gj_u2 SI 81 29 (i3 (-1))) (gj_w2 (gj_w2 (gj_w2 SJ 81 21 (-a1)) 81 22 (-a2)) 81 23 (-a3)) Q) ∧ (a2 = (i6 0) → (¬ a3 = (i6 0) → GoI E mt_227 63 [some (.ref 81), none, none, none, none, none, none, some (.int (i3 0)), none, none] (gj_u2 SI 81 29 (i3 (-1))) (gj_w2 (gj_w2 (gj_w2 SJ 81 21 (-a1)) 81 22 (-a2)) 81 23 (-a3)) Q) ∧ (a3 = (i6 0) → Q (i3 1) (gj_u2 (gj_u2 SI 81 29 (i3 (-1))) 81 29 (i3 0)) (gj_w2 (gj_w2 (gj_w2 (gj_w2 (gj_w2 SJ 81 21 (-a1)) 81 22 (-a2)) 81 23 (-a3)) 81 30 (i6 0)) 81 31 (i6 1)))))) : DoI E 227 [(.ref 81), (.long a1), (.long a2), (.long a3)] SI SJ Q := by
  refine gj_start (M := mt_227) ok_227 (Nat.le_of_ble_eq_true rfl) ?_
  refine gj_goq gj_clT ok_227 [63, 84, 92, 101, 116, 145, 153, 168, 183, 198, 235, 243] ?_
  show (¬ (lg_cmp a1 (i6 0)) = 0 → gj_Goes E om0 mt_227 60 [some (.ref 81), some (.long a1), none, some (.long a2), none, some (.long a3), none, none, none, none] [] (gj_u2 SI 81 29 (i3 (-1))) (gj_w2 (gj_w2 (gj_w2 SJ 81 21 (-a1)) 81 22 (-a2)) 81 23 (-a3)) (QI Q)) ∧ ((lg_cmp a1 (i6 0)) = 0 → (¬ (lg_cmp a2 (i6 0)) = 0 → gj_Goes E om0 mt_227 60 [some (.ref 81), some (.long a1), none, some (.long a2), none, some (.long a3), none, none, none, none] [] (gj_u2 SI 81 29 (i3 (-1))) (gj_w2 (gj_w2 (gj_w2 SJ 81 21 (-a1)) 81 22 (-a2)) 81 23 (-a3)) (QI Q)) ∧ ((lg_cmp a2 (i6 0)) = 0 → (¬ (lg_cmp a3 (i6 0)) = 0 → gj_Goes E om0 mt_227 60 [some (.ref 81), some (.long a1), none, some (.long a2), none, some (.long a3), none, none, none, none] [] (gj_u2 SI 81 29 (i3 (-1))) (gj_w2 (gj_w2 (gj_w2 SJ 81 21 (-a1)) 81 22 (-a2)) 81 23 (-a3)) (QI Q)) ∧ ((lg_cmp a3 (i6 0)) = 0 → ((i3 1) = 0 ∨ (i3 1) = 1) ∧ (QI Q (some (.int (i3 1))) (gj_u2 (gj_u2 SI 81 29 (i3 (-1))) 81 29 (i3 0)) (gj_w2 (gj_w2 (gj_w2 (gj_w2 (gj_w2 SJ 81 21 (-a1)) 81 22 (-a2)) 81 23 (-a3)) 81 30 (i6 0)) 81 31 (i6 1))))))
  refine ⟨fun c1 => ?_, fun c1 => ?_⟩
  · refine gj_goq gj_clT ok_227 [63, 84, 92, 101, 116, 145, 153, 168, 183, 198, 235, 243] ?_
    show gj_Goes E om0 mt_227 63 [some (.ref 81), some (.long a1), none, some (.long a2), none, some (.long a3), none, some (.int (i3 0)), none, none] [] (gj_u2 SI 81 29 (i3 (-1))) (gj_w2 (gj_w2 (gj_w2 SJ 81 21 (-a1)) 81 22 (-a2)) 81 23 (-a3)) (QI Q)
    exact gj_fh (h.1 (fun z_ => c1 (lgc_eq.mpr z_))) (And.intro (Or.inr rfl) (And.intro (Or.inl rfl) (And.intro (Or.inl rfl) (And.intro (Or.inl rfl) (And.intro (Or.inl rfl) (And.intro (Or.inl rfl) (And.intro (Or.inl rfl) (And.intro (Or.inr rfl) (And.intro (Or.inl rfl) (And.intro (Or.inl rfl) trivial))))))))))
  · refine ⟨fun c2 => ?_, fun c2 => ?_⟩
    · refine gj_goq gj_clT ok_227 [63, 84, 92, 101, 116, 145, 153, 168, 183, 198, 235, 243] ?_
      show gj_Goes E om0 mt_227 63 [some (.ref 81), some (.long a1), none, some (.long a2), none, some (.long a3), none, some (.int (i3 0)), none, none] [] (gj_u2 SI 81 29 (i3 (-1))) (gj_w2 (gj_w2 (gj_w2 SJ 81 21 (-a1)) 81 22 (-a2)) 81 23 (-a3)) (QI Q)
      exact gj_fh ((h.2 (lgc_eq.mp c1)).1 (fun z_ => c2 (lgc_eq.mpr z_))) (And.intro (Or.inr rfl) (And.intro (Or.inl rfl) (And.intro (Or.inl rfl) (And.intro (Or.inl rfl) (And.intro (Or.inl rfl) (And.intro (Or.inl rfl) (And.intro (Or.inl rfl) (And.intro (Or.inr rfl) (And.intro (Or.inl rfl) (And.intro (Or.inl rfl) trivial))))))))))
    · refine ⟨fun c3 => ?_, fun c3 => ?_⟩
      · refine gj_goq gj_clT ok_227 [63, 84, 92, 101, 116, 145, 153, 168, 183, 198, 235, 243] ?_
        show gj_Goes E om0 mt_227 63 [some (.ref 81), some (.long a1), none, some (.long a2), none, some (.long a3), none, some (.int (i3 0)), none, none] [] (gj_u2 SI 81 29 (i3 (-1))) (gj_w2 (gj_w2 (gj_w2 SJ 81 21 (-a1)) 81 22 (-a2)) 81 23 (-a3)) (QI Q)
        exact gj_fh (((h.2 (lgc_eq.mp c1)).2 (lgc_eq.mp c2)).1 (fun z_ => c3 (lgc_eq.mpr z_))) (And.intro (Or.inr rfl) (And.intro (Or.inl rfl) (And.intro (Or.inl rfl) (And.intro (Or.inl rfl) (And.intro (Or.inl rfl) (And.intro (Or.inl rfl) (And.intro (Or.inl rfl) (And.intro (Or.inr rfl) (And.intro (Or.inl rfl) (And.intro (Or.inl rfl) trivial))))))))))
      · refine ⟨(Or.inr rfl), ?_⟩
        exact ⟨_, rfl, (((h.2 (lgc_eq.mp c1)).2 (lgc_eq.mp c2)).2 (lgc_eq.mp c3))⟩
set_option maxRecDepth 20000 in
theorem lp_227_63 {E : gj_E} {Q : Int32 → gj_I → gj_J → Prop} (x7 : Int32) (SI : gj_I) (SJ : gj_J) (h : ((SI 81 8) ≤ x7 → GoI E mt_227 101 [some (.ref 81), none, none, none, none, none, none, some (.int (i3 0)), none, none] SI SJ Q) ∧ (¬ (SI 81 8) ≤ x7 → DoI E 223 [(.ref 81)] (gj_u2 SI 93 0 x7) SJ (fun r1 SI2 SJ2 => (r1 = 0 → GoI E mt_227 63 [some (.ref 81), none, none, none, none, none, none, some (.int (x7 + (i3 1))), none, none] SI2 SJ2 Q) ∧ (¬ r1 = 0 → DoV E 226 [(.ref 81), (.int (i3 1))] SI2 SJ2 (fun SI4 SJ4 => GoI E mt_227 63 [some (.ref 81), none, none, none, none, none, none, some (.int (x7 + (i3 1))), none, none] SI4 SJ4 Q))))) : GoI E mt_227 63 [some (.ref 81), none, none, none, none, none, none, some (.int x7), none, none] SI SJ Q := by
  refine gj_goq gj_clT ok_227 [63, 84, 92, 101, 116, 145, 153, 168, 183, 198, 235, 243] ?_
  show ((SI 81 8) ≤ x7 → gj_Goes E om0 mt_227 98 [some (.ref 81), none, none, none, none, none, none, some (.int x7), none, none] [] SI SJ (QI Q)) ∧ (¬ (SI 81 8) ≤ x7 → vp_in (i3 0) 3 ∧ (gj_Do E om0 (gj_mt 223) [(.ref 81)] (gj_u2 SI 93 0 x7) SJ _))
  refine ⟨fun c1 => ?_, fun c1 => ?_⟩
  · refine gj_goq gj_clT ok_227 [63, 84, 92, 101, 116, 145, 153, 168, 183, 198, 235, 243] ?_
    show gj_Goes E om0 mt_227 101 [some (.ref 81), none, none, none, none, none, none, some (.int (i3 0)), none, none] [] SI SJ (QI Q)
    exact (h.1 c1)
  · refine ⟨(gj_vin (by decide)), ?_⟩
    refine gj_Do.mono (h.2 c1) (fun v_ SI2 SJ2 h_ => ?_)
    obtain ⟨r1, rfl, q2⟩ := h_
    show gj_Goes E om0 mt_227 84 [some (.ref 81), none, none, none, none, none, none, some (.int x7), none, none] [(.int r1)] SI2 SJ2 (QI Q)
    refine gj_goq gj_clT ok_227 [63, 84, 92, 101, 116, 145, 153, 168, 183, 198, 235, 243] ?_
    show (r1 = 0 → gj_Goes E om0 mt_227 92 [some (.ref 81), none, none, none, none, none, none, some (.int x7), none, none] [] SI2 SJ2 (QI Q)) ∧ (¬ r1 = 0 → gj_Do E om0 (gj_mt 226) [(.ref 81), (.int (i3 1))] SI2 SJ2 _)
    refine ⟨fun c3 => ?_, fun c3 => ?_⟩
    · refine gj_goq gj_clT ok_227 [63, 84, 92, 101, 116, 145, 153, 168, 183, 198, 235, 243] ?_
      show gj_Goes E om0 mt_227 63 [some (.ref 81), none, none, none, none, none, none, some (.int (x7 + (i3 1))), none, none] [] SI2 SJ2 (QI Q)
      exact (q2.1 c3)
    · refine gj_Do.mono (q2.2 c3) (fun v_ SI4 SJ4 h_ => ?_)
      obtain ⟨rfl, q4⟩ := h_
      show gj_Goes E om0 mt_227 92 [some (.ref 81), none, none, none, none, none, none, some (.int x7), none, none] [] SI4 SJ4 (QI Q)
      refine gj_goq gj_clT ok_227 [63, 84, 92, 101, 116, 145, 153, 168, 183, 198, 235, 243] ?_
      show gj_Goes E om0 mt_227 63 [some (.ref 81), none, none, none, none, none, none, some (.int (x7 + (i3 1))), none, none] [] SI4 SJ4 (QI Q)
      exact q4
set_option maxRecDepth 20000 in
theorem lp_227_101 {E : gj_E} {Q : Int32 → gj_I → gj_J → Prop} (x7 : Int32) (SI : gj_I) (SJ : gj_J) (h : ((SI 81 8) ≤ x7 → GoI E mt_227 168 [some (.ref 81), none, none, none, none, none, none, some (.int (i3 0)), none, none] SI SJ Q) ∧ (¬ (SI 81 8) ≤ x7 → GoI E mt_227 116 [some (.ref 81), none, none, none, none, none, none, some (.int x7), some (.int (x7 + (i3 1))), none] SI SJ Q)) : GoI E mt_227 101 [some (.ref 81), none, none, none, none, none, none, some (.int x7), none, none] SI SJ Q := by
  refine gj_goq gj_clT ok_227 [63, 84, 92, 101, 116, 145, 153, 168, 183, 198, 235, 243] ?_
  show ((SI 81 8) ≤ x7 → gj_Goes E om0 mt_227 165 [some (.ref 81), none, none, none, none, none, none, some (.int x7), none, none] [] SI SJ (QI Q)) ∧ (¬ (SI 81 8) ≤ x7 → gj_Goes E om0 mt_227 116 [some (.ref 81), none, none, none, none, none, none, some (.int x7), some (.int (x7 + (i3 1))), none] [] SI SJ (QI Q))
  refine ⟨fun c1 => ?_, fun c1 => ?_⟩
  · refine gj_goq gj_clT ok_227 [63, 84, 92, 101, 116, 145, 153, 168, 183, 198, 235, 243] ?_
    show gj_Goes E om0 mt_227 168 [some (.ref 81), none, none, none, none, none, none, some (.int (i3 0)), none, none] [] SI SJ (QI Q)
    exact (h.1 c1)
  · exact (h.2 c1)
set_option maxRecDepth 20000 in
theorem lp_227_116 {E : gj_E} {Q : Int32 → gj_I → gj_J → Prop} (x7 : Int32) (x8 : Int32) (SI : gj_I) (SJ : gj_J) (h : ((SI 81 8) ≤ x8 → GoI E mt_227 101 [some (.ref 81), none, none, none, none, none, none, some (.int (x7 + (i3 1))), none, none] SI SJ Q) ∧ (¬ (SI 81 8) ≤ x8 → DoI E 224 [(.ref 81)] (gj_u2 (gj_u2 SI 93 0 x7) 93 1 x8) SJ (fun r1 SI2 SJ2 => (r1 = 0 → GoI E mt_227 116 [some (.ref 81), none, none, none, none, none, none, some (.int x7), some (.int (x8 + (i3 1))), none] SI2 SJ2 Q) ∧ (¬ r1 = 0 → DoV E 226 [(.ref 81), (.int (i3 2))] SI2 SJ2 (fun SI4 SJ4 => GoI E mt_227 116 [some (.ref 81), none, none, none, none, none, none, some (.int x7), some (.int (x8 + (i3 1))), none] SI4 SJ4 Q))))) : GoI E mt_227 116 [some (.ref 81), none, none, none, none, none, none, some (.int x7), some (.int x8), none] SI SJ Q := by
  refine gj_goq gj_clT ok_227 [63, 84, 92, 101, 116, 145, 153, 168, 183, 198, 235, 243] ?_
  show ((SI 81 8) ≤ x8 → gj_Goes E om0 mt_227 159 [some (.ref 81), none, none, none, none, none, none, some (.int x7), some (.int x8), none] [] SI SJ (QI Q)) ∧ (¬ (SI 81 8) ≤ x8 → vp_in (i3 0) 3 ∧ (vp_in (i3 1) 3 ∧ (gj_Do E om0 (gj_mt 224) [(.ref 81)] (gj_u2 (gj_u2 SI 93 0 x7) 93 1 x8) SJ _)))
  refine ⟨fun c1 => ?_, fun c1 => ?_⟩
  · refine gj_goq gj_clT ok_227 [63, 84, 92, 101, 116, 145, 153, 168, 183, 198, 235, 243] ?_
    show gj_Goes E om0 mt_227 101 [some (.ref 81), none, none, none, none, none, none, some (.int (x7 + (i3 1))), some (.int x8), none] [] SI SJ (QI Q)
    exact gj_fh (h.1 c1) (And.intro (Or.inr rfl) (And.intro (Or.inl rfl) (And.intro (Or.inl rfl) (And.intro (Or.inl rfl) (And.intro (Or.inl rfl) (And.intro (Or.inl rfl) (And.intro (Or.inl rfl) (And.intro (Or.inr rfl) (And.intro (Or.inl rfl) (And.intro (Or.inl rfl) trivial))))))))))
  · refine ⟨(gj_vin (by decide)), ?_⟩
    refine ⟨(gj_vin (by decide)), ?_⟩
    refine gj_Do.mono (h.2 c1) (fun v_ SI2 SJ2 h_ => ?_)
    obtain ⟨r1, rfl, q2⟩ := h_
    show gj_Goes E om0 mt_227 145 [some (.ref 81), none, none, none, none, none, none, some (.int x7), some (.int x8), none] [(.int r1)] SI2 SJ2 (QI Q)
    refine gj_goq gj_clT ok_227 [63, 84, 92, 101, 116, 145, 153, 168, 183, 198, 235, 243] ?_
    show (r1 = 0 → gj_Goes E om0 mt_227 153 [some (.ref 81), none, none, none, none, none, none, some (.int x7), some (.int x8), none] [] SI2 SJ2 (QI Q)) ∧ (¬ r1 = 0 → gj_Do E om0 (gj_mt 226) [(.ref 81), (.int (i3 2))] SI2 SJ2 _)
    refine ⟨fun c3 => ?_, fun c3 => ?_⟩
    · refine gj_goq gj_clT ok_227 [63, 84, 92, 101, 116, 145, 153, 168, 183, 198, 235, 243] ?_
      show gj_Goes E om0 mt_227 116 [some (.ref 81), none, none, none, none, none, none, some (.int x7), some (.int (x8 + (i3 1))), none] [] SI2 SJ2 (QI Q)
      exact (q2.1 c3)
    · refine gj_Do.mono (q2.2 c3) (fun v_ SI4 SJ4 h_ => ?_)
      obtain ⟨rfl, q4⟩ := h_
      show gj_Goes E om0 mt_227 153 [some (.ref 81), none, none, none, none, none, none, some (.int x7), some (.int x8), none] [] SI4 SJ4 (QI Q)
      refine gj_goq gj_clT ok_227 [63, 84, 92, 101, 116, 145, 153, 168, 183, 198, 235, 243] ?_
      show gj_Goes E om0 mt_227 116 [some (.ref 81), none, none, none, none, none, none, some (.int x7), some (.int (x8 + (i3 1))), none] [] SI4 SJ4 (QI Q)
      exact q4
set_option maxRecDepth 20000 in
theorem lp_227_168 {E : gj_E} {Q : Int32 → gj_I → gj_J → Prop} (x7 : Int32) (SI : gj_I) (SJ : gj_J) (h : ((SI 81 8) ≤ x7 → ((SI 81 29) < 0 → Q (i3 0) SI SJ) ∧ (¬ (SI 81 29) < 0 → Q (i3 1) SI SJ)) ∧ (¬ (SI 81 8) ≤ x7 → GoI E mt_227 183 [some (.ref 81), none, none, none, none, none, none, some (.int x7), some (.int (x7 + (i3 1))), none] SI SJ Q)) : GoI E mt_227 168 [some (.ref 81), none, none, none, none, none, none, some (.int x7), none, none] SI SJ Q := by
  refine gj_goq gj_clT ok_227 [63, 84, 92, 101, 116, 145, 153, 168, 183, 198, 235, 243] ?_
  show ((SI 81 8) ≤ x7 → gj_Goes E om0 mt_227 261 [some (.ref 81), none, none, none, none, none, none, some (.int x7), none, none] [] SI SJ (QI Q)) ∧ (¬ (SI 81 8) ≤ x7 → gj_Goes E om0 mt_227 183 [some (.ref 81), none, none, none, none, none, none, some (.int x7), some (.int (x7 + (i3 1))), none] [] SI SJ (QI Q))
  refine ⟨fun c1 => ?_, fun c1 => ?_⟩
  · refine gj_goq gj_clT ok_227 [63, 84, 92, 101, 116, 145, 153, 168, 183, 198, 235, 243] ?_
    show ((SI 81 29) < 0 → gj_Goes E om0 mt_227 272 [some (.ref 81), none, none, none, none, none, none, some (.int x7), none, none] [] SI SJ (QI Q)) ∧ (¬ (SI 81 29) < 0 → gj_Goes E om0 mt_227 273 [some (.ref 81), none, none, none, none, none, none, some (.int x7), none, none] [(.int (i3 1))] SI SJ (QI Q))
    refine ⟨fun c2 => ?_, fun c2 => ?_⟩
    · refine gj_goq gj_clT ok_227 [63, 84, 92, 101, 116, 145, 153, 168, 183, 198, 235, 243] ?_
      show ((i3 0) = 0 ∨ (i3 0) = 1) ∧ (QI Q (some (.int (i3 0))) SI SJ)
      refine ⟨(Or.inl rfl), ?_⟩
      exact ⟨_, rfl, ((h.1 c1).1 c2)⟩
    · refine gj_goq gj_clT ok_227 [63, 84, 92, 101, 116, 145, 153, 168, 183, 198, 235, 243] ?_
      show ((i3 1) = 0 ∨ (i3 1) = 1) ∧ (QI Q (some (.int (i3 1))) SI SJ)
      refine ⟨(Or.inr rfl), ?_⟩
      exact ⟨_, rfl, ((h.1 c1).2 c2)⟩
  · exact (h.2 c1)
set_option maxRecDepth 20000 in
theorem lp_227_183 {E : gj_E} {Q : Int32 → gj_I → gj_J → Prop} (x7 : Int32) (x8 : Int32) (SI : gj_I) (SJ : gj_J) (h : ((SI 81 8) ≤ x8 → GoI E mt_227 168 [some (.ref 81), none, none, none, none, none, none, some (.int (x7 + (i3 1))), none, none] SI SJ Q) ∧ (¬ (SI 81 8) ≤ x8 → GoI E mt_227 198 [some (.ref 81), none, none, none, none, none, none, some (.int x7), some (.int x8), some (.int (x8 + (i3 1)))] SI SJ Q)) : GoI E mt_227 183 [some (.ref 81), none, none, none, none, none, none, some (.int x7), some (.int x8), none] SI SJ Q := by
  refine gj_goq gj_clT ok_227 [63, 84, 92, 101, 116, 145, 153, 168, 183, 198, 235, 243] ?_
  show ((SI 81 8) ≤ x8 → gj_Goes E om0 mt_227 255 [some (.ref 81), none, none, none, none, none, none, some (.int x7), some (.int x8), none] [] SI SJ (QI Q)) ∧ (¬ (SI 81 8) ≤ x8 → gj_Goes E om0 mt_227 198 [some (.ref 81), none, none, none, none, none, none, some (.int x7), some (.int x8), some (.int (x8 + (i3 1)))] [] SI SJ (QI Q))
  refine ⟨fun c1 => ?_, fun c1 => ?_⟩
  · refine gj_goq gj_clT ok_227 [63, 84, 92, 101, 116, 145, 153, 168, 183, 198, 235, 243] ?_
    show gj_Goes E om0 mt_227 168 [some (.ref 81), none, none, none, none, none, none, some (.int (x7 + (i3 1))), some (.int x8), none] [] SI SJ (QI Q)
    exact gj_fh (h.1 c1) (And.intro (Or.inr rfl) (And.intro (Or.inl rfl) (And.intro (Or.inl rfl) (And.intro (Or.inl rfl) (And.intro (Or.inl rfl) (And.intro (Or.inl rfl) (And.intro (Or.inl rfl) (And.intro (Or.inr rfl) (And.intro (Or.inl rfl) (And.intro (Or.inl rfl) trivial))))))))))
  · exact (h.2 c1)
set_option maxRecDepth 20000 in
theorem lp_227_198 {E : gj_E} {Q : Int32 → gj_I → gj_J → Prop} (x7 : Int32) (x8 : Int32) (x9 : Int32) (SI : gj_I) (SJ : gj_J) (h : ((SI 81 8) ≤ x9 → GoI E mt_227 183 [some (.ref 81), none, none, none, none, none, none, some (.int x7), some (.int (x8 + (i3 1))), none] SI SJ Q) ∧ (¬ (SI 81 8) ≤ x9 → DoI E 225 [(.ref 81)] (gj_u2 (gj_u2 (gj_u2 SI 93 0 x7) 93 1 x8) 93 2 x9) SJ (fun r1 SI2 SJ2 => (r1 = 0 → GoI E mt_227 198 [some (.ref 81), none, none, none, none, none, none, some (.int x7), some (.int x8), some (.int (x9 + (i3 1)))] SI2 SJ2 Q) ∧ (¬ r1 = 0 → DoV E 226 [(.ref 81), (.int (i3 3))] SI2 SJ2 (fun SI4 SJ4 => GoI E mt_227 198 [some (.ref 81), none, none, none, none, none, none, some (.int x7), some (.int x8), some (.int (x9 + (i3 1)))] SI4 SJ4 Q))))) : GoI E mt_227 198 [some (.ref 81), none, none, none, none, none, none, some (.int x7), some (.int x8), some (.int x9)] SI SJ Q := by
  refine gj_goq gj_clT ok_227 [63, 84, 92, 101, 116, 145, 153, 168, 183, 198, 235, 243] ?_
  show ((SI 81 8) ≤ x9 → gj_Goes E om0 mt_227 249 [some (.ref 81), none, none, none, none, none, none, some (.int x7), some (.int x8), some (.int x9)] [] SI SJ (QI Q)) ∧ (¬ (SI 81 8) ≤ x9 → vp_in (i3 0) 3 ∧ (vp_in (i3 1) 3 ∧ (vp_in (i3 2) 3 ∧ (gj_Do E om0 (gj_mt 225) [(.ref 81)] (gj_u2 (gj_u2 (gj_u2 SI 93 0 x7) 93 1 x8) 93 2 x9) SJ _))))
  refine ⟨fun c1 => ?_, fun c1 => ?_⟩
  · refine gj_goq gj_clT ok_227 [63, 84, 92, 101, 116, 145, 153, 168, 183, 198, 235, 243] ?_
    show gj_Goes E om0 mt_227 183 [some (.ref 81), none, none, none, none, none, none, some (.int x7), some (.int (x8 + (i3 1))), some (.int x9)] [] SI SJ (QI Q)
    exact gj_fh (h.1 c1) (And.intro (Or.inr rfl) (And.intro (Or.inl rfl) (And.intro (Or.inl rfl) (And.intro (Or.inl rfl) (And.intro (Or.inl rfl) (And.intro (Or.inl rfl) (And.intro (Or.inl rfl) (And.intro (Or.inr rfl) (And.intro (Or.inr rfl) (And.intro (Or.inl rfl) trivial))))))))))
  · refine ⟨(gj_vin (by decide)), ?_⟩
    refine ⟨(gj_vin (by decide)), ?_⟩
    refine ⟨(gj_vin (by decide)), ?_⟩
    refine gj_Do.mono (h.2 c1) (fun v_ SI2 SJ2 h_ => ?_)
    obtain ⟨r1, rfl, q2⟩ := h_
    show gj_Goes E om0 mt_227 235 [some (.ref 81), none, none, none, none, none, none, some (.int x7), some (.int x8), some (.int x9)] [(.int r1)] SI2 SJ2 (QI Q)
    refine gj_goq gj_clT ok_227 [63, 84, 92, 101, 116, 145, 153, 168, 183, 198, 235, 243] ?_
    show (r1 = 0 → gj_Goes E om0 mt_227 243 [some (.ref 81), none, none, none, none, none, none, some (.int x7), some (.int x8), some (.int x9)] [] SI2 SJ2 (QI Q)) ∧ (¬ r1 = 0 → gj_Do E om0 (gj_mt 226) [(.ref 81), (.int (i3 3))] SI2 SJ2 _)
    refine ⟨fun c3 => ?_, fun c3 => ?_⟩
    · refine gj_goq gj_clT ok_227 [63, 84, 92, 101, 116, 145, 153, 168, 183, 198, 235, 243] ?_
      show gj_Goes E om0 mt_227 198 [some (.ref 81), none, none, none, none, none, none, some (.int x7), some (.int x8), some (.int (x9 + (i3 1)))] [] SI2 SJ2 (QI Q)
      exact (q2.1 c3)
    · refine gj_Do.mono (q2.2 c3) (fun v_ SI4 SJ4 h_ => ?_)
      obtain ⟨rfl, q4⟩ := h_
      show gj_Goes E om0 mt_227 243 [some (.ref 81), none, none, none, none, none, none, some (.int x7), some (.int x8), some (.int x9)] [] SI4 SJ4 (QI Q)
      refine gj_goq gj_clT ok_227 [63, 84, 92, 101, 116, 145, 153, 168, 183, 198, 235, 243] ?_
      show gj_Goes E om0 mt_227 198 [some (.ref 81), none, none, none, none, none, none, some (.int x7), some (.int x8), some (.int (x9 + (i3 1)))] [] SI4 SJ4 (QI Q)
      exact q4
set_option maxRecDepth 20000 in
/-- GraspJudgeModel.isPush -/
theorem st_228 {E : gj_E} {Q : Int32 → gj_I → gj_J → Prop} (a1 : Int32) (a2 : Int32) (a3 : Int32) (SI : gj_I) (SJ : gj_J) (h : DoI E 155 [(.long (a1).toInt64), (.long (i6 (-1000))), (.long (i6 1000))] SI SJ (fun r1 SI2 SJ2 => (r1 = 0 → Q (i3 0) SI2 SJ2) ∧ (¬ r1 = 0 → DoI E 155 [(.long (a2).toInt64), (.long (i6 (-1000))), (.long (i6 1000))] SI2 SJ2 (fun r3 SI4 SJ4 => (r3 = 0 → Q (i3 0) SI4 SJ4) ∧ (¬ r3 = 0 → DoI E 155 [(.long (a3).toInt64), (.long (i6 (-1000))), (.long (i6 1000))] SI4 SJ4 (fun r5 SI6 SJ6 => (r5 = 0 → Q (i3 0) SI6 SJ6) ∧ (¬ r5 = 0 → Q (i3 1) SI6 SJ6))))))) : DoI E 228 [(.int a1), (.int a2), (.int a3)] SI SJ Q := by
  refine gj_start (M := mt_228) ok_228 (Nat.le_of_ble_eq_true rfl) ?_
  refine gj_goq gj_clT ok_228 [11, 25, 39] ?_
  show gj_Do E om0 (gj_mt 155) [(.long (a1).toInt64), (.long (i6 (-1000))), (.long (i6 1000))] SI SJ _
  refine gj_Do.mono h (fun v_ SI2 SJ2 h_ => ?_)
  obtain ⟨r1, rfl, q1⟩ := h_
  show gj_Goes E om0 mt_228 11 [some (.int a1), some (.int a2), some (.int a3)] [(.int r1)] SI2 SJ2 (QI Q)
  refine gj_goq gj_clT ok_228 [11, 25, 39] ?_
  show (r1 = 0 → gj_Goes E om0 mt_228 46 [some (.int a1), some (.int a2), some (.int a3)] [] SI2 SJ2 (QI Q)) ∧ (¬ r1 = 0 → gj_Do E om0 (gj_mt 155) [(.long (a2).toInt64), (.long (i6 (-1000))), (.long (i6 1000))] SI2 SJ2 _)
  refine ⟨fun c2 => ?_, fun c2 => ?_⟩
  · refine gj_goq gj_clT ok_228 [11, 25, 39] ?_
    show ((i3 0) = 0 ∨ (i3 0) = 1) ∧ (QI Q (some (.int (i3 0))) SI2 SJ2)
    refine ⟨(Or.inl rfl), ?_⟩
    exact ⟨_, rfl, (q1.1 c2)⟩
  · refine gj_Do.mono (q1.2 c2) (fun v_ SI4 SJ4 h_ => ?_)
    obtain ⟨r3, rfl, q3⟩ := h_
    show gj_Goes E om0 mt_228 25 [some (.int a1), some (.int a2), some (.int a3)] [(.int r3)] SI4 SJ4 (QI Q)
    refine gj_goq gj_clT ok_228 [11, 25, 39] ?_
    show (r3 = 0 → gj_Goes E om0 mt_228 46 [some (.int a1), some (.int a2), some (.int a3)] [] SI4 SJ4 (QI Q)) ∧ (¬ r3 = 0 → gj_Do E om0 (gj_mt 155) [(.long (a3).toInt64), (.long (i6 (-1000))), (.long (i6 1000))] SI4 SJ4 _)
    refine ⟨fun c4 => ?_, fun c4 => ?_⟩
    · refine gj_goq gj_clT ok_228 [11, 25, 39] ?_
      show ((i3 0) = 0 ∨ (i3 0) = 1) ∧ (QI Q (some (.int (i3 0))) SI4 SJ4)
      refine ⟨(Or.inl rfl), ?_⟩
      exact ⟨_, rfl, (q3.1 c4)⟩
    · refine gj_Do.mono (q3.2 c4) (fun v_ SI6 SJ6 h_ => ?_)
      obtain ⟨r5, rfl, q5⟩ := h_
      show gj_Goes E om0 mt_228 39 [some (.int a1), some (.int a2), some (.int a3)] [(.int r5)] SI6 SJ6 (QI Q)
      refine gj_goq gj_clT ok_228 [11, 25, 39] ?_
      show (r5 = 0 → gj_Goes E om0 mt_228 46 [some (.int a1), some (.int a2), some (.int a3)] [] SI6 SJ6 (QI Q)) ∧ (¬ r5 = 0 → gj_Goes E om0 mt_228 47 [some (.int a1), some (.int a2), some (.int a3)] [(.int (i3 1))] SI6 SJ6 (QI Q))
      refine ⟨fun c6 => ?_, fun c6 => ?_⟩
      · refine gj_goq gj_clT ok_228 [11, 25, 39] ?_
        show ((i3 0) = 0 ∨ (i3 0) = 1) ∧ (QI Q (some (.int (i3 0))) SI6 SJ6)
        refine ⟨(Or.inl rfl), ?_⟩
        exact ⟨_, rfl, (q5.1 c6)⟩
      · refine gj_goq gj_clT ok_228 [11, 25, 39] ?_
        show ((i3 1) = 0 ∨ (i3 1) = 1) ∧ (QI Q (some (.int (i3 1))) SI6 SJ6)
        refine ⟨(Or.inr rfl), ?_⟩
        exact ⟨_, rfl, (q5.2 c6)⟩
set_option maxRecDepth 20000 in
/-- GraspJudgeModel.held -/
theorem st_229 {E : gj_E} {Q : Int32 → gj_I → gj_J → Prop} (a1 : Int32) (a2 : Int32) (a3 : Int32) (SI : gj_I) (SJ : gj_J) (h : DoI E 228 [(.int a1), (.int a2), (.int a3)] SI SJ (fun r1 SI2 SJ2 => (¬ r1 = 0 → DoV E 184 [(.ref 81)] SI2 SJ2 (fun SI4 SJ4 => DoI E 227 [(.ref 81), (.long (a1).toInt64), (.long (a2).toInt64), (.long (a3).toInt64)] SI4 SJ4 (fun r5 SI6 SJ6 => (r5 = 0 → Q (i3 0) SI6 SJ6) ∧ (¬ r5 = 0 → Q (i3 1) SI6 SJ6)))) ∧ (r1 = 0 → Q (i3 (-1)) SI2 SJ2))) : DoI E 229 [(.ref 81), (.int a1), (.int a2), (.int a3)] SI SJ Q := by
  refine gj_start (M := mt_229) ok_229 (Nat.le_of_ble_eq_true rfl) ?_
  refine gj_goq gj_clT ok_229 [6, 15, 25] ?_
  show gj_Do E om0 (gj_mt 228) [(.int a1), (.int a2), (.int a3)] SI SJ _
  refine gj_Do.mono h (fun v_ SI2 SJ2 h_ => ?_)
  obtain ⟨r1, rfl, q1⟩ := h_
  show gj_Goes E om0 mt_229 6 [some (.ref 81), some (.int a1), some (.int a2), some (.int a3)] [(.int r1)] SI2 SJ2 (QI Q)
  refine gj_goq gj_clT ok_229 [6, 15, 25] ?_
  show (¬ r1 = 0 → gj_Goes E om0 mt_229 11 [some (.ref 81), some (.int a1), some (.int a2), some (.int a3)] [] SI2 SJ2 (QI Q)) ∧ (r1 = 0 → QI Q (some (.int (i3 (-1)))) SI2 SJ2)
  refine ⟨fun c2 => ?_, fun c2 => ?_⟩
  · refine gj_goq gj_clT ok_229 [6, 15, 25] ?_
    show gj_Do E om0 (gj_mt 184) [(.ref 81)] SI2 SJ2 _
    refine gj_Do.mono (q1.1 c2) (fun v_ SI4 SJ4 h_ => ?_)
    obtain ⟨rfl, q3⟩ := h_
    show gj_Goes E om0 mt_229 15 [some (.ref 81), some (.int a1), some (.int a2), some (.int a3)] [] SI4 SJ4 (QI Q)
    refine gj_goq gj_clT ok_229 [6, 15, 25] ?_
    show gj_Do E om0 (gj_mt 227) [(.ref 81), (.long (a1).toInt64), (.long (a2).toInt64), (.long (a3).toInt64)] SI4 SJ4 _
    refine gj_Do.mono q3 (fun v_ SI6 SJ6 h_ => ?_)
    obtain ⟨r5, rfl, q4⟩ := h_
    show gj_Goes E om0 mt_229 25 [some (.ref 81), some (.int a1), some (.int a2), some (.int a3)] [(.int r5)] SI6 SJ6 (QI Q)
    refine gj_goq gj_clT ok_229 [6, 15, 25] ?_
    show (r5 = 0 → gj_Goes E om0 mt_229 32 [some (.ref 81), some (.int a1), some (.int a2), some (.int a3)] [] SI6 SJ6 (QI Q)) ∧ (¬ r5 = 0 → gj_Goes E om0 mt_229 33 [some (.ref 81), some (.int a1), some (.int a2), some (.int a3)] [(.int (i3 1))] SI6 SJ6 (QI Q))
    refine ⟨fun c5 => ?_, fun c5 => ?_⟩
    · refine gj_goq gj_clT ok_229 [6, 15, 25] ?_
      show QI Q (some (.int (i3 0))) SI6 SJ6
      exact ⟨_, rfl, (q4.1 c5)⟩
    · refine gj_goq gj_clT ok_229 [6, 15, 25] ?_
      show QI Q (some (.int (i3 1))) SI6 SJ6
      exact ⟨_, rfl, (q4.2 c5)⟩
  · exact ⟨_, rfl, (q1.2 c2)⟩
set_option maxRecDepth 20000 in
/-- GraspJudgeModel.effort -/
theorem st_230 {E : gj_E} {Q : Int64 → gj_I → gj_J → Prop} (a1 : Int32) (a2 : Int32) (a3 : Int32) (a4 : Int32) (SI : gj_I) (SJ : gj_J) (h : DoI E 228 [(.int a1), (.int a2), (.int a3)] SI SJ (fun r1 SI2 SJ2 => (r1 = 0 → Q (i6 (-9000000000000000000)) SI2 SJ2) ∧ (¬ r1 = 0 → DoI E 155 [(.long (a4).toInt64), (.long (i6 0)), (.long (i6 1))] SI2 SJ2 (fun r3 SI4 SJ4 => (¬ r3 = 0 → DoV E 184 [(.ref 81)] SI4 SJ4 (fun SI6 SJ6 => DoI E 227 [(.ref 81), (.long (a1).toInt64), (.long (a2).toInt64), (.long (a3).toInt64)] SI6 SJ6 (fun r7 SI8 SJ8 => (¬ r7 = 0 → (¬ a4 = 0 → Q (SJ8 81 31) SI8 SJ8) ∧ (a4 = 0 → Q (SJ8 81 30) SI8 SJ8)) ∧ (r7 = 0 → Q (i6 (-9000000000000000000)) SI8 SJ8)))) ∧ (r3 = 0 → Q (i6 (-9000000000000000000)) SI4 SJ4))))) : DoL E 230 [(.ref 81), (.int a1), (.int a2), (.int a3), (.int a4)] SI SJ Q := by
  refine gj_start (M := mt_230) ok_230 (Nat.le_of_ble_eq_true rfl) ?_
  refine gj_goq gj_clT ok_230 [6, 17, 28, 38] ?_
  show gj_Do E om0 (gj_mt 228) [(.int a1), (.int a2), (.int a3)] SI SJ _
  refine gj_Do.mono h (fun v_ SI2 SJ2 h_ => ?_)
  obtain ⟨r1, rfl, q1⟩ := h_
  show gj_Goes E om0 mt_230 6 [some (.ref 81), some (.int a1), some (.int a2), some (.int a3), some (.int a4)] [(.int r1)] SI2 SJ2 (QL Q)
  refine gj_goq gj_clT ok_230 [6, 17, 28, 38] ?_
  show (r1 = 0 → gj_Goes E om0 mt_230 20 [some (.ref 81), some (.int a1), some (.int a2), some (.int a3), some (.int a4)] [] SI2 SJ2 (QL Q)) ∧ (¬ r1 = 0 → gj_Do E om0 (gj_mt 155) [(.long (a4).toInt64), (.long (i6 0)), (.long (i6 1))] SI2 SJ2 _)
  refine ⟨fun c2 => ?_, fun c2 => ?_⟩
  · refine gj_goq gj_clT ok_230 [6, 17, 28, 38] ?_
    show QL Q (some (.long (i6 (-9000000000000000000)))) SI2 SJ2
    exact ⟨_, rfl, (q1.1 c2)⟩
  · refine gj_Do.mono (q1.2 c2) (fun v_ SI4 SJ4 h_ => ?_)
    obtain ⟨r3, rfl, q3⟩ := h_
    show gj_Goes E om0 mt_230 17 [some (.ref 81), some (.int a1), some (.int a2), some (.int a3), some (.int a4)] [(.int r3)] SI4 SJ4 (QL Q)
    refine gj_goq gj_clT ok_230 [6, 17, 28, 38] ?_
    show (¬ r3 = 0 → gj_Goes E om0 mt_230 24 [some (.ref 81), some (.int a1), some (.int a2), some (.int a3), some (.int a4)] [] SI4 SJ4 (QL Q)) ∧ (r3 = 0 → QL Q (some (.long (i6 (-9000000000000000000)))) SI4 SJ4)
    refine ⟨fun c4 => ?_, fun c4 => ?_⟩
    · refine gj_goq gj_clT ok_230 [6, 17, 28, 38] ?_
      show gj_Do E om0 (gj_mt 184) [(.ref 81)] SI4 SJ4 _
      refine gj_Do.mono (q3.1 c4) (fun v_ SI6 SJ6 h_ => ?_)
      obtain ⟨rfl, q5⟩ := h_
      show gj_Goes E om0 mt_230 28 [some (.ref 81), some (.int a1), some (.int a2), some (.int a3), some (.int a4)] [] SI6 SJ6 (QL Q)
      refine gj_goq gj_clT ok_230 [6, 17, 28, 38] ?_
      show gj_Do E om0 (gj_mt 227) [(.ref 81), (.long (a1).toInt64), (.long (a2).toInt64), (.long (a3).toInt64)] SI6 SJ6 _
      refine gj_Do.mono q5 (fun v_ SI8 SJ8 h_ => ?_)
      obtain ⟨r7, rfl, q6⟩ := h_
      show gj_Goes E om0 mt_230 38 [some (.ref 81), some (.int a1), some (.int a2), some (.int a3), some (.int a4)] [(.int r7)] SI8 SJ8 (QL Q)
      refine gj_goq gj_clT ok_230 [6, 17, 28, 38] ?_
      show (¬ r7 = 0 → gj_Goes E om0 mt_230 47 [some (.ref 81), some (.int a1), some (.int a2), some (.int a3), some (.int a4)] [] SI8 SJ8 (QL Q)) ∧ (r7 = 0 → gj_Goes E om0 mt_230 63 [some (.ref 81), some (.int a1), some (.int a2), some (.int a3), some (.int a4)] [(.long (i6 (-9000000000000000000)))] SI8 SJ8 (QL Q))
      refine ⟨fun c7 => ?_, fun c7 => ?_⟩
      · refine gj_goq gj_clT ok_230 [6, 17, 28, 38] ?_
        show (¬ a4 = 0 → gj_Goes E om0 mt_230 59 [some (.ref 81), some (.int a1), some (.int a2), some (.int a3), some (.int a4)] [] SI8 SJ8 (QL Q)) ∧ (a4 = 0 → gj_Goes E om0 mt_230 63 [some (.ref 81), some (.int a1), some (.int a2), some (.int a3), some (.int a4)] [(.long (SJ8 81 30))] SI8 SJ8 (QL Q))
        refine ⟨fun c8 => ?_, fun c8 => ?_⟩
        · refine gj_goq gj_clT ok_230 [6, 17, 28, 38] ?_
          show QL Q (some (.long (SJ8 81 31))) SI8 SJ8
          exact ⟨_, rfl, ((q6.1 c7).1 c8)⟩
        · refine gj_goq gj_clT ok_230 [6, 17, 28, 38] ?_
          show QL Q (some (.long (SJ8 81 30))) SI8 SJ8
          exact ⟨_, rfl, ((q6.1 c7).2 c8)⟩
      · refine gj_goq gj_clT ok_230 [6, 17, 28, 38] ?_
        show QL Q (some (.long (i6 (-9000000000000000000)))) SI8 SJ8
        exact ⟨_, rfl, (q6.2 c7)⟩
    · exact ⟨_, rfl, (q3.2 c4)⟩
set_option maxRecDepth 20000 in
/-- GraspJudgeModel.holder -/
theorem st_231 {E : gj_E} {Q : Int64 → gj_I → gj_J → Prop} (a1 : Int32) (a2 : Int32) (a3 : Int32) (a4 : Int32) (a5 : Int32) (SI : gj_I) (SJ : gj_J) (h : DoI E 228 [(.int a1), (.int a2), (.int a3)] SI SJ (fun r1 SI2 SJ2 => (r1 = 0 → Q (i6 (-9000000000000000000)) SI2 SJ2) ∧ (¬ r1 = 0 → (a4 < (i3 (-1)) → Q (i6 (-9000000000000000000)) SI2 SJ2) ∧ (¬ a4 < (i3 (-1)) → DoI E 155 [(.long (a5).toInt64), (.long (i6 0)), (.long (i6 2))] SI2 SJ2 (fun r3 SI4 SJ4 => (r3 = 0 → Q (i6 (-9000000000000000000)) SI4 SJ4) ∧ (¬ r3 = 0 → (¬ a4 = (i3 (-1)) → DoV E 184 [(.ref 81)] SI4 SJ4 (fun SI6 SJ6 => DoI E 227 [(.ref 81), (.long (a1).toInt64), (.long (a2).toInt64), (.long (a3).toInt64)] SI6 SJ6 (fun r7 SI8 SJ8 => (¬ r7 = 0 → (¬ a4 = (i3 (-1)) → (a4 < (SI8 81 29) → (¬ a5 = 0 → (¬ a5 = (i3 1) → vp_in a4 3 ∧ (Q (SJ8 96 (gj_n a4)) SI8 SJ8)) ∧ (a5 = (i3 1) → vp_in a4 3 ∧ (Q (SJ8 95 (gj_n a4)) SI8 SJ8))) ∧ (a5 = 0 → vp_in a4 3 ∧ (Q (SI8 94 (gj_n a4)).toInt64 SI8 SJ8))) ∧ (¬ a4 < (SI8 81 29) → Q (i6 (-9000000000000000000)) SI8 SJ8)) ∧ (a4 = (i3 (-1)) → Q (SI8 81 29).toInt64 SI8 SJ8)) ∧ (r7 = 0 → Q (i6 (-9000000000000000000)) SI8 SJ8)))) ∧ (a4 = (i3 (-1)) → (a5 ≤ 0 → DoV E 184 [(.ref 81)] SI4 SJ4 (fun SI10 SJ10 => DoI E 227 [(.ref 81), (.long (a1).toInt64), (.long (a2).toInt64), (.long (a3).toInt64)] SI10 SJ10 (fun r11 SI12 SJ12 => (¬ r11 = 0 → (¬ a4 = (i3 (-1)) → (a4 < (SI12 81 29) → (¬ a5 = 0 → (¬ a5 = (i3 1) → vp_in a4 3 ∧ (Q (SJ12 96 (gj_n a4)) SI12 SJ12)) ∧ (a5 = (i3 1) → vp_in a4 3 ∧ (Q (SJ12 95 (gj_n a4)) SI12 SJ12))) ∧ (a5 = 0 → vp_in a4 3 ∧ (Q (SI12 94 (gj_n a4)).toInt64 SI12 SJ12))) ∧ (¬ a4 < (SI12 81 29) → Q (i6 (-9000000000000000000)) SI12 SJ12)) ∧ (a4 = (i3 (-1)) → Q (SI12 81 29).toInt64 SI12 SJ12)) ∧ (r11 = 0 → Q (i6 (-9000000000000000000)) SI12 SJ12)))) ∧ (¬ a5 ≤ 0 → Q (i6 (-9000000000000000000)) SI4 SJ4)))))))) : DoL E 231 [(.ref 81), (.int a1), (.int a2), (.int a3), (.int a4), (.int a5)] SI SJ Q := by
  refine gj_start (M := mt_231) ok_231 (Nat.le_of_ble_eq_true rfl) ?_
  refine gj_goq gj_clT ok_231 [6, 25, 47, 57] ?_
  show gj_Do E om0 (gj_mt 228) [(.int a1), (.int a2), (.int a3)] SI SJ _
  refine gj_Do.mono h (fun v_ SI2 SJ2 h_ => ?_)
  obtain ⟨r1, rfl, q1⟩ := h_
  show gj_Goes E om0 mt_231 6 [some (.ref 81), some (.int a1), some (.int a2), some (.int a3), some (.int a4), some (.int a5)] [(.int r1)] SI2 SJ2 (QL Q)
  refine gj_goq gj_clT ok_231 [6, 25, 47, 57] ?_
  show (r1 = 0 → gj_Goes E om0 mt_231 39 [some (.ref 81), some (.int a1), some (.int a2), some (.int a3), some (.int a4), some (.int a5)] [] SI2 SJ2 (QL Q)) ∧ (¬ r1 = 0 → (a4 < (i3 (-1)) → gj_Goes E om0 mt_231 39 [some (.ref 81), some (.int a1), some (.int a2), some (.int a3), some (.int a4), some (.int a5)] [] SI2 SJ2 (QL Q)) ∧ (¬ a4 < (i3 (-1)) → gj_Do E om0 (gj_mt 155) [(.long (a5).toInt64), (.long (i6 0)), (.long (i6 2))] SI2 SJ2 _))
  refine ⟨fun c2 => ?_, fun c2 => ?_⟩
  · refine gj_goq gj_clT ok_231 [6, 25, 47, 57] ?_
    show QL Q (some (.long (i6 (-9000000000000000000)))) SI2 SJ2
    exact ⟨_, rfl, (q1.1 c2)⟩
  · refine ⟨fun c3 => ?_, fun c3 => ?_⟩
    · refine gj_goq gj_clT ok_231 [6, 25, 47, 57] ?_
      show QL Q (some (.long (i6 (-9000000000000000000)))) SI2 SJ2
      exact ⟨_, rfl, ((q1.2 c2).1 c3)⟩
    · refine gj_Do.mono ((q1.2 c2).2 c3) (fun v_ SI4 SJ4 h_ => ?_)
      obtain ⟨r3, rfl, q4⟩ := h_
      show gj_Goes E om0 mt_231 25 [some (.ref 81), some (.int a1), some (.int a2), some (.int a3), some (.int a4), some (.int a5)] [(.int r3)] SI4 SJ4 (QL Q)
      refine gj_goq gj_clT ok_231 [6, 25, 47, 57] ?_
      show (r3 = 0 → gj_Goes E om0 mt_231 39 [some (.ref 81), some (.int a1), some (.int a2), some (.int a3), some (.int a4), some (.int a5)] [] SI4 SJ4 (QL Q)) ∧ (¬ r3 = 0 → (¬ a4 = (i3 (-1)) → gj_Goes E om0 mt_231 43 [some (.ref 81), some (.int a1), some (.int a2), some (.int a3), some (.int a4), some (.int a5)] [] SI4 SJ4 (QL Q)) ∧ (a4 = (i3 (-1)) → (a5 ≤ 0 → gj_Goes E om0 mt_231 43 [some (.ref 81), some (.int a1), some (.int a2), some (.int a3), some (.int a4), some (.int a5)] [] SI4 SJ4 (QL Q)) ∧ (¬ a5 ≤ 0 → QL Q (some (.long (i6 (-9000000000000000000)))) SI4 SJ4)))
      refine ⟨fun c5 => ?_, fun c5 => ?_⟩
      · refine gj_goq gj_clT ok_231 [6, 25, 47, 57] ?_
        show QL Q (some (.long (i6 (-9000000000000000000)))) SI4 SJ4
        exact ⟨_, rfl, (q4.1 c5)⟩
      · refine ⟨fun c6 => ?_, fun c6 => ?_⟩
        · refine gj_goq gj_clT ok_231 [6, 25, 47, 57] ?_
          show gj_Do E om0 (gj_mt 184) [(.ref 81)] SI4 SJ4 _
          refine gj_Do.mono ((q4.2 c5).1 c6) (fun v_ SI6 SJ6 h_ => ?_)
          obtain ⟨rfl, q7⟩ := h_
          show gj_Goes E om0 mt_231 47 [some (.ref 81), some (.int a1), some (.int a2), some (.int a3), some (.int a4), some (.int a5)] [] SI6 SJ6 (QL Q)
          refine gj_goq gj_clT ok_231 [6, 25, 47, 57] ?_
          show gj_Do E om0 (gj_mt 227) [(.ref 81), (.long (a1).toInt64), (.long (a2).toInt64), (.long (a3).toInt64)] SI6 SJ6 _
          refine gj_Do.mono q7 (fun v_ SI8 SJ8 h_ => ?_)
          obtain ⟨r7, rfl, q8⟩ := h_
          show gj_Goes E om0 mt_231 57 [some (.ref 81), some (.int a1), some (.int a2), some (.int a3), some (.int a4), some (.int a5)] [(.int r7)] SI8 SJ8 (QL Q)
          refine gj_goq gj_clT ok_231 [6, 25, 47, 57] ?_
          show (¬ r7 = 0 → gj_Goes E om0 mt_231 64 [some (.ref 81), some (.int a1), some (.int a2), some (.int a3), some (.int a4), some (.int a5)] [] SI8 SJ8 (QL Q)) ∧ (r7 = 0 → QL Q (some (.long (i6 (-9000000000000000000)))) SI8 SJ8)
          refine ⟨fun c9 => ?_, fun c9 => ?_⟩
          · refine gj_goq gj_clT ok_231 [6, 25, 47, 57] ?_
            show (¬ a4 = (i3 (-1)) → gj_Goes E om0 mt_231 76 [some (.ref 81), some (.int a1), some (.int a2), some (.int a3), some (.int a4), some (.int a5)] [] SI8 SJ8 (QL Q)) ∧ (a4 = (i3 (-1)) → QL Q (some (.long (SI8 81 29).toInt64)) SI8 SJ8)
            refine ⟨fun c10 => ?_, fun c10 => ?_⟩
            · refine gj_goq gj_clT ok_231 [6, 25, 47, 57] ?_
              show (a4 < (SI8 81 29) → gj_Goes E om0 mt_231 89 [some (.ref 81), some (.int a1), some (.int a2), some (.int a3), some (.int a4), some (.int a5)] [] SI8 SJ8 (QL Q)) ∧ (¬ a4 < (SI8 81 29) → QL Q (some (.long (i6 (-9000000000000000000)))) SI8 SJ8)
              refine ⟨fun c11 => ?_, fun c11 => ?_⟩
              · refine gj_goq gj_clT ok_231 [6, 25, 47, 57] ?_
                show (¬ a5 = 0 → gj_Goes E om0 mt_231 105 [some (.ref 81), some (.int a1), some (.int a2), some (.int a3), some (.int a4), some (.int a5)] [] SI8 SJ8 (QL Q)) ∧ (a5 = 0 → vp_in a4 3 ∧ (gj_Goes E om0 mt_231 128 [some (.ref 81), some (.int a1), some (.int a2), some (.int a3), some (.int a4), some (.int a5)] [(.long (SI8 94 (gj_n a4)).toInt64)] SI8 SJ8 (QL Q)))
                refine ⟨fun c12 => ?_, fun c12 => ?_⟩
                · refine gj_goq gj_clT ok_231 [6, 25, 47, 57] ?_
                  show (¬ a5 = (i3 1) → gj_Goes E om0 mt_231 121 [some (.ref 81), some (.int a1), some (.int a2), some (.int a3), some (.int a4), some (.int a5)] [] SI8 SJ8 (QL Q)) ∧ (a5 = (i3 1) → vp_in a4 3 ∧ (gj_Goes E om0 mt_231 128 [some (.ref 81), some (.int a1), some (.int a2), some (.int a3), some (.int a4), some (.int a5)] [(.long (SJ8 95 (gj_n a4)))] SI8 SJ8 (QL Q)))
                  refine ⟨fun c13 => ?_, fun c13 => ?_⟩
                  · refine gj_goq gj_clT ok_231 [6, 25, 47, 57] ?_
                    show vp_in a4 3 ∧ (QL Q (some (.long (SJ8 96 (gj_n a4)))) SI8 SJ8)
                    have k14 := (((((q8.1 c9).1 c10).1 c11).1 c12).1 c13).1
                    refine ⟨k14, ?_⟩
                    exact ⟨_, rfl, (((((q8.1 c9).1 c10).1 c11).1 c12).1 c13).2⟩
                  · have k15 := (((((q8.1 c9).1 c10).1 c11).1 c12).2 c13).1
                    refine ⟨k15, ?_⟩
                    refine gj_goq gj_clT ok_231 [6, 25, 47, 57] ?_
                    show QL Q (some (.long (SJ8 95 (gj_n a4)))) SI8 SJ8
                    exact ⟨_, rfl, (((((q8.1 c9).1 c10).1 c11).1 c12).2 c13).2⟩
                · have k16 := ((((q8.1 c9).1 c10).1 c11).2 c12).1
                  refine ⟨k16, ?_⟩
                  refine gj_goq gj_clT ok_231 [6, 25, 47, 57] ?_
                  show QL Q (some (.long (SI8 94 (gj_n a4)).toInt64)) SI8 SJ8
                  exact ⟨_, rfl, ((((q8.1 c9).1 c10).1 c11).2 c12).2⟩
              · exact ⟨_, rfl, (((q8.1 c9).1 c10).2 c11)⟩
            · exact ⟨_, rfl, ((q8.1 c9).2 c10)⟩
          · exact ⟨_, rfl, (q8.2 c9)⟩
        · refine ⟨fun c17 => ?_, fun c17 => ?_⟩
          · refine gj_goq gj_clT ok_231 [6, 25, 47, 57] ?_
            show gj_Do E om0 (gj_mt 184) [(.ref 81)] SI4 SJ4 _
            refine gj_Do.mono (((q4.2 c5).2 c6).1 c17) (fun v_ SI10 SJ10 h_ => ?_)
            obtain ⟨rfl, q18⟩ := h_
            show gj_Goes E om0 mt_231 47 [some (.ref 81), some (.int a1), some (.int a2), some (.int a3), some (.int a4), some (.int a5)] [] SI10 SJ10 (QL Q)
            refine gj_goq gj_clT ok_231 [6, 25, 47, 57] ?_
            show gj_Do E om0 (gj_mt 227) [(.ref 81), (.long (a1).toInt64), (.long (a2).toInt64), (.long (a3).toInt64)] SI10 SJ10 _
            refine gj_Do.mono q18 (fun v_ SI12 SJ12 h_ => ?_)
            obtain ⟨r11, rfl, q19⟩ := h_
            show gj_Goes E om0 mt_231 57 [some (.ref 81), some (.int a1), some (.int a2), some (.int a3), some (.int a4), some (.int a5)] [(.int r11)] SI12 SJ12 (QL Q)
            refine gj_goq gj_clT ok_231 [6, 25, 47, 57] ?_
            show (¬ r11 = 0 → gj_Goes E om0 mt_231 64 [some (.ref 81), some (.int a1), some (.int a2), some (.int a3), some (.int a4), some (.int a5)] [] SI12 SJ12 (QL Q)) ∧ (r11 = 0 → QL Q (some (.long (i6 (-9000000000000000000)))) SI12 SJ12)
            refine ⟨fun c20 => ?_, fun c20 => ?_⟩
            · refine gj_goq gj_clT ok_231 [6, 25, 47, 57] ?_
              show (¬ a4 = (i3 (-1)) → gj_Goes E om0 mt_231 76 [some (.ref 81), some (.int a1), some (.int a2), some (.int a3), some (.int a4), some (.int a5)] [] SI12 SJ12 (QL Q)) ∧ (a4 = (i3 (-1)) → QL Q (some (.long (SI12 81 29).toInt64)) SI12 SJ12)
              refine ⟨fun c21 => ?_, fun c21 => ?_⟩
              · refine gj_goq gj_clT ok_231 [6, 25, 47, 57] ?_
                show (a4 < (SI12 81 29) → gj_Goes E om0 mt_231 89 [some (.ref 81), some (.int a1), some (.int a2), some (.int a3), some (.int a4), some (.int a5)] [] SI12 SJ12 (QL Q)) ∧ (¬ a4 < (SI12 81 29) → QL Q (some (.long (i6 (-9000000000000000000)))) SI12 SJ12)
                refine ⟨fun c22 => ?_, fun c22 => ?_⟩
                · refine gj_goq gj_clT ok_231 [6, 25, 47, 57] ?_
                  show (¬ a5 = 0 → gj_Goes E om0 mt_231 105 [some (.ref 81), some (.int a1), some (.int a2), some (.int a3), some (.int a4), some (.int a5)] [] SI12 SJ12 (QL Q)) ∧ (a5 = 0 → vp_in a4 3 ∧ (gj_Goes E om0 mt_231 128 [some (.ref 81), some (.int a1), some (.int a2), some (.int a3), some (.int a4), some (.int a5)] [(.long (SI12 94 (gj_n a4)).toInt64)] SI12 SJ12 (QL Q)))
                  refine ⟨fun c23 => ?_, fun c23 => ?_⟩
                  · refine gj_goq gj_clT ok_231 [6, 25, 47, 57] ?_
                    show (¬ a5 = (i3 1) → gj_Goes E om0 mt_231 121 [some (.ref 81), some (.int a1), some (.int a2), some (.int a3), some (.int a4), some (.int a5)] [] SI12 SJ12 (QL Q)) ∧ (a5 = (i3 1) → vp_in a4 3 ∧ (gj_Goes E om0 mt_231 128 [some (.ref 81), some (.int a1), some (.int a2), some (.int a3), some (.int a4), some (.int a5)] [(.long (SJ12 95 (gj_n a4)))] SI12 SJ12 (QL Q)))
                    refine ⟨fun c24 => ?_, fun c24 => ?_⟩
                    · refine gj_goq gj_clT ok_231 [6, 25, 47, 57] ?_
                      show vp_in a4 3 ∧ (QL Q (some (.long (SJ12 96 (gj_n a4)))) SI12 SJ12)
                      have k25 := (((((q19.1 c20).1 c21).1 c22).1 c23).1 c24).1
                      refine ⟨k25, ?_⟩
                      exact ⟨_, rfl, (((((q19.1 c20).1 c21).1 c22).1 c23).1 c24).2⟩
                    · have k26 := (((((q19.1 c20).1 c21).1 c22).1 c23).2 c24).1
                      refine ⟨k26, ?_⟩
                      refine gj_goq gj_clT ok_231 [6, 25, 47, 57] ?_
                      show QL Q (some (.long (SJ12 95 (gj_n a4)))) SI12 SJ12
                      exact ⟨_, rfl, (((((q19.1 c20).1 c21).1 c22).1 c23).2 c24).2⟩
                  · have k27 := ((((q19.1 c20).1 c21).1 c22).2 c23).1
                    refine ⟨k27, ?_⟩
                    refine gj_goq gj_clT ok_231 [6, 25, 47, 57] ?_
                    show QL Q (some (.long (SI12 94 (gj_n a4)).toInt64)) SI12 SJ12
                    exact ⟨_, rfl, ((((q19.1 c20).1 c21).1 c22).2 c23).2⟩
                · exact ⟨_, rfl, (((q19.1 c20).1 c21).2 c22)⟩
              · exact ⟨_, rfl, ((q19.1 c20).2 c21)⟩
            · exact ⟨_, rfl, (q19.2 c20)⟩
          · exact ⟨_, rfl, (((q4.2 c5).2 c6).2 c17)⟩
set_option maxRecDepth 20000 in
/-- GraspJudgeModel.isWithin -/
theorem st_232 {E : gj_E} {Q : Int32 → gj_I → gj_J → Prop} (a1 : Int32) (SI : gj_I) (SJ : gj_J) (h : ((SJ 81 30) > ((a1).toInt64 * (SJ 81 31)) → Q (i3 0) SI SJ) ∧ (¬ (SJ 81 30) > ((a1).toInt64 * (SJ 81 31)) → Q (i3 1) SI SJ)) : DoI E 232 [(.ref 81), (.int a1)] SI SJ Q := by
  refine gj_start (M := mt_232) ok_232 (Nat.le_of_ble_eq_true rfl) ?_
  refine gj_goq gj_clT ok_232 [] ?_
  show (0 < (lg_cmp (SJ 81 30) ((a1).toInt64 * (SJ 81 31))) → gj_Goes E om0 mt_232 19 [some (.ref 81), some (.int a1)] [] SI SJ (QI Q)) ∧ (¬ 0 < (lg_cmp (SJ 81 30) ((a1).toInt64 * (SJ 81 31))) → gj_Goes E om0 mt_232 20 [some (.ref 81), some (.int a1)] [(.int (i3 1))] SI SJ (QI Q))
  refine ⟨fun c1 => ?_, fun c1 => ?_⟩
  · refine gj_goq gj_clT ok_232 [] ?_
    show ((i3 0) = 0 ∨ (i3 0) = 1) ∧ (QI Q (some (.int (i3 0))) SI SJ)
    refine ⟨(Or.inl rfl), ?_⟩
    exact ⟨_, rfl, (h.1 (lgc_gt.mp c1))⟩
  · refine gj_goq gj_clT ok_232 [] ?_
    show ((i3 1) = 0 ∨ (i3 1) = 1) ∧ (QI Q (some (.int (i3 1))) SI SJ)
    refine ⟨(Or.inr rfl), ?_⟩
    exact ⟨_, rfl, (h.2 (fun z_ => c1 (lgc_gt.mpr z_)))⟩
set_option maxRecDepth 20000 in
/-- GraspJudgeModel.holdsWeight -/
theorem st_233 {E : gj_E} {Q : Int32 → gj_I → gj_J → Prop} (a1 : Int32) (a2 : Int32) (SI : gj_I) (SJ : gj_J) (h : GoI E mt_233 8 [some (.ref 81), some (.int a1), some (.int a2), some (.long (i6 0)), none, some (.long (i6 0)), none, some (.int (i3 0)), none, none] SI SJ Q) : DoI E 233 [(.ref 81), (.int a1), (.int a2)] SI SJ Q := by
  refine gj_start (M := mt_233) ok_233 (Nat.le_of_ble_eq_true rfl) ?_
  refine gj_goq gj_clT ok_233 [8, 14, 23, 31, 40, 46, 60, 68, 83, 91, 111, 177] ?_
  show gj_Goes E om0 mt_233 8 [some (.ref 81), some (.int a1), some (.int a2), some (.long (i6 0)), none, some (.long (i6 0)), none, some (.int (i3 0)), none, none] [] SI SJ (QI Q)
  exact h
set_option maxRecDepth 20000 in
theorem lp_233_8 {E : gj_E} {Q : Int32 → gj_I → gj_J → Prop} (x1 : Int32) (x2 : Int32) (x3 : Int64) (x5 : Int64) (x7 : Int32) (SI : gj_I) (SJ : gj_J) (h : DoI E 162 [(.ref 81)] SI SJ (fun r1 SI2 SJ2 => (r1 ≤ x7 → DoL E 174 [(.ref 81)] SI2 SJ2 (fun r3 SI4 SJ4 => DoI E 227 [(.ref 81), (.long ((x1).toInt64 * ((i6 3) * r3))), (.long ((x2).toInt64 * ((i6 3) * r3))), (.long (((x3 - ((SI4 82 32).toInt64 * ((i6 3) * r3))) * (x2).toInt64) - ((x5 - ((SI4 82 33).toInt64 * ((i6 3) * r3))) * (x1).toInt64)))] SI4 (gj_w2 SJ4 81 33 ((i6 3) * r3)) (fun r5 SI6 SJ6 => (r5 = 0 ∨ r5 = 1) ∧ (Q r5 SI6 SJ6)))) ∧ (¬ r1 ≤ x7 → DoI E 163 [(.ref 81), (.int x7)] SI2 SJ2 (fun r7 SI8 SJ8 => DoI E 164 [(.ref 81), (.int (x7 + (i3 1)))] SI8 SJ8 (fun r9 SI10 SJ10 => DoI E 163 [(.ref 81), (.int (x7 + (i3 1)))] SI10 SJ10 (fun r11 SI12 SJ12 => DoI E 164 [(.ref 81), (.int x7)] SI12 SJ12 (fun r13 SI14 SJ14 => DoI E 163 [(.ref 81), (.int x7)] SI14 SJ14 (fun r15 SI16 SJ16 => DoI E 163 [(.ref 81), (.int (x7 + (i3 1)))] SI16 SJ16 (fun r17 SI18 SJ18 => DoI E 164 [(.ref 81), (.int x7)] SI18 SJ18 (fun r19 SI20 SJ20 => DoI E 164 [(.ref 81), (.int (x7 + (i3 1)))] SI20 SJ20 (fun r21 SI22 SJ22 => GoI E mt_233 8 [some (.ref 81), some (.int x1), some (.int x2), some (.long (x3 + (((r7 * r9) - (r11 * r13)).toInt64 * (r15 + r17).toInt64))), none, some (.long (x5 + (((r7 * r9) - (r11 * r13)).toInt64 * (r19 + r21).toInt64))), none, some (.int (x7 + (i3 1))), none, none] SI22 SJ22 Q))))))))))) : GoI E mt_233 8 [some (.ref 81), some (.int x1), some (.int x2), some (.long x3), none, some (.long x5), none, some (.int x7), none, none] SI SJ Q := by
  refine gj_goq gj_clT ok_233 [8, 14, 23, 31, 40, 46, 60, 68, 83, 91, 111, 177] ?_
  show gj_Do E om0 (gj_mt 162) [(.ref 81)] SI SJ _
  refine gj_Do.mono h (fun v_ SI2 SJ2 h_ => ?_)
  obtain ⟨r1, rfl, q1⟩ := h_
  show gj_Goes E om0 mt_233 14 [some (.ref 81), some (.int x1), some (.int x2), some (.long x3), none, some (.long x5), none, some (.int x7), none, none] [(.int r1), (.int x7)] SI2 SJ2 (QI Q)
  refine gj_goq gj_clT ok_233 [8, 14, 23, 31, 40, 46, 60, 68, 83, 91, 111, 177] ?_
  show (r1 ≤ x7 → gj_Goes E om0 mt_233 103 [some (.ref 81), some (.int x1), some (.int x2), some (.long x3), none, some (.long x5), none, some (.int x7), none, none] [] SI2 SJ2 (QI Q)) ∧ (¬ r1 ≤ x7 → gj_Do E om0 (gj_mt 163) [(.ref 81), (.int x7)] SI2 SJ2 _)
  refine ⟨fun c2 => ?_, fun c2 => ?_⟩
  · refine gj_goq gj_clT ok_233 [8, 14, 23, 31, 40, 46, 60, 68, 83, 91, 111, 177] ?_
    show gj_Do E om0 (gj_mt 174) [(.ref 81)] SI2 SJ2 _
    refine gj_Do.mono (q1.1 c2) (fun v_ SI4 SJ4 h_ => ?_)
    obtain ⟨r3, rfl, q3⟩ := h_
    show gj_Goes E om0 mt_233 111 [some (.ref 81), some (.int x1), some (.int x2), some (.long x3), none, some (.long x5), none, some (.int x7), none, none] [(.long r3), (.long (i6 3)), (.ref 81)] SI4 SJ4 (QI Q)
    refine gj_goq gj_clT ok_233 [8, 14, 23, 31, 40, 46, 60, 68, 83, 91, 111, 177] ?_
    show vp_in (i3 32) 135 ∧ (vp_in (i3 33) 135 ∧ (gj_Do E om0 (gj_mt 227) [(.ref 81), (.long ((x1).toInt64 * ((i6 3) * r3))), (.long ((x2).toInt64 * ((i6 3) * r3))), (.long (((x3 - ((SI4 82 32).toInt64 * ((i6 3) * r3))) * (x2).toInt64) - ((x5 - ((SI4 82 33).toInt64 * ((i6 3) * r3))) * (x1).toInt64)))] SI4 (gj_w2 SJ4 81 33 ((i6 3) * r3)) _))
    refine ⟨(gj_vin (by decide)), ?_⟩
    refine ⟨(gj_vin (by decide)), ?_⟩
    refine gj_Do.mono q3 (fun v_ SI6 SJ6 h_ => ?_)
    obtain ⟨r5, rfl, q4⟩ := h_
    show gj_Goes E om0 mt_233 177 [some (.ref 81), some (.int x1), some (.int x2), some (.long (x3 - ((SI4 82 32).toInt64 * ((i6 3) * r3)))), none, some (.long (x5 - ((SI4 82 33).toInt64 * ((i6 3) * r3)))), none, some (.int x7), none, none] [(.int r5)] SI6 SJ6 (QI Q)
    refine gj_goq gj_clT ok_233 [8, 14, 23, 31, 40, 46, 60, 68, 83, 91, 111, 177] ?_
    show (r5 = 0 ∨ r5 = 1) ∧ (QI Q (some (.int r5)) SI6 SJ6)
    have k5 := q4.1
    refine ⟨k5, ?_⟩
    exact ⟨_, rfl, q4.2⟩
  · refine gj_Do.mono (q1.2 c2) (fun v_ SI8 SJ8 h_ => ?_)
    obtain ⟨r7, rfl, q6⟩ := h_
    show gj_Goes E om0 mt_233 23 [some (.ref 81), some (.int x1), some (.int x2), some (.long x3), none, some (.long x5), none, some (.int x7), none, none] [(.int r7)] SI8 SJ8 (QI Q)
    refine gj_goq gj_clT ok_233 [8, 14, 23, 31, 40, 46, 60, 68, 83, 91, 111, 177] ?_
    show gj_Do E om0 (gj_mt 164) [(.ref 81), (.int (x7 + (i3 1)))] SI8 SJ8 _
    refine gj_Do.mono q6 (fun v_ SI10 SJ10 h_ => ?_)
    obtain ⟨r9, rfl, q7⟩ := h_
    show gj_Goes E om0 mt_233 31 [some (.ref 81), some (.int x1), some (.int x2), some (.long x3), none, some (.long x5), none, some (.int x7), none, none] [(.int r9), (.int r7)] SI10 SJ10 (QI Q)
    refine gj_goq gj_clT ok_233 [8, 14, 23, 31, 40, 46, 60, 68, 83, 91, 111, 177] ?_
    show gj_Do E om0 (gj_mt 163) [(.ref 81), (.int (x7 + (i3 1)))] SI10 SJ10 _
    refine gj_Do.mono q7 (fun v_ SI12 SJ12 h_ => ?_)
    obtain ⟨r11, rfl, q8⟩ := h_
    show gj_Goes E om0 mt_233 40 [some (.ref 81), some (.int x1), some (.int x2), some (.long x3), none, some (.long x5), none, some (.int x7), none, none] [(.int r11), (.int (r7 * r9))] SI12 SJ12 (QI Q)
    refine gj_goq gj_clT ok_233 [8, 14, 23, 31, 40, 46, 60, 68, 83, 91, 111, 177] ?_
    show gj_Do E om0 (gj_mt 164) [(.ref 81), (.int x7)] SI12 SJ12 _
    refine gj_Do.mono q8 (fun v_ SI14 SJ14 h_ => ?_)
    obtain ⟨r13, rfl, q9⟩ := h_
    show gj_Goes E om0 mt_233 46 [some (.ref 81), some (.int x1), some (.int x2), some (.long x3), none, some (.long x5), none, some (.int x7), none, none] [(.int r13), (.int r11), (.int (r7 * r9))] SI14 SJ14 (QI Q)
    refine gj_goq gj_clT ok_233 [8, 14, 23, 31, 40, 46, 60, 68, 83, 91, 111, 177] ?_
    show gj_Do E om0 (gj_mt 163) [(.ref 81), (.int x7)] SI14 SJ14 _
    refine gj_Do.mono q9 (fun v_ SI16 SJ16 h_ => ?_)
    obtain ⟨r15, rfl, q10⟩ := h_
    show gj_Goes E om0 mt_233 60 [some (.ref 81), some (.int x1), some (.int x2), some (.long x3), none, some (.long x5), none, some (.int x7), some (.long ((r7 * r9) - (r11 * r13)).toInt64), none] [(.int r15), (.long ((r7 * r9) - (r11 * r13)).toInt64), (.long x3)] SI16 SJ16 (QI Q)
    refine gj_goq gj_clT ok_233 [8, 14, 23, 31, 40, 46, 60, 68, 83, 91, 111, 177] ?_
    show gj_Do E om0 (gj_mt 163) [(.ref 81), (.int (x7 + (i3 1)))] SI16 SJ16 _
    refine gj_Do.mono q10 (fun v_ SI18 SJ18 h_ => ?_)
    obtain ⟨r17, rfl, q11⟩ := h_
    show gj_Goes E om0 mt_233 68 [some (.ref 81), some (.int x1), some (.int x2), some (.long x3), none, some (.long x5), none, some (.int x7), some (.long ((r7 * r9) - (r11 * r13)).toInt64), none] [(.int r17), (.int r15), (.long ((r7 * r9) - (r11 * r13)).toInt64), (.long x3)] SI18 SJ18 (QI Q)
    refine gj_goq gj_clT ok_233 [8, 14, 23, 31, 40, 46, 60, 68, 83, 91, 111, 177] ?_
    show gj_Do E om0 (gj_mt 164) [(.ref 81), (.int x7)] SI18 SJ18 _
    refine gj_Do.mono q11 (fun v_ SI20 SJ20 h_ => ?_)
    obtain ⟨r19, rfl, q12⟩ := h_
    show gj_Goes E om0 mt_233 83 [some (.ref 81), some (.int x1), some (.int x2), some (.long (x3 + (((r7 * r9) - (r11 * r13)).toInt64 * (r15 + r17).toInt64))), none, some (.long x5), none, some (.int x7), some (.long ((r7 * r9) - (r11 * r13)).toInt64), none] [(.int r19), (.long ((r7 * r9) - (r11 * r13)).toInt64), (.long x5)] SI20 SJ20 (QI Q)
    refine gj_goq gj_clT ok_233 [8, 14, 23, 31, 40, 46, 60, 68, 83, 91, 111, 177] ?_
    show gj_Do E om0 (gj_mt 164) [(.ref 81), (.int (x7 + (i3 1)))] SI20 SJ20 _
    refine gj_Do.mono q12 (fun v_ SI22 SJ22 h_ => ?_)
    obtain ⟨r21, rfl, q13⟩ := h_
    show gj_Goes E om0 mt_233 91 [some (.ref 81), some (.int x1), some (.int x2), some (.long (x3 + (((r7 * r9) - (r11 * r13)).toInt64 * (r15 + r17).toInt64))), none, some (.long x5), none, some (.int x7), some (.long ((r7 * r9) - (r11 * r13)).toInt64), none] [(.int r21), (.int r19), (.long ((r7 * r9) - (r11 * r13)).toInt64), (.long x5)] SI22 SJ22 (QI Q)
    refine gj_goq gj_clT ok_233 [8, 14, 23, 31, 40, 46, 60, 68, 83, 91, 111, 177] ?_
    show gj_Goes E om0 mt_233 8 [some (.ref 81), some (.int x1), some (.int x2), some (.long (x3 + (((r7 * r9) - (r11 * r13)).toInt64 * (r15 + r17).toInt64))), none, some (.long (x5 + (((r7 * r9) - (r11 * r13)).toInt64 * (r19 + r21).toInt64))), none, some (.int (x7 + (i3 1))), some (.long ((r7 * r9) - (r11 * r13)).toInt64), none] [] SI22 SJ22 (QI Q)
    exact gj_fh q13 (And.intro (Or.inr rfl) (And.intro (Or.inr rfl) (And.intro (Or.inr rfl) (And.intro (Or.inr rfl) (And.intro (Or.inl rfl) (And.intro (Or.inr rfl) (And.intro (Or.inl rfl) (And.intro (Or.inr rfl) (And.intro (Or.inl rfl) (And.intro (Or.inl rfl) trivial))))))))))
set_option maxRecDepth 20000 in
/-- GraspJudgeModel.weight -/
theorem st_234 {E : gj_E} {Q : Int64 → gj_I → gj_J → Prop} (a1 : Int32) (a2 : Int32) (a3 : Int32) (SI : gj_I) (SJ : gj_J) (h : DoI E 155 [(.long (a1).toInt64), (.long (i6 (-9))), (.long (i6 9))] SI SJ (fun r1 SI2 SJ2 => (r1 = 0 → Q (i6 (-9000000000000000000)) SI2 SJ2) ∧ (¬ r1 = 0 → DoI E 155 [(.long (a2).toInt64), (.long (i6 (-9))), (.long (i6 9))] SI2 SJ2 (fun r3 SI4 SJ4 => (r3 = 0 → Q (i6 (-9000000000000000000)) SI4 SJ4) ∧ (¬ r3 = 0 → DoI E 155 [(.long (a3).toInt64), (.long (i6 0)), (.long (i6 1))] SI4 SJ4 (fun r5 SI6 SJ6 => (¬ r5 = 0 → DoV E 184 [(.ref 81)] SI6 SJ6 (fun SI8 SJ8 => DoI E 233 [(.ref 81), (.int a1), (.int a2)] SI8 SJ8 (fun r9 SI10 SJ10 => (¬ r9 = 0 → DoL E 161 [(.long (SJ10 81 30)), (.long ((SJ10 81 31) * (SJ10 81 33)))] SI10 SJ10 (fun r11 SI12 SJ12 => (¬ a3 = 0 → ¬ r11 = 0 ∧ (Q (((SJ10 81 31) * (SJ10 81 33)) / r11) SI12 SJ12)) ∧ (a3 = 0 → ¬ r11 = 0 ∧ (Q ((SJ12 81 30) / r11) SI12 SJ12)))) ∧ (r9 = 0 → Q (i6 (-9000000000000000000)) SI10 SJ10)))) ∧ (r5 = 0 → Q (i6 (-9000000000000000000)) SI6 SJ6))))))) : DoL E 234 [(.ref 81), (.int a1), (.int a2), (.int a3)] SI SJ Q := by
  refine gj_start (M := mt_234) ok_234 (Nat.le_of_ble_eq_true rfl) ?_
  refine gj_goq gj_clT ok_234 [11, 25, 35, 46, 52, 79] ?_
  show gj_Do E om0 (gj_mt 155) [(.long (a1).toInt64), (.long (i6 (-9))), (.long (i6 9))] SI SJ _
  refine gj_Do.mono h (fun v_ SI2 SJ2 h_ => ?_)
  obtain ⟨r1, rfl, q1⟩ := h_
  show gj_Goes E om0 mt_234 11 [some (.ref 81), some (.int a1), some (.int a2), some (.int a3), none, none, none, none] [(.int r1)] SI2 SJ2 (QL Q)
  refine gj_goq gj_clT ok_234 [11, 25, 35, 46, 52, 79] ?_
  show (r1 = 0 → gj_Goes E om0 mt_234 38 [some (.ref 81), some (.int a1), some (.int a2), some (.int a3), none, none, none, none] [] SI2 SJ2 (QL Q)) ∧ (¬ r1 = 0 → gj_Do E om0 (gj_mt 155) [(.long (a2).toInt64), (.long (i6 (-9))), (.long (i6 9))] SI2 SJ2 _)
  refine ⟨fun c2 => ?_, fun c2 => ?_⟩
  · refine gj_goq gj_clT ok_234 [11, 25, 35, 46, 52, 79] ?_
    show QL Q (some (.long (i6 (-9000000000000000000)))) SI2 SJ2
    exact ⟨_, rfl, (q1.1 c2)⟩
  · refine gj_Do.mono (q1.2 c2) (fun v_ SI4 SJ4 h_ => ?_)
    obtain ⟨r3, rfl, q3⟩ := h_
    show gj_Goes E om0 mt_234 25 [some (.ref 81), some (.int a1), some (.int a2), some (.int a3), none, none, none, none] [(.int r3)] SI4 SJ4 (QL Q)
    refine gj_goq gj_clT ok_234 [11, 25, 35, 46, 52, 79] ?_
    show (r3 = 0 → gj_Goes E om0 mt_234 38 [some (.ref 81), some (.int a1), some (.int a2), some (.int a3), none, none, none, none] [] SI4 SJ4 (QL Q)) ∧ (¬ r3 = 0 → gj_Do E om0 (gj_mt 155) [(.long (a3).toInt64), (.long (i6 0)), (.long (i6 1))] SI4 SJ4 _)
    refine ⟨fun c4 => ?_, fun c4 => ?_⟩
    · refine gj_goq gj_clT ok_234 [11, 25, 35, 46, 52, 79] ?_
      show QL Q (some (.long (i6 (-9000000000000000000)))) SI4 SJ4
      exact ⟨_, rfl, (q3.1 c4)⟩
    · refine gj_Do.mono (q3.2 c4) (fun v_ SI6 SJ6 h_ => ?_)
      obtain ⟨r5, rfl, q5⟩ := h_
      show gj_Goes E om0 mt_234 35 [some (.ref 81), some (.int a1), some (.int a2), some (.int a3), none, none, none, none] [(.int r5)] SI6 SJ6 (QL Q)
      refine gj_goq gj_clT ok_234 [11, 25, 35, 46, 52, 79] ?_
      show (¬ r5 = 0 → gj_Goes E om0 mt_234 42 [some (.ref 81), some (.int a1), some (.int a2), some (.int a3), none, none, none, none] [] SI6 SJ6 (QL Q)) ∧ (r5 = 0 → QL Q (some (.long (i6 (-9000000000000000000)))) SI6 SJ6)
      refine ⟨fun c6 => ?_, fun c6 => ?_⟩
      · refine gj_goq gj_clT ok_234 [11, 25, 35, 46, 52, 79] ?_
        show gj_Do E om0 (gj_mt 184) [(.ref 81)] SI6 SJ6 _
        refine gj_Do.mono (q5.1 c6) (fun v_ SI8 SJ8 h_ => ?_)
        obtain ⟨rfl, q7⟩ := h_
        show gj_Goes E om0 mt_234 46 [some (.ref 81), some (.int a1), some (.int a2), some (.int a3), none, none, none, none] [] SI8 SJ8 (QL Q)
        refine gj_goq gj_clT ok_234 [11, 25, 35, 46, 52, 79] ?_
        show gj_Do E om0 (gj_mt 233) [(.ref 81), (.int a1), (.int a2)] SI8 SJ8 _
        refine gj_Do.mono q7 (fun v_ SI10 SJ10 h_ => ?_)
        obtain ⟨r9, rfl, q8⟩ := h_
        show gj_Goes E om0 mt_234 52 [some (.ref 81), some (.int a1), some (.int a2), some (.int a3), none, none, none, none] [(.int r9)] SI10 SJ10 (QL Q)
        refine gj_goq gj_clT ok_234 [11, 25, 35, 46, 52, 79] ?_
        show (¬ r9 = 0 → gj_Goes E om0 mt_234 59 [some (.ref 81), some (.int a1), some (.int a2), some (.int a3), none, none, none, none] [] SI10 SJ10 (QL Q)) ∧ (r9 = 0 → QL Q (some (.long (i6 (-9000000000000000000)))) SI10 SJ10)
        refine ⟨fun c9 => ?_, fun c9 => ?_⟩
        · refine gj_goq gj_clT ok_234 [11, 25, 35, 46, 52, 79] ?_
          show gj_Do E om0 (gj_mt 161) [(.long (SJ10 81 30)), (.long ((SJ10 81 31) * (SJ10 81 33)))] SI10 SJ10 _
          refine gj_Do.mono (q8.1 c9) (fun v_ SI12 SJ12 h_ => ?_)
          obtain ⟨r11, rfl, q10⟩ := h_
          show gj_Goes E om0 mt_234 79 [some (.ref 81), some (.int a1), some (.int a2), some (.int a3), some (.long ((SJ10 81 31) * (SJ10 81 33))), none, none, none] [(.long r11)] SI12 SJ12 (QL Q)
          refine gj_goq gj_clT ok_234 [11, 25, 35, 46, 52, 79] ?_
          show (¬ a3 = 0 → gj_Goes E om0 mt_234 95 [some (.ref 81), some (.int a1), some (.int a2), some (.int a3), some (.long ((SJ10 81 31) * (SJ10 81 33))), none, some (.long r11), none] [] SI12 SJ12 (QL Q)) ∧ (a3 = 0 → ¬ r11 = 0 ∧ (gj_Goes E om0 mt_234 100 [some (.ref 81), some (.int a1), some (.int a2), some (.int a3), some (.long ((SJ10 81 31) * (SJ10 81 33))), none, some (.long r11), none] [(.long ((SJ12 81 30) / r11))] SI12 SJ12 (QL Q)))
          refine ⟨fun c11 => ?_, fun c11 => ?_⟩
          · refine gj_goq gj_clT ok_234 [11, 25, 35, 46, 52, 79] ?_
            show ¬ r11 = 0 ∧ (QL Q (some (.long (((SJ10 81 31) * (SJ10 81 33)) / r11))) SI12 SJ12)
            have k12 := (q10.1 c11).1
            refine ⟨k12, ?_⟩
            exact ⟨_, rfl, (q10.1 c11).2⟩
          · have k13 := (q10.2 c11).1
            refine ⟨k13, ?_⟩
            refine gj_goq gj_clT ok_234 [11, 25, 35, 46, 52, 79] ?_
            show QL Q (some (.long ((SJ12 81 30) / r11))) SI12 SJ12
            exact ⟨_, rfl, (q10.2 c11).2⟩
        · exact ⟨_, rfl, (q8.2 c9)⟩
      · exact ⟨_, rfl, (q5.2 c6)⟩
set_option maxRecDepth 20000 in
/-- GraspJudgeModel.tilt -/
theorem st_235 {E : gj_E} {Q : Int32 → gj_I → gj_J → Prop} (a1 : Int32) (SI : gj_I) (SJ : gj_J) (h : DoI E 155 [(.long (a1).toInt64), (.long (i6 0)), (.long (i6 10000))] SI SJ (fun r1 SI2 SJ2 => (¬ r1 = 0 → DoV E 184 [(.ref 81)] SI2 SJ2 (fun SI4 SJ4 => GoI E mt_235 22 [some (.ref 81), some (.int a1), some (.int (i3 0)), some (.int (i3 0)), none, none] SI4 SJ4 Q)) ∧ (r1 = 0 → Q (i3 (-1)) SI2 SJ2))) : DoI E 235 [(.ref 81), (.int a1)] SI SJ Q := by
  refine gj_start (M := mt_235) ok_235 (Nat.le_of_ble_eq_true rfl) ?_
  refine gj_goq gj_clT ok_235 [9, 18, 22, 94] ?_
  show gj_Do E om0 (gj_mt 155) [(.long (a1).toInt64), (.long (i6 0)), (.long (i6 10000))] SI SJ _
  refine gj_Do.mono h (fun v_ SI2 SJ2 h_ => ?_)
  obtain ⟨r1, rfl, q1⟩ := h_
  show gj_Goes E om0 mt_235 9 [some (.ref 81), some (.int a1), none, none, none, none] [(.int r1)] SI2 SJ2 (QI Q)
  refine gj_goq gj_clT ok_235 [9, 18, 22, 94] ?_
  show (¬ r1 = 0 → gj_Goes E om0 mt_235 14 [some (.ref 81), some (.int a1), none, none, none, none] [] SI2 SJ2 (QI Q)) ∧ (r1 = 0 → QI Q (some (.int (i3 (-1)))) SI2 SJ2)
  refine ⟨fun c2 => ?_, fun c2 => ?_⟩
  · refine gj_goq gj_clT ok_235 [9, 18, 22, 94] ?_
    show gj_Do E om0 (gj_mt 184) [(.ref 81)] SI2 SJ2 _
    refine gj_Do.mono (q1.1 c2) (fun v_ SI4 SJ4 h_ => ?_)
    obtain ⟨rfl, q3⟩ := h_
    show gj_Goes E om0 mt_235 18 [some (.ref 81), some (.int a1), none, none, none, none] [] SI4 SJ4 (QI Q)
    refine gj_goq gj_clT ok_235 [9, 18, 22, 94] ?_
    show gj_Goes E om0 mt_235 22 [some (.ref 81), some (.int a1), some (.int (i3 0)), some (.int (i3 0)), none, none] [] SI4 SJ4 (QI Q)
    exact q3
  · exact ⟨_, rfl, (q1.2 c2)⟩
set_option maxRecDepth 20000 in
theorem lp_235_22 {E : gj_E} {Q : Int32 → gj_I → gj_J → Prop} (x1 : Int32) (x2 : Int32) (x3 : Int32) (SI : gj_I) (SJ : gj_J) (h : ((i3 8) ≤ x3 → Q x2 SI SJ) ∧ (¬ (i3 8) ≤ x3 → (x3 < (i3 2) → (x3 ≤ 0 → (x3 ≤ (i3 4) → DoI E 233 [(.ref 81), (.int (i3 1)), (.int (i3 0))] SI SJ (fun r1 SI2 SJ2 => (r1 = 0 → GoI E mt_235 22 [some (.ref 81), some (.int x1), some (.int x2), some (.int (x3 + (i3 1))), none, none] SI2 SJ2 Q) ∧ (¬ r1 = 0 → ((SJ2 81 30) > (((x1).toInt64 * (SJ2 81 33)) * (SJ2 81 31)) → GoI E mt_235 22 [some (.ref 81), some (.int x1), some (.int x2), some (.int (x3 + (i3 1))), none, none] SI2 SJ2 Q) ∧ (¬ (SJ2 81 30) > (((x1).toInt64 * (SJ2 81 33)) * (SJ2 81 31)) → GoI E mt_235 22 [some (.ref 81), some (.int x1), some (.int (x2 ||| ((i3 1) <<< (x3 &&& 31)))), some (.int (x3 + (i3 1))), none, none] SI2 SJ2 Q)))) ∧ (¬ x3 ≤ (i3 4) → DoI E 233 [(.ref 81), (.int (i3 1)), (.int (i3 (-1)))] SI SJ (fun r3 SI4 SJ4 => (r3 = 0 → GoI E mt_235 22 [some (.ref 81), some (.int x1), some (.int x2), some (.int (x3 + (i3 1))), none, none] SI4 SJ4 Q) ∧ (¬ r3 = 0 → ((SJ4 81 30) > (((x1).toInt64 * (SJ4 81 33)) * (SJ4 81 31)) → GoI E mt_235 22 [some (.ref 81), some (.int x1), some (.int x2), some (.int (x3 + (i3 1))), none, none] SI4 SJ4 Q) ∧ (¬ (SJ4 81 30) > (((x1).toInt64 * (SJ4 81 33)) * (SJ4 81 31)) → GoI E mt_235 22 [some (.ref 81), some (.int x1), some (.int (x2 ||| ((i3 1) <<< (x3 &&& 31)))), some (.int (x3 + (i3 1))), none, none] SI4 SJ4 Q))))) ∧ (¬ x3 ≤ 0 → ((i3 4) ≤ x3 → (x3 ≤ (i3 4) → DoI E 233 [(.ref 81), (.int (i3 1)), (.int (i3 0))] SI SJ (fun r5 SI6 SJ6 => (r5 = 0 → GoI E mt_235 22 [some (.ref 81), some (.int x1), some (.int x2), some (.int (x3 + (i3 1))), none, none] SI6 SJ6 Q) ∧ (¬ r5 = 0 → ((SJ6 81 30) > (((x1).toInt64 * (SJ6 81 33)) * (SJ6 81 31)) → GoI E mt_235 22 [some (.ref 81), some (.int x1), some (.int x2), some (.int (x3 + (i3 1))), none, none] SI6 SJ6 Q) ∧ (¬ (SJ6 81 30) > (((x1).toInt64 * (SJ6 81 33)) * (SJ6 81 31)) → GoI E mt_235 22 [some (.ref 81), some (.int x1), some (.int (x2 ||| ((i3 1) <<< (x3 &&& 31)))), some (.int (x3 + (i3 1))), none, none] SI6 SJ6 Q)))) ∧ (¬ x3 ≤ (i3 4) → DoI E 233 [(.ref 81), (.int (i3 1)), (.int (i3 (-1)))] SI SJ (fun r7 SI8 SJ8 => (r7 = 0 → GoI E mt_235 22 [some (.ref 81), some (.int x1), some (.int x2), some (.int (x3 + (i3 1))), none, none] SI8 SJ8 Q) ∧ (¬ r7 = 0 → ((SJ8 81 30) > (((x1).toInt64 * (SJ8 81 33)) * (SJ8 81 31)) → GoI E mt_235 22 [some (.ref 81), some (.int x1), some (.int x2), some (.int (x3 + (i3 1))), none, none] SI8 SJ8 Q) ∧ (¬ (SJ8 81 30) > (((x1).toInt64 * (SJ8 81 33)) * (SJ8 81 31)) → GoI E mt_235 22 [some (.ref 81), some (.int x1), some (.int (x2 ||| ((i3 1) <<< (x3 &&& 31)))), some (.int (x3 + (i3 1))), none, none] SI8 SJ8 Q))))) ∧ (¬ (i3 4) ≤ x3 → DoI E 233 [(.ref 81), (.int (i3 1)), (.int (i3 1))] SI SJ (fun r9 SI10 SJ10 => (r9 = 0 → GoI E mt_235 22 [some (.ref 81), some (.int x1), some (.int x2), some (.int (x3 + (i3 1))), none, none] SI10 SJ10 Q) ∧ (¬ r9 = 0 → ((SJ10 81 30) > (((x1).toInt64 * (SJ10 81 33)) * (SJ10 81 31)) → GoI E mt_235 22 [some (.ref 81), some (.int x1), some (.int x2), some (.int (x3 + (i3 1))), none, none] SI10 SJ10 Q) ∧ (¬ (SJ10 81 30) > (((x1).toInt64 * (SJ10 81 33)) * (SJ10 81 31)) → GoI E mt_235 22 [some (.ref 81), some (.int x1), some (.int (x2 ||| ((i3 1) <<< (x3 &&& 31)))), some (.int (x3 + (i3 1))), none, none] SI10 SJ10 Q)))))) ∧ (¬ x3 < (i3 2) → (¬ x3 = (i3 7) → (x3 ≤ (i3 2) → (x3 ≤ 0 → (x3 ≤ (i3 4) → DoI E 233 [(.ref 81), (.int (i3 0)), (.int (i3 0))] SI SJ (fun r11 SI12 SJ12 => (r11 = 0 → GoI E mt_235 22 [some (.ref 81), some (.int x1), some (.int x2), some (.int (x3 + (i3 1))), none, none] SI12 SJ12 Q) ∧ (¬ r11 = 0 → ((SJ12 81 30) > (((x1).toInt64 * (SJ12 81 33)) * (SJ12 81 31)) → GoI E mt_235 22 [some (.ref 81), some (.int x1), some (.int x2), some (.int (x3 + (i3 1))), none, none] SI12 SJ12 Q) ∧ (¬ (SJ12 81 30) > (((x1).toInt64 * (SJ12 81 33)) * (SJ12 81 31)) → GoI E mt_235 22 [some (.ref 81), some (.int x1), some (.int (x2 ||| ((i3 1) <<< (x3 &&& 31)))), some (.int (x3 + (i3 1))), none, none] SI12 SJ12 Q)))) ∧ (¬ x3 ≤ (i3 4) → DoI E 233 [(.ref 81), (.int (i3 0)), (.int (i3 (-1)))] SI SJ (fun r13 SI14 SJ14 => (r13 = 0 → GoI E mt_235 22 [some (.ref 81), some (.int x1), some (.int x2), some (.int (x3 + (i3 1))), none, none] SI14 SJ14 Q) ∧ (¬ r13 = 0 → ((SJ14 81 30) > (((x1).toInt64 * (SJ14 81 33)) * (SJ14 81 31)) → GoI E mt_235 22 [some (.ref 81), some (.int x1), some (.int x2), some (.int (x3 + (i3 1))), none, none] SI14 SJ14 Q) ∧ (¬ (SJ14 81 30) > (((x1).toInt64 * (SJ14 81 33)) * (SJ14 81 31)) → GoI E mt_235 22 [some (.ref 81), some (.int x1), some (.int (x2 ||| ((i3 1) <<< (x3 &&& 31)))), some (.int (x3 + (i3 1))), none, none] SI14 SJ14 Q))))) ∧ (¬ x3 ≤ 0 → ((i3 4) ≤ x3 → (x3 ≤ (i3 4) → DoI E 233 [(.ref 81), (.int (i3 0)), (.int (i3 0))] SI SJ (fun r15 SI16 SJ16 => (r15 = 0 → GoI E mt_235 22 [some (.ref 81), some (.int x1), some (.int x2), some (.int (x3 + (i3 1))), none, none] SI16 SJ16 Q) ∧ (¬ r15 = 0 → ((SJ16 81 30) > (((x1).toInt64 * (SJ16 81 33)) * (SJ16 81 31)) → GoI E mt_235 22 [some (.ref 81), some (.int x1), some (.int x2), some (.int (x3 + (i3 1))), none, none] SI16 SJ16 Q) ∧ (¬ (SJ16 81 30) > (((x1).toInt64 * (SJ16 81 33)) * (SJ16 81 31)) → GoI E mt_235 22 [some (.ref 81), some (.int x1), some (.int (x2 ||| ((i3 1) <<< (x3 &&& 31)))), some (.int (x3 + (i3 1))), none, none] SI16 SJ16 Q)))) ∧ (¬ x3 ≤ (i3 4) → DoI E 233 [(.ref 81), (.int (i3 0)), (.int (i3 (-1)))] SI SJ (fun r17 SI18 SJ18 => (r17 = 0 → GoI E mt_235 22 [some (.ref 81), some (.int x1), some (.int x2), some (.int (x3 + (i3 1))), none, none] SI18 SJ18 Q) ∧ (¬ r17 = 0 → ((SJ18 81 30) > (((x1).toInt64 * (SJ18 81 33)) * (SJ18 81 31)) → GoI E mt_235 22 [some (.ref 81), some (.int x1), some (.int x2), some (.int (x3 + (i3 1))), none, none] SI18 SJ18 Q) ∧ (¬ (SJ18 81 30) > (((x1).toInt64 * (SJ18 81 33)) * (SJ18 81 31)) → GoI E mt_235 22 [some (.ref 81), some (.int x1), some (.int (x2 ||| ((i3 1) <<< (x3 &&& 31)))), some (.int (x3 + (i3 1))), none, none] SI18 SJ18 Q))))) ∧ (¬ (i3 4) ≤ x3 → DoI E 233 [(.ref 81), (.int (i3 0)), (.int (i3 1))] SI SJ (fun r19 SI20 SJ20 => (r19 = 0 → GoI E mt_235 22 [some (.ref 81), some (.int x1), some (.int x2), some (.int (x3 + (i3 1))), none, none] SI20 SJ20 Q) ∧ (¬ r19 = 0 → ((SJ20 81 30) > (((x1).toInt64 * (SJ20 81 33)) * (SJ20 81 31)) → GoI E mt_235 22 [some (.ref 81), some (.int x1), some (.int x2), some (.int (x3 + (i3 1))), none, none] SI20 SJ20 Q) ∧ (¬ (SJ20 81 30) > (((x1).toInt64 * (SJ20 81 33)) * (SJ20 81 31)) → GoI E mt_235 22 [some (.ref 81), some (.int x1), some (.int (x2 ||| ((i3 1) <<< (x3 &&& 31)))), some (.int (x3 + (i3 1))), none, none] SI20 SJ20 Q)))))) ∧ (¬ x3 ≤ (i3 2) → ((i3 6) ≤ x3 → (x3 ≤ 0 → (x3 ≤ (i3 4) → DoI E 233 [(.ref 81), (.int (i3 0)), (.int (i3 0))] SI SJ (fun r21 SI22 SJ22 => (r21 = 0 → GoI E mt_235 22 [some (.ref 81), some (.int x1), some (.int x2), some (.int (x3 + (i3 1))), none, none] SI22 SJ22 Q) ∧ (¬ r21 = 0 → ((SJ22 81 30) > (((x1).toInt64 * (SJ22 81 33)) * (SJ22 81 31)) → GoI E mt_235 22 [some (.ref 81), some (.int x1), some (.int x2), some (.int (x3 + (i3 1))), none, none] SI22 SJ22 Q) ∧ (¬ (SJ22 81 30) > (((x1).toInt64 * (SJ22 81 33)) * (SJ22 81 31)) → GoI E mt_235 22 [some (.ref 81), some (.int x1), some (.int (x2 ||| ((i3 1) <<< (x3 &&& 31)))), some (.int (x3 + (i3 1))), none, none] SI22 SJ22 Q)))) ∧ (¬ x3 ≤ (i3 4) → DoI E 233 [(.ref 81), (.int (i3 0)), (.int (i3 (-1)))] SI SJ (fun r23 SI24 SJ24 => (r23 = 0 → GoI E mt_235 22 [some (.ref 81), some (.int x1), some (.int x2), some (.int (x3 + (i3 1))), none, none] SI24 SJ24 Q) ∧ (¬ r23 = 0 → ((SJ24 81 30) > (((x1).toInt64 * (SJ24 81 33)) * (SJ24 81 31)) → GoI E mt_235 22 [some (.ref 81), some (.int x1), some (.int x2), some (.int (x3 + (i3 1))), none, none] SI24 SJ24 Q) ∧ (¬ (SJ24 81 30) > (((x1).toInt64 * (SJ24 81 33)) * (SJ24 81 31)) → GoI E mt_235 22 [some (.ref 81), some (.int x1), some (.int (x2 ||| ((i3 1) <<< (x3 &&& 31)))), some (.int (x3 + (i3 1))), none, none] SI24 SJ24 Q))))) ∧ (¬ x3 ≤ 0 → ((i3 4) ≤ x3 → (x3 ≤ (i3 4) → DoI E 233 [(.ref 81), (.int (i3 0)), (.int (i3 0))] SI SJ (fun r25 SI26 SJ26 => (r25 = 0 → GoI E mt_235 22 [some (.ref 81), some (.int x1), some (.int x2), some (.int (x3 + (i3 1))), none, none] SI26 SJ26 Q) ∧ (¬ r25 = 0 → ((SJ26 81 30) > (((x1).toInt64 * (SJ26 81 33)) * (SJ26 81 31)) → GoI E mt_235 22 [some (.ref 81), some (.int x1), some (.int x2), some (.int (x3 + (i3 1))), none, none] SI26 SJ26 Q) ∧ (¬ (SJ26 81 30) > (((x1).toInt64 * (SJ26 81 33)) * (SJ26 81 31)) → GoI E mt_235 22 [some (.ref 81), some (.int x1), some (.int (x2 ||| ((i3 1) <<< (x3 &&& 31)))), some (.int (x3 + (i3 1))), none, none] SI26 SJ26 Q)))) ∧ (¬ x3 ≤ (i3 4) → DoI E 233 [(.ref 81), (.int (i3 0)), (.int (i3 (-1)))] SI SJ (fun r27 SI28 SJ28 => (r27 = 0 → GoI E mt_235 22 [some (.ref 81), some (.int x1), some (.int x2), some (.int (x3 + (i3 1))), none, none] SI28 SJ28 Q) ∧ (¬ r27 = 0 → ((SJ28 81 30) > (((x1).toInt64 * (SJ28 81 33)) * (SJ28 81 31)) → GoI E mt_235 22 [some (.ref 81), some (.int x1), some (.int x2), some (.int (x3 + (i3 1))), none, none] SI28 SJ28 Q) ∧ (¬ (SJ28 81 30) > (((x1).toInt64 * (SJ28 81 33)) * (SJ28 81 31)) → GoI E mt_235 22 [some (.ref 81), some (.int x1), some (.int (x2 ||| ((i3 1) <<< (x3 &&& 31)))), some (.int (x3 + (i3 1))), none, none] SI28 SJ28 Q))))) ∧ (¬ (i3 4) ≤ x3 → DoI E 233 [(.ref 81), (.int (i3 0)), (.int (i3 1))] SI SJ (fun r29 SI30 SJ30 => (r29 = 0 → GoI E mt_235 22 [some (.ref 81), some (.int x1), some (.int x2), some (.int (x3 + (i3 1))), none, none] SI30 SJ30 Q) ∧ (¬ r29 = 0 → ((SJ30 81 30) > (((x1).toInt64 * (SJ30 81 33)) * (SJ30 81 31)) → GoI E mt_235 22 [some (.ref 81), some (.int x1), some (.int x2), some (.int (x3 + (i3 1))), none, none] SI30 SJ30 Q) ∧ (¬ (SJ30 81 30) > (((x1).toInt64 * (SJ30 81 33)) * (SJ30 81 31)) → GoI E mt_235 22 [some (.ref 81), some (.int x1), some (.int (x2 ||| ((i3 1) <<< (x3 &&& 31)))), some (.int (x3 + (i3 1))), none, none] SI30 SJ30 Q)))))) ∧ (¬ (i3 6) ≤ x3 → (x3 ≤ 0 → (x3 ≤ (i3 4) → DoI E 233 [(.ref 81), (.int (i3 (-1))), (.int (i3 0))] SI SJ (fun r31 SI32 SJ32 => (r31 = 0 → GoI E mt_235 22 [some (.ref 81), some (.int x1), some (.int x2), some (.int (x3 + (i3 1))), none, none] SI32 SJ32 Q) ∧ (¬ r31 = 0 → ((SJ32 81 30) > (((x1).toInt64 * (SJ32 81 33)) * (SJ32 81 31)) → GoI E mt_235 22 [some (.ref 81), some (.int x1), some (.int x2), some (.int (x3 + (i3 1))), none, none] SI32 SJ32 Q) ∧ (¬ (SJ32 81 30) > (((x1).toInt64 * (SJ32 81 33)) * (SJ32 81 31)) → GoI E mt_235 22 [some (.ref 81), some (.int x1), some (.int (x2 ||| ((i3 1) <<< (x3 &&& 31)))), some (.int (x3 + (i3 1))), none, none] SI32 SJ32 Q)))) ∧ (¬ x3 ≤ (i3 4) → DoI E 233 [(.ref 81), (.int (i3 (-1))), (.int (i3 (-1)))] SI SJ (fun r33 SI34 SJ34 => (r33 = 0 → GoI E mt_235 22 [some (.ref 81), some (.int x1), some (.int x2), some (.int (x3 + (i3 1))), none, none] SI34 SJ34 Q) ∧ (¬ r33 = 0 → ((SJ34 81 30) > (((x1).toInt64 * (SJ34 81 33)) * (SJ34 81 31)) → GoI E mt_235 22 [some (.ref 81), some (.int x1), some (.int x2), some (.int (x3 + (i3 1))), none, none] SI34 SJ34 Q) ∧ (¬ (SJ34 81 30) > (((x1).toInt64 * (SJ34 81 33)) * (SJ34 81 31)) → GoI E mt_235 22 [some (.ref 81), some (.int x1), some (.int (x2 ||| ((i3 1) <<< (x3 &&& 31)))), some (.int (x3 + (i3 1))), none, none] SI34 SJ34 Q))))) ∧ (¬ x3 ≤ 0 → ((i3 4) ≤ x3 → (x3 ≤ (i3 4) → DoI E 233 [(.ref 81), (.int (i3 (-1))), (.int (i3 0))] SI SJ (fun r35 SI36 SJ36 => (r35 = 0 → GoI E mt_235 22 [some (.ref 81), some (.int x1), some (.int x2), some (.int (x3 + (i3 1))), none, none] SI36 SJ36 Q) ∧ (¬ r35 = 0 → ((SJ36 81 30) > (((x1).toInt64 * (SJ36 81 33)) * (SJ36 81 31)) → GoI E mt_235 22 [some (.ref 81), some (.int x1), some (.int x2), some (.int (x3 + (i3 1))), none, none] SI36 SJ36 Q) ∧ (¬ (SJ36 81 30) > (((x1).toInt64 * (SJ36 81 33)) * (SJ36 81 31)) → GoI E mt_235 22 [some (.ref 81), some (.int x1), some (.int (x2 ||| ((i3 1) <<< (x3 &&& 31)))), some (.int (x3 + (i3 1))), none, none] SI36 SJ36 Q)))) ∧ (¬ x3 ≤ (i3 4) → DoI E 233 [(.ref 81), (.int (i3 (-1))), (.int (i3 (-1)))] SI SJ (fun r37 SI38 SJ38 => (r37 = 0 → GoI E mt_235 22 [some (.ref 81), some (.int x1), some (.int x2), some (.int (x3 + (i3 1))), none, none] SI38 SJ38 Q) ∧ (¬ r37 = 0 → ((SJ38 81 30) > (((x1).toInt64 * (SJ38 81 33)) * (SJ38 81 31)) → GoI E mt_235 22 [some (.ref 81), some (.int x1), some (.int x2), some (.int (x3 + (i3 1))), none, none] SI38 SJ38 Q) ∧ (¬ (SJ38 81 30) > (((x1).toInt64 * (SJ38 81 33)) * (SJ38 81 31)) → GoI E mt_235 22 [some (.ref 81), some (.int x1), some (.int (x2 ||| ((i3 1) <<< (x3 &&& 31)))), some (.int (x3 + (i3 1))), none, none] SI38 SJ38 Q))))) ∧ (¬ (i3 4) ≤ x3 → DoI E 233 [(.ref 81), (.int (i3 (-1))), (.int (i3 1))] SI SJ (fun r39 SI40 SJ40 => (r39 = 0 → GoI E mt_235 22 [some (.ref 81), some (.int x1), some (.int x2), some (.int (x3 + (i3 1))), none, none] SI40 SJ40 Q) ∧ (¬ r39 = 0 → ((SJ40 81 30) > (((x1).toInt64 * (SJ40 81 33)) * (SJ40 81 31)) → GoI E mt_235 22 [some (.ref 81), some (.int x1), some (.int x2), some (.int (x3 + (i3 1))), none, none] SI40 SJ40 Q) ∧ (¬ (SJ40 81 30) > (((x1).toInt64 * (SJ40 81 33)) * (SJ40 81 31)) → GoI E mt_235 22 [some (.ref 81), some (.int x1), some (.int (x2 ||| ((i3 1) <<< (x3 &&& 31)))), some (.int (x3 + (i3 1))), none, none] SI40 SJ40 Q)))))))) ∧ (x3 = (i3 7) → (x3 ≤ 0 → (x3 ≤ (i3 4) → DoI E 233 [(.ref 81), (.int (i3 1)), (.int (i3 0))] SI SJ (fun r41 SI42 SJ42 => (r41 = 0 → GoI E mt_235 22 [some (.ref 81), some (.int x1), some (.int x2), some (.int (x3 + (i3 1))), none, none] SI42 SJ42 Q) ∧ (¬ r41 = 0 → ((SJ42 81 30) > (((x1).toInt64 * (SJ42 81 33)) * (SJ42 81 31)) → GoI E mt_235 22 [some (.ref 81), some (.int x1), some (.int x2), some (.int (x3 + (i3 1))), none, none] SI42 SJ42 Q) ∧ (¬ (SJ42 81 30) > (((x1).toInt64 * (SJ42 81 33)) * (SJ42 81 31)) → GoI E mt_235 22 [some (.ref 81), some (.int x1), some (.int (x2 ||| ((i3 1) <<< (x3 &&& 31)))), some (.int (x3 + (i3 1))), none, none] SI42 SJ42 Q)))) ∧ (¬ x3 ≤ (i3 4) → DoI E 233 [(.ref 81), (.int (i3 1)), (.int (i3 (-1)))] SI SJ (fun r43 SI44 SJ44 => (r43 = 0 → GoI E mt_235 22 [some (.ref 81), some (.int x1), some (.int x2), some (.int (x3 + (i3 1))), none, none] SI44 SJ44 Q) ∧ (¬ r43 = 0 → ((SJ44 81 30) > (((x1).toInt64 * (SJ44 81 33)) * (SJ44 81 31)) → GoI E mt_235 22 [some (.ref 81), some (.int x1), some (.int x2), some (.int (x3 + (i3 1))), none, none] SI44 SJ44 Q) ∧ (¬ (SJ44 81 30) > (((x1).toInt64 * (SJ44 81 33)) * (SJ44 81 31)) → GoI E mt_235 22 [some (.ref 81), some (.int x1), some (.int (x2 ||| ((i3 1) <<< (x3 &&& 31)))), some (.int (x3 + (i3 1))), none, none] SI44 SJ44 Q))))) ∧ (¬ x3 ≤ 0 → ((i3 4) ≤ x3 → (x3 ≤ (i3 4) → DoI E 233 [(.ref 81), (.int (i3 1)), (.int (i3 0))] SI SJ (fun r45 SI46 SJ46 => (r45 = 0 → GoI E mt_235 22 [some (.ref 81), some (.int x1), some (.int x2), some (.int (x3 + (i3 1))), none, none] SI46 SJ46 Q) ∧ (¬ r45 = 0 → ((SJ46 81 30) > (((x1).toInt64 * (SJ46 81 33)) * (SJ46 81 31)) → GoI E mt_235 22 [some (.ref 81), some (.int x1), some (.int x2), some (.int (x3 + (i3 1))), none, none] SI46 SJ46 Q) ∧ (¬ (SJ46 81 30) > (((x1).toInt64 * (SJ46 81 33)) * (SJ46 81 31)) → GoI E mt_235 22 [some (.ref 81), some (.int x1), some (.int (x2 ||| ((i3 1) <<< (x3 &&& 31)))), some (.int (x3 + (i3 1))), none, none] SI46 SJ46 Q)))) ∧ (¬ x3 ≤ (i3 4) → DoI E 233 [(.ref 81), (.int (i3 1)), (.int (i3 (-1)))] SI SJ (fun r47 SI48 SJ48 => (r47 = 0 → GoI E mt_235 22 [some (.ref 81), some (.int x1), some (.int x2), some (.int (x3 + (i3 1))), none, none] SI48 SJ48 Q) ∧ (¬ r47 = 0 → ((SJ48 81 30) > (((x1).toInt64 * (SJ48 81 33)) * (SJ48 81 31)) → GoI E mt_235 22 [some (.ref 81), some (.int x1), some (.int x2), some (.int (x3 + (i3 1))), none, none] SI48 SJ48 Q) ∧ (¬ (SJ48 81 30) > (((x1).toInt64 * (SJ48 81 33)) * (SJ48 81 31)) → GoI E mt_235 22 [some (.ref 81), some (.int x1), some (.int (x2 ||| ((i3 1) <<< (x3 &&& 31)))), some (.int (x3 + (i3 1))), none, none] SI48 SJ48 Q))))) ∧ (¬ (i3 4) ≤ x3 → DoI E 233 [(.ref 81), (.int (i3 1)), (.int (i3 1))] SI SJ (fun r49 SI50 SJ50 => (r49 = 0 → GoI E mt_235 22 [some (.ref 81), some (.int x1), some (.int x2), some (.int (x3 + (i3 1))), none, none] SI50 SJ50 Q) ∧ (¬ r49 = 0 → ((SJ50 81 30) > (((x1).toInt64 * (SJ50 81 33)) * (SJ50 81 31)) → GoI E mt_235 22 [some (.ref 81), some (.int x1), some (.int x2), some (.int (x3 + (i3 1))), none, none] SI50 SJ50 Q) ∧ (¬ (SJ50 81 30) > (((x1).toInt64 * (SJ50 81 33)) * (SJ50 81 31)) → GoI E mt_235 22 [some (.ref 81), some (.int x1), some (.int (x2 ||| ((i3 1) <<< (x3 &&& 31)))), some (.int (x3 + (i3 1))), none, none] SI50 SJ50 Q))))))))) : GoI E mt_235 22 [some (.ref 81), some (.int x1), some (.int x2), some (.int x3), none, none] SI SJ Q := by
  refine gj_goq gj_clT ok_235 [9, 18, 22, 94] ?_
  show ((i3 8) ≤ x3 → gj_Goes E om0 mt_235 129 [some (.ref 81), some (.int x1), some (.int x2), some (.int x3), none, none] [] SI SJ (QI Q)) ∧ (¬ (i3 8) ≤ x3 → (x3 < (i3 2) → gj_Goes E om0 mt_235 39 [some (.ref 81), some (.int x1), some (.int x2), some (.int x3), none, none] [] SI SJ (QI Q)) ∧ (¬ x3 < (i3 2) → (¬ x3 = (i3 7) → gj_Goes E om0 mt_235 43 [some (.ref 81), some (.int x1), some (.int x2), some (.int x3), none, none] [] SI SJ (QI Q)) ∧ (x3 = (i3 7) → gj_Goes E om0 mt_235 59 [some (.ref 81), some (.int x1), some (.int x2), some (.int x3), none, none] [(.int (i3 1))] SI SJ (QI Q))))
  refine ⟨fun c1 => ?_, fun c1 => ?_⟩
  · refine gj_goq gj_clT ok_235 [9, 18, 22, 94] ?_
    show QI Q (some (.int x2)) SI SJ
    exact ⟨_, rfl, (h.1 c1)⟩
  · refine ⟨fun c2 => ?_, fun c2 => ?_⟩
    · refine gj_goq gj_clT ok_235 [9, 18, 22, 94] ?_
      show gj_Goes E om0 mt_235 59 [some (.ref 81), some (.int x1), some (.int x2), some (.int x3), none, none] [(.int (i3 1))] SI SJ (QI Q)
      refine gj_goq gj_clT ok_235 [9, 18, 22, 94] ?_
      show (x3 ≤ 0 → gj_Goes E om0 mt_235 74 [some (.ref 81), some (.int x1), some (.int x2), some (.int x3), some (.int (i3 1)), none] [] SI SJ (QI Q)) ∧ (¬ x3 ≤ 0 → ((i3 4) ≤ x3 → gj_Goes E om0 mt_235 74 [some (.ref 81), some (.int x1), some (.int x2), some (.int x3), some (.int (i3 1)), none] [] SI SJ (QI Q)) ∧ (¬ (i3 4) ≤ x3 → gj_Goes E om0 mt_235 84 [some (.ref 81), some (.int x1), some (.int x2), some (.int x3), some (.int (i3 1)), none] [(.int (i3 1))] SI SJ (QI Q)))
      refine ⟨fun c3 => ?_, fun c3 => ?_⟩
      · refine gj_goq gj_clT ok_235 [9, 18, 22, 94] ?_
        show (x3 ≤ (i3 4) → gj_Goes E om0 mt_235 83 [some (.ref 81), some (.int x1), some (.int x2), some (.int x3), some (.int (i3 1)), none] [] SI SJ (QI Q)) ∧ (¬ x3 ≤ (i3 4) → gj_Goes E om0 mt_235 84 [some (.ref 81), some (.int x1), some (.int x2), some (.int x3), some (.int (i3 1)), none] [(.int (i3 (-1)))] SI SJ (QI Q))
        refine ⟨fun c4 => ?_, fun c4 => ?_⟩
        · refine gj_goq gj_clT ok_235 [9, 18, 22, 94] ?_
          show gj_Do E om0 (gj_mt 233) [(.ref 81), (.int (i3 1)), (.int (i3 0))] SI SJ _
          refine gj_Do.mono ((((h.2 c1).1 c2).1 c3).1 c4) (fun v_ SI2 SJ2 h_ => ?_)
          obtain ⟨r1, rfl, q5⟩ := h_
          show gj_Goes E om0 mt_235 94 [some (.ref 81), some (.int x1), some (.int x2), some (.int x3), some (.int (i3 1)), some (.int (i3 0))] [(.int r1)] SI2 SJ2 (QI Q)
          refine gj_goq gj_clT ok_235 [9, 18, 22, 94] ?_
          show (r1 = 0 → gj_Goes E om0 mt_235 123 [some (.ref 81), some (.int x1), some (.int x2), some (.int x3), some (.int (i3 1)), some (.int (i3 0))] [] SI2 SJ2 (QI Q)) ∧ (¬ r1 = 0 → (0 < (lg_cmp (SJ2 81 30) (((x1).toInt64 * (SJ2 81 33)) * (SJ2 81 31))) → gj_Goes E om0 mt_235 123 [some (.ref 81), some (.int x1), some (.int x2), some (.int x3), some (.int (i3 1)), some (.int (i3 0))] [] SI2 SJ2 (QI Q)) ∧ (¬ 0 < (lg_cmp (SJ2 81 30) (((x1).toInt64 * (SJ2 81 33)) * (SJ2 81 31))) → gj_Goes E om0 mt_235 22 [some (.ref 81), some (.int x1), some (.int (x2 ||| ((i3 1) <<< (x3 &&& 31)))), some (.int (x3 + (i3 1))), some (.int (i3 1)), some (.int (i3 0))] [] SI2 SJ2 (QI Q)))
          refine ⟨fun c6 => ?_, fun c6 => ?_⟩
          · refine gj_goq gj_clT ok_235 [9, 18, 22, 94] ?_
            show gj_Goes E om0 mt_235 22 [some (.ref 81), some (.int x1), some (.int x2), some (.int (x3 + (i3 1))), some (.int (i3 1)), some (.int (i3 0))] [] SI2 SJ2 (QI Q)
            exact gj_fh (q5.1 c6) (And.intro (Or.inr rfl) (And.intro (Or.inr rfl) (And.intro (Or.inr rfl) (And.intro (Or.inr rfl) (And.intro (Or.inl rfl) (And.intro (Or.inl rfl) trivial))))))
          · refine ⟨fun c7 => ?_, fun c7 => ?_⟩
            · refine gj_goq gj_clT ok_235 [9, 18, 22, 94] ?_
              show gj_Goes E om0 mt_235 22 [some (.ref 81), some (.int x1), some (.int x2), some (.int (x3 + (i3 1))), some (.int (i3 1)), some (.int (i3 0))] [] SI2 SJ2 (QI Q)
              exact gj_fh ((q5.2 c6).1 (lgc_gt.mp c7)) (And.intro (Or.inr rfl) (And.intro (Or.inr rfl) (And.intro (Or.inr rfl) (And.intro (Or.inr rfl) (And.intro (Or.inl rfl) (And.intro (Or.inl rfl) trivial))))))
            · exact gj_fh ((q5.2 c6).2 (fun z_ => c7 (lgc_gt.mpr z_))) (And.intro (Or.inr rfl) (And.intro (Or.inr rfl) (And.intro (Or.inr rfl) (And.intro (Or.inr rfl) (And.intro (Or.inl rfl) (And.intro (Or.inl rfl) trivial))))))
        · refine gj_goq gj_clT ok_235 [9, 18, 22, 94] ?_
          show gj_Do E om0 (gj_mt 233) [(.ref 81), (.int (i3 1)), (.int (i3 (-1)))] SI SJ _
          refine gj_Do.mono ((((h.2 c1).1 c2).1 c3).2 c4) (fun v_ SI4 SJ4 h_ => ?_)
          obtain ⟨r3, rfl, q8⟩ := h_
          show gj_Goes E om0 mt_235 94 [some (.ref 81), some (.int x1), some (.int x2), some (.int x3), some (.int (i3 1)), some (.int (i3 (-1)))] [(.int r3)] SI4 SJ4 (QI Q)
          refine gj_goq gj_clT ok_235 [9, 18, 22, 94] ?_
          show (r3 = 0 → gj_Goes E om0 mt_235 123 [some (.ref 81), some (.int x1), some (.int x2), some (.int x3), some (.int (i3 1)), some (.int (i3 (-1)))] [] SI4 SJ4 (QI Q)) ∧ (¬ r3 = 0 → (0 < (lg_cmp (SJ4 81 30) (((x1).toInt64 * (SJ4 81 33)) * (SJ4 81 31))) → gj_Goes E om0 mt_235 123 [some (.ref 81), some (.int x1), some (.int x2), some (.int x3), some (.int (i3 1)), some (.int (i3 (-1)))] [] SI4 SJ4 (QI Q)) ∧ (¬ 0 < (lg_cmp (SJ4 81 30) (((x1).toInt64 * (SJ4 81 33)) * (SJ4 81 31))) → gj_Goes E om0 mt_235 22 [some (.ref 81), some (.int x1), some (.int (x2 ||| ((i3 1) <<< (x3 &&& 31)))), some (.int (x3 + (i3 1))), some (.int (i3 1)), some (.int (i3 (-1)))] [] SI4 SJ4 (QI Q)))
          refine ⟨fun c9 => ?_, fun c9 => ?_⟩
          · refine gj_goq gj_clT ok_235 [9, 18, 22, 94] ?_
            show gj_Goes E om0 mt_235 22 [some (.ref 81), some (.int x1), some (.int x2), some (.int (x3 + (i3 1))), some (.int (i3 1)), some (.int (i3 (-1)))] [] SI4 SJ4 (QI Q)
            exact gj_fh (q8.1 c9) (And.intro (Or.inr rfl) (And.intro (Or.inr rfl) (And.intro (Or.inr rfl) (And.intro (Or.inr rfl) (And.intro (Or.inl rfl) (And.intro (Or.inl rfl) trivial))))))
          · refine ⟨fun c10 => ?_, fun c10 => ?_⟩
            · refine gj_goq gj_clT ok_235 [9, 18, 22, 94] ?_
              show gj_Goes E om0 mt_235 22 [some (.ref 81), some (.int x1), some (.int x2), some (.int (x3 + (i3 1))), some (.int (i3 1)), some (.int (i3 (-1)))] [] SI4 SJ4 (QI Q)
              exact gj_fh ((q8.2 c9).1 (lgc_gt.mp c10)) (And.intro (Or.inr rfl) (And.intro (Or.inr rfl) (And.intro (Or.inr rfl) (And.intro (Or.inr rfl) (And.intro (Or.inl rfl) (And.intro (Or.inl rfl) trivial))))))
            · exact gj_fh ((q8.2 c9).2 (fun z_ => c10 (lgc_gt.mpr z_))) (And.intro (Or.inr rfl) (And.intro (Or.inr rfl) (And.intro (Or.inr rfl) (And.intro (Or.inr rfl) (And.intro (Or.inl rfl) (And.intro (Or.inl rfl) trivial))))))
      · refine ⟨fun c11 => ?_, fun c11 => ?_⟩
        · refine gj_goq gj_clT ok_235 [9, 18, 22, 94] ?_
          show (x3 ≤ (i3 4) → gj_Goes E om0 mt_235 83 [some (.ref 81), some (.int x1), some (.int x2), some (.int x3), some (.int (i3 1)), none] [] SI SJ (QI Q)) ∧ (¬ x3 ≤ (i3 4) → gj_Goes E om0 mt_235 84 [some (.ref 81), some (.int x1), some (.int x2), some (.int x3), some (.int (i3 1)), none] [(.int (i3 (-1)))] SI SJ (QI Q))
          refine ⟨fun c12 => ?_, fun c12 => ?_⟩
          · refine gj_goq gj_clT ok_235 [9, 18, 22, 94] ?_
            show gj_Do E om0 (gj_mt 233) [(.ref 81), (.int (i3 1)), (.int (i3 0))] SI SJ _
            refine gj_Do.mono (((((h.2 c1).1 c2).2 c3).1 c11).1 c12) (fun v_ SI6 SJ6 h_ => ?_)
            obtain ⟨r5, rfl, q13⟩ := h_
            show gj_Goes E om0 mt_235 94 [some (.ref 81), some (.int x1), some (.int x2), some (.int x3), some (.int (i3 1)), some (.int (i3 0))] [(.int r5)] SI6 SJ6 (QI Q)
            refine gj_goq gj_clT ok_235 [9, 18, 22, 94] ?_
            show (r5 = 0 → gj_Goes E om0 mt_235 123 [some (.ref 81), some (.int x1), some (.int x2), some (.int x3), some (.int (i3 1)), some (.int (i3 0))] [] SI6 SJ6 (QI Q)) ∧ (¬ r5 = 0 → (0 < (lg_cmp (SJ6 81 30) (((x1).toInt64 * (SJ6 81 33)) * (SJ6 81 31))) → gj_Goes E om0 mt_235 123 [some (.ref 81), some (.int x1), some (.int x2), some (.int x3), some (.int (i3 1)), some (.int (i3 0))] [] SI6 SJ6 (QI Q)) ∧ (¬ 0 < (lg_cmp (SJ6 81 30) (((x1).toInt64 * (SJ6 81 33)) * (SJ6 81 31))) → gj_Goes E om0 mt_235 22 [some (.ref 81), some (.int x1), some (.int (x2 ||| ((i3 1) <<< (x3 &&& 31)))), some (.int (x3 + (i3 1))), some (.int (i3 1)), some (.int (i3 0))] [] SI6 SJ6 (QI Q)))
            refine ⟨fun c14 => ?_, fun c14 => ?_⟩
            · refine gj_goq gj_clT ok_235 [9, 18, 22, 94] ?_
              show gj_Goes E om0 mt_235 22 [some (.ref 81), some (.int x1), some (.int x2), some (.int (x3 + (i3 1))), some (.int (i3 1)), some (.int (i3 0))] [] SI6 SJ6 (QI Q)
              exact gj_fh (q13.1 c14) (And.intro (Or.inr rfl) (And.intro (Or.inr rfl) (And.intro (Or.inr rfl) (And.intro (Or.inr rfl) (And.intro (Or.inl rfl) (And.intro (Or.inl rfl) trivial))))))
            · refine ⟨fun c15 => ?_, fun c15 => ?_⟩
              · refine gj_goq gj_clT ok_235 [9, 18, 22, 94] ?_
                show gj_Goes E om0 mt_235 22 [some (.ref 81), some (.int x1), some (.int x2), some (.int (x3 + (i3 1))), some (.int (i3 1)), some (.int (i3 0))] [] SI6 SJ6 (QI Q)
                exact gj_fh ((q13.2 c14).1 (lgc_gt.mp c15)) (And.intro (Or.inr rfl) (And.intro (Or.inr rfl) (And.intro (Or.inr rfl) (And.intro (Or.inr rfl) (And.intro (Or.inl rfl) (And.intro (Or.inl rfl) trivial))))))
              · exact gj_fh ((q13.2 c14).2 (fun z_ => c15 (lgc_gt.mpr z_))) (And.intro (Or.inr rfl) (And.intro (Or.inr rfl) (And.intro (Or.inr rfl) (And.intro (Or.inr rfl) (And.intro (Or.inl rfl) (And.intro (Or.inl rfl) trivial))))))
          · refine gj_goq gj_clT ok_235 [9, 18, 22, 94] ?_
            show gj_Do E om0 (gj_mt 233) [(.ref 81), (.int (i3 1)), (.int (i3 (-1)))] SI SJ _
            refine gj_Do.mono (((((h.2 c1).1 c2).2 c3).1 c11).2 c12) (fun v_ SI8 SJ8 h_ => ?_)
            obtain ⟨r7, rfl, q16⟩ := h_
            show gj_Goes E om0 mt_235 94 [some (.ref 81), some (.int x1), some (.int x2), some (.int x3), some (.int (i3 1)), some (.int (i3 (-1)))] [(.int r7)] SI8 SJ8 (QI Q)
            refine gj_goq gj_clT ok_235 [9, 18, 22, 94] ?_
            show (r7 = 0 → gj_Goes E om0 mt_235 123 [some (.ref 81), some (.int x1), some (.int x2), some (.int x3), some (.int (i3 1)), some (.int (i3 (-1)))] [] SI8 SJ8 (QI Q)) ∧ (¬ r7 = 0 → (0 < (lg_cmp (SJ8 81 30) (((x1).toInt64 * (SJ8 81 33)) * (SJ8 81 31))) → gj_Goes E om0 mt_235 123 [some (.ref 81), some (.int x1), some (.int x2), some (.int x3), some (.int (i3 1)), some (.int (i3 (-1)))] [] SI8 SJ8 (QI Q)) ∧ (¬ 0 < (lg_cmp (SJ8 81 30) (((x1).toInt64 * (SJ8 81 33)) * (SJ8 81 31))) → gj_Goes E om0 mt_235 22 [some (.ref 81), some (.int x1), some (.int (x2 ||| ((i3 1) <<< (x3 &&& 31)))), some (.int (x3 + (i3 1))), some (.int (i3 1)), some (.int (i3 (-1)))] [] SI8 SJ8 (QI Q)))
            refine ⟨fun c17 => ?_, fun c17 => ?_⟩
            · refine gj_goq gj_clT ok_235 [9, 18, 22, 94] ?_
              show gj_Goes E om0 mt_235 22 [some (.ref 81), some (.int x1), some (.int x2), some (.int (x3 + (i3 1))), some (.int (i3 1)), some (.int (i3 (-1)))] [] SI8 SJ8 (QI Q)
              exact gj_fh (q16.1 c17) (And.intro (Or.inr rfl) (And.intro (Or.inr rfl) (And.intro (Or.inr rfl) (And.intro (Or.inr rfl) (And.intro (Or.inl rfl) (And.intro (Or.inl rfl) trivial))))))
            · refine ⟨fun c18 => ?_, fun c18 => ?_⟩
              · refine gj_goq gj_clT ok_235 [9, 18, 22, 94] ?_
                show gj_Goes E om0 mt_235 22 [some (.ref 81), some (.int x1), some (.int x2), some (.int (x3 + (i3 1))), some (.int (i3 1)), some (.int (i3 (-1)))] [] SI8 SJ8 (QI Q)
                exact gj_fh ((q16.2 c17).1 (lgc_gt.mp c18)) (And.intro (Or.inr rfl) (And.intro (Or.inr rfl) (And.intro (Or.inr rfl) (And.intro (Or.inr rfl) (And.intro (Or.inl rfl) (And.intro (Or.inl rfl) trivial))))))
              · exact gj_fh ((q16.2 c17).2 (fun z_ => c18 (lgc_gt.mpr z_))) (And.intro (Or.inr rfl) (And.intro (Or.inr rfl) (And.intro (Or.inr rfl) (And.intro (Or.inr rfl) (And.intro (Or.inl rfl) (And.intro (Or.inl rfl) trivial))))))
        · refine gj_goq gj_clT ok_235 [9, 18, 22, 94] ?_
          show gj_Do E om0 (gj_mt 233) [(.ref 81), (.int (i3 1)), (.int (i3 1))] SI SJ _
          refine gj_Do.mono ((((h.2 c1).1 c2).2 c3).2 c11) (fun v_ SI10 SJ10 h_ => ?_)
          obtain ⟨r9, rfl, q19⟩ := h_
          show gj_Goes E om0 mt_235 94 [some (.ref 81), some (.int x1), some (.int x2), some (.int x3), some (.int (i3 1)), some (.int (i3 1))] [(.int r9)] SI10 SJ10 (QI Q)
          refine gj_goq gj_clT ok_235 [9, 18, 22, 94] ?_
          show (r9 = 0 → gj_Goes E om0 mt_235 123 [some (.ref 81), some (.int x1), some (.int x2), some (.int x3), some (.int (i3 1)), some (.int (i3 1))] [] SI10 SJ10 (QI Q)) ∧ (¬ r9 = 0 → (0 < (lg_cmp (SJ10 81 30) (((x1).toInt64 * (SJ10 81 33)) * (SJ10 81 31))) → gj_Goes E om0 mt_235 123 [some (.ref 81), some (.int x1), some (.int x2), some (.int x3), some (.int (i3 1)), some (.int (i3 1))] [] SI10 SJ10 (QI Q)) ∧ (¬ 0 < (lg_cmp (SJ10 81 30) (((x1).toInt64 * (SJ10 81 33)) * (SJ10 81 31))) → gj_Goes E om0 mt_235 22 [some (.ref 81), some (.int x1), some (.int (x2 ||| ((i3 1) <<< (x3 &&& 31)))), some (.int (x3 + (i3 1))), some (.int (i3 1)), some (.int (i3 1))] [] SI10 SJ10 (QI Q)))
          refine ⟨fun c20 => ?_, fun c20 => ?_⟩
          · refine gj_goq gj_clT ok_235 [9, 18, 22, 94] ?_
            show gj_Goes E om0 mt_235 22 [some (.ref 81), some (.int x1), some (.int x2), some (.int (x3 + (i3 1))), some (.int (i3 1)), some (.int (i3 1))] [] SI10 SJ10 (QI Q)
            exact gj_fh (q19.1 c20) (And.intro (Or.inr rfl) (And.intro (Or.inr rfl) (And.intro (Or.inr rfl) (And.intro (Or.inr rfl) (And.intro (Or.inl rfl) (And.intro (Or.inl rfl) trivial))))))
          · refine ⟨fun c21 => ?_, fun c21 => ?_⟩
            · refine gj_goq gj_clT ok_235 [9, 18, 22, 94] ?_
              show gj_Goes E om0 mt_235 22 [some (.ref 81), some (.int x1), some (.int x2), some (.int (x3 + (i3 1))), some (.int (i3 1)), some (.int (i3 1))] [] SI10 SJ10 (QI Q)
              exact gj_fh ((q19.2 c20).1 (lgc_gt.mp c21)) (And.intro (Or.inr rfl) (And.intro (Or.inr rfl) (And.intro (Or.inr rfl) (And.intro (Or.inr rfl) (And.intro (Or.inl rfl) (And.intro (Or.inl rfl) trivial))))))
            · exact gj_fh ((q19.2 c20).2 (fun z_ => c21 (lgc_gt.mpr z_))) (And.intro (Or.inr rfl) (And.intro (Or.inr rfl) (And.intro (Or.inr rfl) (And.intro (Or.inr rfl) (And.intro (Or.inl rfl) (And.intro (Or.inl rfl) trivial))))))
    · refine ⟨fun c22 => ?_, fun c22 => ?_⟩
      · refine gj_goq gj_clT ok_235 [9, 18, 22, 94] ?_
        show (x3 ≤ (i3 2) → gj_Goes E om0 mt_235 58 [some (.ref 81), some (.int x1), some (.int x2), some (.int x3), none, none] [] SI SJ (QI Q)) ∧ (¬ x3 ≤ (i3 2) → ((i3 6) ≤ x3 → gj_Goes E om0 mt_235 58 [some (.ref 81), some (.int x1), some (.int x2), some (.int x3), none, none] [] SI SJ (QI Q)) ∧ (¬ (i3 6) ≤ x3 → gj_Goes E om0 mt_235 59 [some (.ref 81), some (.int x1), some (.int x2), some (.int x3), none, none] [(.int (i3 (-1)))] SI SJ (QI Q)))
        refine ⟨fun c23 => ?_, fun c23 => ?_⟩
        · refine gj_goq gj_clT ok_235 [9, 18, 22, 94] ?_
          show (x3 ≤ 0 → gj_Goes E om0 mt_235 74 [some (.ref 81), some (.int x1), some (.int x2), some (.int x3), some (.int (i3 0)), none] [] SI SJ (QI Q)) ∧ (¬ x3 ≤ 0 → ((i3 4) ≤ x3 → gj_Goes E om0 mt_235 74 [some (.ref 81), some (.int x1), some (.int x2), some (.int x3), some (.int (i3 0)), none] [] SI SJ (QI Q)) ∧ (¬ (i3 4) ≤ x3 → gj_Goes E om0 mt_235 84 [some (.ref 81), some (.int x1), some (.int x2), some (.int x3), some (.int (i3 0)), none] [(.int (i3 1))] SI SJ (QI Q)))
          refine ⟨fun c24 => ?_, fun c24 => ?_⟩
          · refine gj_goq gj_clT ok_235 [9, 18, 22, 94] ?_
            show (x3 ≤ (i3 4) → gj_Goes E om0 mt_235 83 [some (.ref 81), some (.int x1), some (.int x2), some (.int x3), some (.int (i3 0)), none] [] SI SJ (QI Q)) ∧ (¬ x3 ≤ (i3 4) → gj_Goes E om0 mt_235 84 [some (.ref 81), some (.int x1), some (.int x2), some (.int x3), some (.int (i3 0)), none] [(.int (i3 (-1)))] SI SJ (QI Q))
            refine ⟨fun c25 => ?_, fun c25 => ?_⟩
            · refine gj_goq gj_clT ok_235 [9, 18, 22, 94] ?_
              show gj_Do E om0 (gj_mt 233) [(.ref 81), (.int (i3 0)), (.int (i3 0))] SI SJ _
              refine gj_Do.mono ((((((h.2 c1).2 c2).1 c22).1 c23).1 c24).1 c25) (fun v_ SI12 SJ12 h_ => ?_)
              obtain ⟨r11, rfl, q26⟩ := h_
              show gj_Goes E om0 mt_235 94 [some (.ref 81), some (.int x1), some (.int x2), some (.int x3), some (.int (i3 0)), some (.int (i3 0))] [(.int r11)] SI12 SJ12 (QI Q)
              refine gj_goq gj_clT ok_235 [9, 18, 22, 94] ?_
              show (r11 = 0 → gj_Goes E om0 mt_235 123 [some (.ref 81), some (.int x1), some (.int x2), some (.int x3), some (.int (i3 0)), some (.int (i3 0))] [] SI12 SJ12 (QI Q)) ∧ (¬ r11 = 0 → (0 < (lg_cmp (SJ12 81 30) (((x1).toInt64 * (SJ12 81 33)) * (SJ12 81 31))) → gj_Goes E om0 mt_235 123 [some (.ref 81), some (.int x1), some (.int x2), some (.int x3), some (.int (i3 0)), some (.int (i3 0))] [] SI12 SJ12 (QI Q)) ∧ (¬ 0 < (lg_cmp (SJ12 81 30) (((x1).toInt64 * (SJ12 81 33)) * (SJ12 81 31))) → gj_Goes E om0 mt_235 22 [some (.ref 81), some (.int x1), some (.int (x2 ||| ((i3 1) <<< (x3 &&& 31)))), some (.int (x3 + (i3 1))), some (.int (i3 0)), some (.int (i3 0))] [] SI12 SJ12 (QI Q)))
              refine ⟨fun c27 => ?_, fun c27 => ?_⟩
              · refine gj_goq gj_clT ok_235 [9, 18, 22, 94] ?_
                show gj_Goes E om0 mt_235 22 [some (.ref 81), some (.int x1), some (.int x2), some (.int (x3 + (i3 1))), some (.int (i3 0)), some (.int (i3 0))] [] SI12 SJ12 (QI Q)
                exact gj_fh (q26.1 c27) (And.intro (Or.inr rfl) (And.intro (Or.inr rfl) (And.intro (Or.inr rfl) (And.intro (Or.inr rfl) (And.intro (Or.inl rfl) (And.intro (Or.inl rfl) trivial))))))
              · refine ⟨fun c28 => ?_, fun c28 => ?_⟩
                · refine gj_goq gj_clT ok_235 [9, 18, 22, 94] ?_
                  show gj_Goes E om0 mt_235 22 [some (.ref 81), some (.int x1), some (.int x2), some (.int (x3 + (i3 1))), some (.int (i3 0)), some (.int (i3 0))] [] SI12 SJ12 (QI Q)
                  exact gj_fh ((q26.2 c27).1 (lgc_gt.mp c28)) (And.intro (Or.inr rfl) (And.intro (Or.inr rfl) (And.intro (Or.inr rfl) (And.intro (Or.inr rfl) (And.intro (Or.inl rfl) (And.intro (Or.inl rfl) trivial))))))
                · exact gj_fh ((q26.2 c27).2 (fun z_ => c28 (lgc_gt.mpr z_))) (And.intro (Or.inr rfl) (And.intro (Or.inr rfl) (And.intro (Or.inr rfl) (And.intro (Or.inr rfl) (And.intro (Or.inl rfl) (And.intro (Or.inl rfl) trivial))))))
            · refine gj_goq gj_clT ok_235 [9, 18, 22, 94] ?_
              show gj_Do E om0 (gj_mt 233) [(.ref 81), (.int (i3 0)), (.int (i3 (-1)))] SI SJ _
              refine gj_Do.mono ((((((h.2 c1).2 c2).1 c22).1 c23).1 c24).2 c25) (fun v_ SI14 SJ14 h_ => ?_)
              obtain ⟨r13, rfl, q29⟩ := h_
              show gj_Goes E om0 mt_235 94 [some (.ref 81), some (.int x1), some (.int x2), some (.int x3), some (.int (i3 0)), some (.int (i3 (-1)))] [(.int r13)] SI14 SJ14 (QI Q)
              refine gj_goq gj_clT ok_235 [9, 18, 22, 94] ?_
              show (r13 = 0 → gj_Goes E om0 mt_235 123 [some (.ref 81), some (.int x1), some (.int x2), some (.int x3), some (.int (i3 0)), some (.int (i3 (-1)))] [] SI14 SJ14 (QI Q)) ∧ (¬ r13 = 0 → (0 < (lg_cmp (SJ14 81 30) (((x1).toInt64 * (SJ14 81 33)) * (SJ14 81 31))) → gj_Goes E om0 mt_235 123 [some (.ref 81), some (.int x1), some (.int x2), some (.int x3), some (.int (i3 0)), some (.int (i3 (-1)))] [] SI14 SJ14 (QI Q)) ∧ (¬ 0 < (lg_cmp (SJ14 81 30) (((x1).toInt64 * (SJ14 81 33)) * (SJ14 81 31))) → gj_Goes E om0 mt_235 22 [some (.ref 81), some (.int x1), some (.int (x2 ||| ((i3 1) <<< (x3 &&& 31)))), some (.int (x3 + (i3 1))), some (.int (i3 0)), some (.int (i3 (-1)))] [] SI14 SJ14 (QI Q)))
              refine ⟨fun c30 => ?_, fun c30 => ?_⟩
              · refine gj_goq gj_clT ok_235 [9, 18, 22, 94] ?_
                show gj_Goes E om0 mt_235 22 [some (.ref 81), some (.int x1), some (.int x2), some (.int (x3 + (i3 1))), some (.int (i3 0)), some (.int (i3 (-1)))] [] SI14 SJ14 (QI Q)
                exact gj_fh (q29.1 c30) (And.intro (Or.inr rfl) (And.intro (Or.inr rfl) (And.intro (Or.inr rfl) (And.intro (Or.inr rfl) (And.intro (Or.inl rfl) (And.intro (Or.inl rfl) trivial))))))
              · refine ⟨fun c31 => ?_, fun c31 => ?_⟩
                · refine gj_goq gj_clT ok_235 [9, 18, 22, 94] ?_
                  show gj_Goes E om0 mt_235 22 [some (.ref 81), some (.int x1), some (.int x2), some (.int (x3 + (i3 1))), some (.int (i3 0)), some (.int (i3 (-1)))] [] SI14 SJ14 (QI Q)
                  exact gj_fh ((q29.2 c30).1 (lgc_gt.mp c31)) (And.intro (Or.inr rfl) (And.intro (Or.inr rfl) (And.intro (Or.inr rfl) (And.intro (Or.inr rfl) (And.intro (Or.inl rfl) (And.intro (Or.inl rfl) trivial))))))
                · exact gj_fh ((q29.2 c30).2 (fun z_ => c31 (lgc_gt.mpr z_))) (And.intro (Or.inr rfl) (And.intro (Or.inr rfl) (And.intro (Or.inr rfl) (And.intro (Or.inr rfl) (And.intro (Or.inl rfl) (And.intro (Or.inl rfl) trivial))))))
          · refine ⟨fun c32 => ?_, fun c32 => ?_⟩
            · refine gj_goq gj_clT ok_235 [9, 18, 22, 94] ?_
              show (x3 ≤ (i3 4) → gj_Goes E om0 mt_235 83 [some (.ref 81), some (.int x1), some (.int x2), some (.int x3), some (.int (i3 0)), none] [] SI SJ (QI Q)) ∧ (¬ x3 ≤ (i3 4) → gj_Goes E om0 mt_235 84 [some (.ref 81), some (.int x1), some (.int x2), some (.int x3), some (.int (i3 0)), none] [(.int (i3 (-1)))] SI SJ (QI Q))
              refine ⟨fun c33 => ?_, fun c33 => ?_⟩
              · refine gj_goq gj_clT ok_235 [9, 18, 22, 94] ?_
                show gj_Do E om0 (gj_mt 233) [(.ref 81), (.int (i3 0)), (.int (i3 0))] SI SJ _
                refine gj_Do.mono (((((((h.2 c1).2 c2).1 c22).1 c23).2 c24).1 c32).1 c33) (fun v_ SI16 SJ16 h_ => ?_)
                obtain ⟨r15, rfl, q34⟩ := h_
                show gj_Goes E om0 mt_235 94 [some (.ref 81), some (.int x1), some (.int x2), some (.int x3), some (.int (i3 0)), some (.int (i3 0))] [(.int r15)] SI16 SJ16 (QI Q)
                refine gj_goq gj_clT ok_235 [9, 18, 22, 94] ?_
                show (r15 = 0 → gj_Goes E om0 mt_235 123 [some (.ref 81), some (.int x1), some (.int x2), some (.int x3), some (.int (i3 0)), some (.int (i3 0))] [] SI16 SJ16 (QI Q)) ∧ (¬ r15 = 0 → (0 < (lg_cmp (SJ16 81 30) (((x1).toInt64 * (SJ16 81 33)) * (SJ16 81 31))) → gj_Goes E om0 mt_235 123 [some (.ref 81), some (.int x1), some (.int x2), some (.int x3), some (.int (i3 0)), some (.int (i3 0))] [] SI16 SJ16 (QI Q)) ∧ (¬ 0 < (lg_cmp (SJ16 81 30) (((x1).toInt64 * (SJ16 81 33)) * (SJ16 81 31))) → gj_Goes E om0 mt_235 22 [some (.ref 81), some (.int x1), some (.int (x2 ||| ((i3 1) <<< (x3 &&& 31)))), some (.int (x3 + (i3 1))), some (.int (i3 0)), some (.int (i3 0))] [] SI16 SJ16 (QI Q)))
                refine ⟨fun c35 => ?_, fun c35 => ?_⟩
                · refine gj_goq gj_clT ok_235 [9, 18, 22, 94] ?_
                  show gj_Goes E om0 mt_235 22 [some (.ref 81), some (.int x1), some (.int x2), some (.int (x3 + (i3 1))), some (.int (i3 0)), some (.int (i3 0))] [] SI16 SJ16 (QI Q)
                  exact gj_fh (q34.1 c35) (And.intro (Or.inr rfl) (And.intro (Or.inr rfl) (And.intro (Or.inr rfl) (And.intro (Or.inr rfl) (And.intro (Or.inl rfl) (And.intro (Or.inl rfl) trivial))))))
                · refine ⟨fun c36 => ?_, fun c36 => ?_⟩
                  · refine gj_goq gj_clT ok_235 [9, 18, 22, 94] ?_
                    show gj_Goes E om0 mt_235 22 [some (.ref 81), some (.int x1), some (.int x2), some (.int (x3 + (i3 1))), some (.int (i3 0)), some (.int (i3 0))] [] SI16 SJ16 (QI Q)
                    exact gj_fh ((q34.2 c35).1 (lgc_gt.mp c36)) (And.intro (Or.inr rfl) (And.intro (Or.inr rfl) (And.intro (Or.inr rfl) (And.intro (Or.inr rfl) (And.intro (Or.inl rfl) (And.intro (Or.inl rfl) trivial))))))
                  · exact gj_fh ((q34.2 c35).2 (fun z_ => c36 (lgc_gt.mpr z_))) (And.intro (Or.inr rfl) (And.intro (Or.inr rfl) (And.intro (Or.inr rfl) (And.intro (Or.inr rfl) (And.intro (Or.inl rfl) (And.intro (Or.inl rfl) trivial))))))
              · refine gj_goq gj_clT ok_235 [9, 18, 22, 94] ?_
                show gj_Do E om0 (gj_mt 233) [(.ref 81), (.int (i3 0)), (.int (i3 (-1)))] SI SJ _
                refine gj_Do.mono (((((((h.2 c1).2 c2).1 c22).1 c23).2 c24).1 c32).2 c33) (fun v_ SI18 SJ18 h_ => ?_)
                obtain ⟨r17, rfl, q37⟩ := h_
                show gj_Goes E om0 mt_235 94 [some (.ref 81), some (.int x1), some (.int x2), some (.int x3), some (.int (i3 0)), some (.int (i3 (-1)))] [(.int r17)] SI18 SJ18 (QI Q)
                refine gj_goq gj_clT ok_235 [9, 18, 22, 94] ?_
                show (r17 = 0 → gj_Goes E om0 mt_235 123 [some (.ref 81), some (.int x1), some (.int x2), some (.int x3), some (.int (i3 0)), some (.int (i3 (-1)))] [] SI18 SJ18 (QI Q)) ∧ (¬ r17 = 0 → (0 < (lg_cmp (SJ18 81 30) (((x1).toInt64 * (SJ18 81 33)) * (SJ18 81 31))) → gj_Goes E om0 mt_235 123 [some (.ref 81), some (.int x1), some (.int x2), some (.int x3), some (.int (i3 0)), some (.int (i3 (-1)))] [] SI18 SJ18 (QI Q)) ∧ (¬ 0 < (lg_cmp (SJ18 81 30) (((x1).toInt64 * (SJ18 81 33)) * (SJ18 81 31))) → gj_Goes E om0 mt_235 22 [some (.ref 81), some (.int x1), some (.int (x2 ||| ((i3 1) <<< (x3 &&& 31)))), some (.int (x3 + (i3 1))), some (.int (i3 0)), some (.int (i3 (-1)))] [] SI18 SJ18 (QI Q)))
                refine ⟨fun c38 => ?_, fun c38 => ?_⟩
                · refine gj_goq gj_clT ok_235 [9, 18, 22, 94] ?_
                  show gj_Goes E om0 mt_235 22 [some (.ref 81), some (.int x1), some (.int x2), some (.int (x3 + (i3 1))), some (.int (i3 0)), some (.int (i3 (-1)))] [] SI18 SJ18 (QI Q)
                  exact gj_fh (q37.1 c38) (And.intro (Or.inr rfl) (And.intro (Or.inr rfl) (And.intro (Or.inr rfl) (And.intro (Or.inr rfl) (And.intro (Or.inl rfl) (And.intro (Or.inl rfl) trivial))))))
                · refine ⟨fun c39 => ?_, fun c39 => ?_⟩
                  · refine gj_goq gj_clT ok_235 [9, 18, 22, 94] ?_
                    show gj_Goes E om0 mt_235 22 [some (.ref 81), some (.int x1), some (.int x2), some (.int (x3 + (i3 1))), some (.int (i3 0)), some (.int (i3 (-1)))] [] SI18 SJ18 (QI Q)
                    exact gj_fh ((q37.2 c38).1 (lgc_gt.mp c39)) (And.intro (Or.inr rfl) (And.intro (Or.inr rfl) (And.intro (Or.inr rfl) (And.intro (Or.inr rfl) (And.intro (Or.inl rfl) (And.intro (Or.inl rfl) trivial))))))
                  · exact gj_fh ((q37.2 c38).2 (fun z_ => c39 (lgc_gt.mpr z_))) (And.intro (Or.inr rfl) (And.intro (Or.inr rfl) (And.intro (Or.inr rfl) (And.intro (Or.inr rfl) (And.intro (Or.inl rfl) (And.intro (Or.inl rfl) trivial))))))
            · refine gj_goq gj_clT ok_235 [9, 18, 22, 94] ?_
              show gj_Do E om0 (gj_mt 233) [(.ref 81), (.int (i3 0)), (.int (i3 1))] SI SJ _
              refine gj_Do.mono ((((((h.2 c1).2 c2).1 c22).1 c23).2 c24).2 c32) (fun v_ SI20 SJ20 h_ => ?_)
              obtain ⟨r19, rfl, q40⟩ := h_
              show gj_Goes E om0 mt_235 94 [some (.ref 81), some (.int x1), some (.int x2), some (.int x3), some (.int (i3 0)), some (.int (i3 1))] [(.int r19)] SI20 SJ20 (QI Q)
              refine gj_goq gj_clT ok_235 [9, 18, 22, 94] ?_
              show (r19 = 0 → gj_Goes E om0 mt_235 123 [some (.ref 81), some (.int x1), some (.int x2), some (.int x3), some (.int (i3 0)), some (.int (i3 1))] [] SI20 SJ20 (QI Q)) ∧ (¬ r19 = 0 → (0 < (lg_cmp (SJ20 81 30) (((x1).toInt64 * (SJ20 81 33)) * (SJ20 81 31))) → gj_Goes E om0 mt_235 123 [some (.ref 81), some (.int x1), some (.int x2), some (.int x3), some (.int (i3 0)), some (.int (i3 1))] [] SI20 SJ20 (QI Q)) ∧ (¬ 0 < (lg_cmp (SJ20 81 30) (((x1).toInt64 * (SJ20 81 33)) * (SJ20 81 31))) → gj_Goes E om0 mt_235 22 [some (.ref 81), some (.int x1), some (.int (x2 ||| ((i3 1) <<< (x3 &&& 31)))), some (.int (x3 + (i3 1))), some (.int (i3 0)), some (.int (i3 1))] [] SI20 SJ20 (QI Q)))
              refine ⟨fun c41 => ?_, fun c41 => ?_⟩
              · refine gj_goq gj_clT ok_235 [9, 18, 22, 94] ?_
                show gj_Goes E om0 mt_235 22 [some (.ref 81), some (.int x1), some (.int x2), some (.int (x3 + (i3 1))), some (.int (i3 0)), some (.int (i3 1))] [] SI20 SJ20 (QI Q)
                exact gj_fh (q40.1 c41) (And.intro (Or.inr rfl) (And.intro (Or.inr rfl) (And.intro (Or.inr rfl) (And.intro (Or.inr rfl) (And.intro (Or.inl rfl) (And.intro (Or.inl rfl) trivial))))))
              · refine ⟨fun c42 => ?_, fun c42 => ?_⟩
                · refine gj_goq gj_clT ok_235 [9, 18, 22, 94] ?_
                  show gj_Goes E om0 mt_235 22 [some (.ref 81), some (.int x1), some (.int x2), some (.int (x3 + (i3 1))), some (.int (i3 0)), some (.int (i3 1))] [] SI20 SJ20 (QI Q)
                  exact gj_fh ((q40.2 c41).1 (lgc_gt.mp c42)) (And.intro (Or.inr rfl) (And.intro (Or.inr rfl) (And.intro (Or.inr rfl) (And.intro (Or.inr rfl) (And.intro (Or.inl rfl) (And.intro (Or.inl rfl) trivial))))))
                · exact gj_fh ((q40.2 c41).2 (fun z_ => c42 (lgc_gt.mpr z_))) (And.intro (Or.inr rfl) (And.intro (Or.inr rfl) (And.intro (Or.inr rfl) (And.intro (Or.inr rfl) (And.intro (Or.inl rfl) (And.intro (Or.inl rfl) trivial))))))
        · refine ⟨fun c43 => ?_, fun c43 => ?_⟩
          · refine gj_goq gj_clT ok_235 [9, 18, 22, 94] ?_
            show (x3 ≤ 0 → gj_Goes E om0 mt_235 74 [some (.ref 81), some (.int x1), some (.int x2), some (.int x3), some (.int (i3 0)), none] [] SI SJ (QI Q)) ∧ (¬ x3 ≤ 0 → ((i3 4) ≤ x3 → gj_Goes E om0 mt_235 74 [some (.ref 81), some (.int x1), some (.int x2), some (.int x3), some (.int (i3 0)), none] [] SI SJ (QI Q)) ∧ (¬ (i3 4) ≤ x3 → gj_Goes E om0 mt_235 84 [some (.ref 81), some (.int x1), some (.int x2), some (.int x3), some (.int (i3 0)), none] [(.int (i3 1))] SI SJ (QI Q)))
            refine ⟨fun c44 => ?_, fun c44 => ?_⟩
            · refine gj_goq gj_clT ok_235 [9, 18, 22, 94] ?_
              show (x3 ≤ (i3 4) → gj_Goes E om0 mt_235 83 [some (.ref 81), some (.int x1), some (.int x2), some (.int x3), some (.int (i3 0)), none] [] SI SJ (QI Q)) ∧ (¬ x3 ≤ (i3 4) → gj_Goes E om0 mt_235 84 [some (.ref 81), some (.int x1), some (.int x2), some (.int x3), some (.int (i3 0)), none] [(.int (i3 (-1)))] SI SJ (QI Q))
              refine ⟨fun c45 => ?_, fun c45 => ?_⟩
              · refine gj_goq gj_clT ok_235 [9, 18, 22, 94] ?_
                show gj_Do E om0 (gj_mt 233) [(.ref 81), (.int (i3 0)), (.int (i3 0))] SI SJ _
                refine gj_Do.mono (((((((h.2 c1).2 c2).1 c22).2 c23).1 c43).1 c44).1 c45) (fun v_ SI22 SJ22 h_ => ?_)
                obtain ⟨r21, rfl, q46⟩ := h_
                show gj_Goes E om0 mt_235 94 [some (.ref 81), some (.int x1), some (.int x2), some (.int x3), some (.int (i3 0)), some (.int (i3 0))] [(.int r21)] SI22 SJ22 (QI Q)
                refine gj_goq gj_clT ok_235 [9, 18, 22, 94] ?_
                show (r21 = 0 → gj_Goes E om0 mt_235 123 [some (.ref 81), some (.int x1), some (.int x2), some (.int x3), some (.int (i3 0)), some (.int (i3 0))] [] SI22 SJ22 (QI Q)) ∧ (¬ r21 = 0 → (0 < (lg_cmp (SJ22 81 30) (((x1).toInt64 * (SJ22 81 33)) * (SJ22 81 31))) → gj_Goes E om0 mt_235 123 [some (.ref 81), some (.int x1), some (.int x2), some (.int x3), some (.int (i3 0)), some (.int (i3 0))] [] SI22 SJ22 (QI Q)) ∧ (¬ 0 < (lg_cmp (SJ22 81 30) (((x1).toInt64 * (SJ22 81 33)) * (SJ22 81 31))) → gj_Goes E om0 mt_235 22 [some (.ref 81), some (.int x1), some (.int (x2 ||| ((i3 1) <<< (x3 &&& 31)))), some (.int (x3 + (i3 1))), some (.int (i3 0)), some (.int (i3 0))] [] SI22 SJ22 (QI Q)))
                refine ⟨fun c47 => ?_, fun c47 => ?_⟩
                · refine gj_goq gj_clT ok_235 [9, 18, 22, 94] ?_
                  show gj_Goes E om0 mt_235 22 [some (.ref 81), some (.int x1), some (.int x2), some (.int (x3 + (i3 1))), some (.int (i3 0)), some (.int (i3 0))] [] SI22 SJ22 (QI Q)
                  exact gj_fh (q46.1 c47) (And.intro (Or.inr rfl) (And.intro (Or.inr rfl) (And.intro (Or.inr rfl) (And.intro (Or.inr rfl) (And.intro (Or.inl rfl) (And.intro (Or.inl rfl) trivial))))))
                · refine ⟨fun c48 => ?_, fun c48 => ?_⟩
                  · refine gj_goq gj_clT ok_235 [9, 18, 22, 94] ?_
                    show gj_Goes E om0 mt_235 22 [some (.ref 81), some (.int x1), some (.int x2), some (.int (x3 + (i3 1))), some (.int (i3 0)), some (.int (i3 0))] [] SI22 SJ22 (QI Q)
                    exact gj_fh ((q46.2 c47).1 (lgc_gt.mp c48)) (And.intro (Or.inr rfl) (And.intro (Or.inr rfl) (And.intro (Or.inr rfl) (And.intro (Or.inr rfl) (And.intro (Or.inl rfl) (And.intro (Or.inl rfl) trivial))))))
                  · exact gj_fh ((q46.2 c47).2 (fun z_ => c48 (lgc_gt.mpr z_))) (And.intro (Or.inr rfl) (And.intro (Or.inr rfl) (And.intro (Or.inr rfl) (And.intro (Or.inr rfl) (And.intro (Or.inl rfl) (And.intro (Or.inl rfl) trivial))))))
              · refine gj_goq gj_clT ok_235 [9, 18, 22, 94] ?_
                show gj_Do E om0 (gj_mt 233) [(.ref 81), (.int (i3 0)), (.int (i3 (-1)))] SI SJ _
                refine gj_Do.mono (((((((h.2 c1).2 c2).1 c22).2 c23).1 c43).1 c44).2 c45) (fun v_ SI24 SJ24 h_ => ?_)
                obtain ⟨r23, rfl, q49⟩ := h_
                show gj_Goes E om0 mt_235 94 [some (.ref 81), some (.int x1), some (.int x2), some (.int x3), some (.int (i3 0)), some (.int (i3 (-1)))] [(.int r23)] SI24 SJ24 (QI Q)
                refine gj_goq gj_clT ok_235 [9, 18, 22, 94] ?_
                show (r23 = 0 → gj_Goes E om0 mt_235 123 [some (.ref 81), some (.int x1), some (.int x2), some (.int x3), some (.int (i3 0)), some (.int (i3 (-1)))] [] SI24 SJ24 (QI Q)) ∧ (¬ r23 = 0 → (0 < (lg_cmp (SJ24 81 30) (((x1).toInt64 * (SJ24 81 33)) * (SJ24 81 31))) → gj_Goes E om0 mt_235 123 [some (.ref 81), some (.int x1), some (.int x2), some (.int x3), some (.int (i3 0)), some (.int (i3 (-1)))] [] SI24 SJ24 (QI Q)) ∧ (¬ 0 < (lg_cmp (SJ24 81 30) (((x1).toInt64 * (SJ24 81 33)) * (SJ24 81 31))) → gj_Goes E om0 mt_235 22 [some (.ref 81), some (.int x1), some (.int (x2 ||| ((i3 1) <<< (x3 &&& 31)))), some (.int (x3 + (i3 1))), some (.int (i3 0)), some (.int (i3 (-1)))] [] SI24 SJ24 (QI Q)))
                refine ⟨fun c50 => ?_, fun c50 => ?_⟩
                · refine gj_goq gj_clT ok_235 [9, 18, 22, 94] ?_
                  show gj_Goes E om0 mt_235 22 [some (.ref 81), some (.int x1), some (.int x2), some (.int (x3 + (i3 1))), some (.int (i3 0)), some (.int (i3 (-1)))] [] SI24 SJ24 (QI Q)
                  exact gj_fh (q49.1 c50) (And.intro (Or.inr rfl) (And.intro (Or.inr rfl) (And.intro (Or.inr rfl) (And.intro (Or.inr rfl) (And.intro (Or.inl rfl) (And.intro (Or.inl rfl) trivial))))))
                · refine ⟨fun c51 => ?_, fun c51 => ?_⟩
                  · refine gj_goq gj_clT ok_235 [9, 18, 22, 94] ?_
                    show gj_Goes E om0 mt_235 22 [some (.ref 81), some (.int x1), some (.int x2), some (.int (x3 + (i3 1))), some (.int (i3 0)), some (.int (i3 (-1)))] [] SI24 SJ24 (QI Q)
                    exact gj_fh ((q49.2 c50).1 (lgc_gt.mp c51)) (And.intro (Or.inr rfl) (And.intro (Or.inr rfl) (And.intro (Or.inr rfl) (And.intro (Or.inr rfl) (And.intro (Or.inl rfl) (And.intro (Or.inl rfl) trivial))))))
                  · exact gj_fh ((q49.2 c50).2 (fun z_ => c51 (lgc_gt.mpr z_))) (And.intro (Or.inr rfl) (And.intro (Or.inr rfl) (And.intro (Or.inr rfl) (And.intro (Or.inr rfl) (And.intro (Or.inl rfl) (And.intro (Or.inl rfl) trivial))))))
            · refine ⟨fun c52 => ?_, fun c52 => ?_⟩
              · refine gj_goq gj_clT ok_235 [9, 18, 22, 94] ?_
                show (x3 ≤ (i3 4) → gj_Goes E om0 mt_235 83 [some (.ref 81), some (.int x1), some (.int x2), some (.int x3), some (.int (i3 0)), none] [] SI SJ (QI Q)) ∧ (¬ x3 ≤ (i3 4) → gj_Goes E om0 mt_235 84 [some (.ref 81), some (.int x1), some (.int x2), some (.int x3), some (.int (i3 0)), none] [(.int (i3 (-1)))] SI SJ (QI Q))
                refine ⟨fun c53 => ?_, fun c53 => ?_⟩
                · refine gj_goq gj_clT ok_235 [9, 18, 22, 94] ?_
                  show gj_Do E om0 (gj_mt 233) [(.ref 81), (.int (i3 0)), (.int (i3 0))] SI SJ _
                  refine gj_Do.mono ((((((((h.2 c1).2 c2).1 c22).2 c23).1 c43).2 c44).1 c52).1 c53) (fun v_ SI26 SJ26 h_ => ?_)
                  obtain ⟨r25, rfl, q54⟩ := h_
                  show gj_Goes E om0 mt_235 94 [some (.ref 81), some (.int x1), some (.int x2), some (.int x3), some (.int (i3 0)), some (.int (i3 0))] [(.int r25)] SI26 SJ26 (QI Q)
                  refine gj_goq gj_clT ok_235 [9, 18, 22, 94] ?_
                  show (r25 = 0 → gj_Goes E om0 mt_235 123 [some (.ref 81), some (.int x1), some (.int x2), some (.int x3), some (.int (i3 0)), some (.int (i3 0))] [] SI26 SJ26 (QI Q)) ∧ (¬ r25 = 0 → (0 < (lg_cmp (SJ26 81 30) (((x1).toInt64 * (SJ26 81 33)) * (SJ26 81 31))) → gj_Goes E om0 mt_235 123 [some (.ref 81), some (.int x1), some (.int x2), some (.int x3), some (.int (i3 0)), some (.int (i3 0))] [] SI26 SJ26 (QI Q)) ∧ (¬ 0 < (lg_cmp (SJ26 81 30) (((x1).toInt64 * (SJ26 81 33)) * (SJ26 81 31))) → gj_Goes E om0 mt_235 22 [some (.ref 81), some (.int x1), some (.int (x2 ||| ((i3 1) <<< (x3 &&& 31)))), some (.int (x3 + (i3 1))), some (.int (i3 0)), some (.int (i3 0))] [] SI26 SJ26 (QI Q)))
                  refine ⟨fun c55 => ?_, fun c55 => ?_⟩
                  · refine gj_goq gj_clT ok_235 [9, 18, 22, 94] ?_
                    show gj_Goes E om0 mt_235 22 [some (.ref 81), some (.int x1), some (.int x2), some (.int (x3 + (i3 1))), some (.int (i3 0)), some (.int (i3 0))] [] SI26 SJ26 (QI Q)
                    exact gj_fh (q54.1 c55) (And.intro (Or.inr rfl) (And.intro (Or.inr rfl) (And.intro (Or.inr rfl) (And.intro (Or.inr rfl) (And.intro (Or.inl rfl) (And.intro (Or.inl rfl) trivial))))))
                  · refine ⟨fun c56 => ?_, fun c56 => ?_⟩
                    · refine gj_goq gj_clT ok_235 [9, 18, 22, 94] ?_
                      show gj_Goes E om0 mt_235 22 [some (.ref 81), some (.int x1), some (.int x2), some (.int (x3 + (i3 1))), some (.int (i3 0)), some (.int (i3 0))] [] SI26 SJ26 (QI Q)
                      exact gj_fh ((q54.2 c55).1 (lgc_gt.mp c56)) (And.intro (Or.inr rfl) (And.intro (Or.inr rfl) (And.intro (Or.inr rfl) (And.intro (Or.inr rfl) (And.intro (Or.inl rfl) (And.intro (Or.inl rfl) trivial))))))
                    · exact gj_fh ((q54.2 c55).2 (fun z_ => c56 (lgc_gt.mpr z_))) (And.intro (Or.inr rfl) (And.intro (Or.inr rfl) (And.intro (Or.inr rfl) (And.intro (Or.inr rfl) (And.intro (Or.inl rfl) (And.intro (Or.inl rfl) trivial))))))
                · refine gj_goq gj_clT ok_235 [9, 18, 22, 94] ?_
                  show gj_Do E om0 (gj_mt 233) [(.ref 81), (.int (i3 0)), (.int (i3 (-1)))] SI SJ _
                  refine gj_Do.mono ((((((((h.2 c1).2 c2).1 c22).2 c23).1 c43).2 c44).1 c52).2 c53) (fun v_ SI28 SJ28 h_ => ?_)
                  obtain ⟨r27, rfl, q57⟩ := h_
                  show gj_Goes E om0 mt_235 94 [some (.ref 81), some (.int x1), some (.int x2), some (.int x3), some (.int (i3 0)), some (.int (i3 (-1)))] [(.int r27)] SI28 SJ28 (QI Q)
                  refine gj_goq gj_clT ok_235 [9, 18, 22, 94] ?_
                  show (r27 = 0 → gj_Goes E om0 mt_235 123 [some (.ref 81), some (.int x1), some (.int x2), some (.int x3), some (.int (i3 0)), some (.int (i3 (-1)))] [] SI28 SJ28 (QI Q)) ∧ (¬ r27 = 0 → (0 < (lg_cmp (SJ28 81 30) (((x1).toInt64 * (SJ28 81 33)) * (SJ28 81 31))) → gj_Goes E om0 mt_235 123 [some (.ref 81), some (.int x1), some (.int x2), some (.int x3), some (.int (i3 0)), some (.int (i3 (-1)))] [] SI28 SJ28 (QI Q)) ∧ (¬ 0 < (lg_cmp (SJ28 81 30) (((x1).toInt64 * (SJ28 81 33)) * (SJ28 81 31))) → gj_Goes E om0 mt_235 22 [some (.ref 81), some (.int x1), some (.int (x2 ||| ((i3 1) <<< (x3 &&& 31)))), some (.int (x3 + (i3 1))), some (.int (i3 0)), some (.int (i3 (-1)))] [] SI28 SJ28 (QI Q)))
                  refine ⟨fun c58 => ?_, fun c58 => ?_⟩
                  · refine gj_goq gj_clT ok_235 [9, 18, 22, 94] ?_
                    show gj_Goes E om0 mt_235 22 [some (.ref 81), some (.int x1), some (.int x2), some (.int (x3 + (i3 1))), some (.int (i3 0)), some (.int (i3 (-1)))] [] SI28 SJ28 (QI Q)
                    exact gj_fh (q57.1 c58) (And.intro (Or.inr rfl) (And.intro (Or.inr rfl) (And.intro (Or.inr rfl) (And.intro (Or.inr rfl) (And.intro (Or.inl rfl) (And.intro (Or.inl rfl) trivial))))))
                  · refine ⟨fun c59 => ?_, fun c59 => ?_⟩
                    · refine gj_goq gj_clT ok_235 [9, 18, 22, 94] ?_
                      show gj_Goes E om0 mt_235 22 [some (.ref 81), some (.int x1), some (.int x2), some (.int (x3 + (i3 1))), some (.int (i3 0)), some (.int (i3 (-1)))] [] SI28 SJ28 (QI Q)
                      exact gj_fh ((q57.2 c58).1 (lgc_gt.mp c59)) (And.intro (Or.inr rfl) (And.intro (Or.inr rfl) (And.intro (Or.inr rfl) (And.intro (Or.inr rfl) (And.intro (Or.inl rfl) (And.intro (Or.inl rfl) trivial))))))
                    · exact gj_fh ((q57.2 c58).2 (fun z_ => c59 (lgc_gt.mpr z_))) (And.intro (Or.inr rfl) (And.intro (Or.inr rfl) (And.intro (Or.inr rfl) (And.intro (Or.inr rfl) (And.intro (Or.inl rfl) (And.intro (Or.inl rfl) trivial))))))
              · refine gj_goq gj_clT ok_235 [9, 18, 22, 94] ?_
                show gj_Do E om0 (gj_mt 233) [(.ref 81), (.int (i3 0)), (.int (i3 1))] SI SJ _
                refine gj_Do.mono (((((((h.2 c1).2 c2).1 c22).2 c23).1 c43).2 c44).2 c52) (fun v_ SI30 SJ30 h_ => ?_)
                obtain ⟨r29, rfl, q60⟩ := h_
                show gj_Goes E om0 mt_235 94 [some (.ref 81), some (.int x1), some (.int x2), some (.int x3), some (.int (i3 0)), some (.int (i3 1))] [(.int r29)] SI30 SJ30 (QI Q)
                refine gj_goq gj_clT ok_235 [9, 18, 22, 94] ?_
                show (r29 = 0 → gj_Goes E om0 mt_235 123 [some (.ref 81), some (.int x1), some (.int x2), some (.int x3), some (.int (i3 0)), some (.int (i3 1))] [] SI30 SJ30 (QI Q)) ∧ (¬ r29 = 0 → (0 < (lg_cmp (SJ30 81 30) (((x1).toInt64 * (SJ30 81 33)) * (SJ30 81 31))) → gj_Goes E om0 mt_235 123 [some (.ref 81), some (.int x1), some (.int x2), some (.int x3), some (.int (i3 0)), some (.int (i3 1))] [] SI30 SJ30 (QI Q)) ∧ (¬ 0 < (lg_cmp (SJ30 81 30) (((x1).toInt64 * (SJ30 81 33)) * (SJ30 81 31))) → gj_Goes E om0 mt_235 22 [some (.ref 81), some (.int x1), some (.int (x2 ||| ((i3 1) <<< (x3 &&& 31)))), some (.int (x3 + (i3 1))), some (.int (i3 0)), some (.int (i3 1))] [] SI30 SJ30 (QI Q)))
                refine ⟨fun c61 => ?_, fun c61 => ?_⟩
                · refine gj_goq gj_clT ok_235 [9, 18, 22, 94] ?_
                  show gj_Goes E om0 mt_235 22 [some (.ref 81), some (.int x1), some (.int x2), some (.int (x3 + (i3 1))), some (.int (i3 0)), some (.int (i3 1))] [] SI30 SJ30 (QI Q)
                  exact gj_fh (q60.1 c61) (And.intro (Or.inr rfl) (And.intro (Or.inr rfl) (And.intro (Or.inr rfl) (And.intro (Or.inr rfl) (And.intro (Or.inl rfl) (And.intro (Or.inl rfl) trivial))))))
                · refine ⟨fun c62 => ?_, fun c62 => ?_⟩
                  · refine gj_goq gj_clT ok_235 [9, 18, 22, 94] ?_
                    show gj_Goes E om0 mt_235 22 [some (.ref 81), some (.int x1), some (.int x2), some (.int (x3 + (i3 1))), some (.int (i3 0)), some (.int (i3 1))] [] SI30 SJ30 (QI Q)
                    exact gj_fh ((q60.2 c61).1 (lgc_gt.mp c62)) (And.intro (Or.inr rfl) (And.intro (Or.inr rfl) (And.intro (Or.inr rfl) (And.intro (Or.inr rfl) (And.intro (Or.inl rfl) (And.intro (Or.inl rfl) trivial))))))
                  · exact gj_fh ((q60.2 c61).2 (fun z_ => c62 (lgc_gt.mpr z_))) (And.intro (Or.inr rfl) (And.intro (Or.inr rfl) (And.intro (Or.inr rfl) (And.intro (Or.inr rfl) (And.intro (Or.inl rfl) (And.intro (Or.inl rfl) trivial))))))
          · refine gj_goq gj_clT ok_235 [9, 18, 22, 94] ?_
            show (x3 ≤ 0 → gj_Goes E om0 mt_235 74 [some (.ref 81), some (.int x1), some (.int x2), some (.int x3), some (.int (i3 (-1))), none] [] SI SJ (QI Q)) ∧ (¬ x3 ≤ 0 → ((i3 4) ≤ x3 → gj_Goes E om0 mt_235 74 [some (.ref 81), some (.int x1), some (.int x2), some (.int x3), some (.int (i3 (-1))), none] [] SI SJ (QI Q)) ∧ (¬ (i3 4) ≤ x3 → gj_Goes E om0 mt_235 84 [some (.ref 81), some (.int x1), some (.int x2), some (.int x3), some (.int (i3 (-1))), none] [(.int (i3 1))] SI SJ (QI Q)))
            refine ⟨fun c63 => ?_, fun c63 => ?_⟩
            · refine gj_goq gj_clT ok_235 [9, 18, 22, 94] ?_
              show (x3 ≤ (i3 4) → gj_Goes E om0 mt_235 83 [some (.ref 81), some (.int x1), some (.int x2), some (.int x3), some (.int (i3 (-1))), none] [] SI SJ (QI Q)) ∧ (¬ x3 ≤ (i3 4) → gj_Goes E om0 mt_235 84 [some (.ref 81), some (.int x1), some (.int x2), some (.int x3), some (.int (i3 (-1))), none] [(.int (i3 (-1)))] SI SJ (QI Q))
              refine ⟨fun c64 => ?_, fun c64 => ?_⟩
              · refine gj_goq gj_clT ok_235 [9, 18, 22, 94] ?_
                show gj_Do E om0 (gj_mt 233) [(.ref 81), (.int (i3 (-1))), (.int (i3 0))] SI SJ _
                refine gj_Do.mono (((((((h.2 c1).2 c2).1 c22).2 c23).2 c43).1 c63).1 c64) (fun v_ SI32 SJ32 h_ => ?_)
                obtain ⟨r31, rfl, q65⟩ := h_
                show gj_Goes E om0 mt_235 94 [some (.ref 81), some (.int x1), some (.int x2), some (.int x3), some (.int (i3 (-1))), some (.int (i3 0))] [(.int r31)] SI32 SJ32 (QI Q)
                refine gj_goq gj_clT ok_235 [9, 18, 22, 94] ?_
                show (r31 = 0 → gj_Goes E om0 mt_235 123 [some (.ref 81), some (.int x1), some (.int x2), some (.int x3), some (.int (i3 (-1))), some (.int (i3 0))] [] SI32 SJ32 (QI Q)) ∧ (¬ r31 = 0 → (0 < (lg_cmp (SJ32 81 30) (((x1).toInt64 * (SJ32 81 33)) * (SJ32 81 31))) → gj_Goes E om0 mt_235 123 [some (.ref 81), some (.int x1), some (.int x2), some (.int x3), some (.int (i3 (-1))), some (.int (i3 0))] [] SI32 SJ32 (QI Q)) ∧ (¬ 0 < (lg_cmp (SJ32 81 30) (((x1).toInt64 * (SJ32 81 33)) * (SJ32 81 31))) → gj_Goes E om0 mt_235 22 [some (.ref 81), some (.int x1), some (.int (x2 ||| ((i3 1) <<< (x3 &&& 31)))), some (.int (x3 + (i3 1))), some (.int (i3 (-1))), some (.int (i3 0))] [] SI32 SJ32 (QI Q)))
                refine ⟨fun c66 => ?_, fun c66 => ?_⟩
                · refine gj_goq gj_clT ok_235 [9, 18, 22, 94] ?_
                  show gj_Goes E om0 mt_235 22 [some (.ref 81), some (.int x1), some (.int x2), some (.int (x3 + (i3 1))), some (.int (i3 (-1))), some (.int (i3 0))] [] SI32 SJ32 (QI Q)
                  exact gj_fh (q65.1 c66) (And.intro (Or.inr rfl) (And.intro (Or.inr rfl) (And.intro (Or.inr rfl) (And.intro (Or.inr rfl) (And.intro (Or.inl rfl) (And.intro (Or.inl rfl) trivial))))))
                · refine ⟨fun c67 => ?_, fun c67 => ?_⟩
                  · refine gj_goq gj_clT ok_235 [9, 18, 22, 94] ?_
                    show gj_Goes E om0 mt_235 22 [some (.ref 81), some (.int x1), some (.int x2), some (.int (x3 + (i3 1))), some (.int (i3 (-1))), some (.int (i3 0))] [] SI32 SJ32 (QI Q)
                    exact gj_fh ((q65.2 c66).1 (lgc_gt.mp c67)) (And.intro (Or.inr rfl) (And.intro (Or.inr rfl) (And.intro (Or.inr rfl) (And.intro (Or.inr rfl) (And.intro (Or.inl rfl) (And.intro (Or.inl rfl) trivial))))))
                  · exact gj_fh ((q65.2 c66).2 (fun z_ => c67 (lgc_gt.mpr z_))) (And.intro (Or.inr rfl) (And.intro (Or.inr rfl) (And.intro (Or.inr rfl) (And.intro (Or.inr rfl) (And.intro (Or.inl rfl) (And.intro (Or.inl rfl) trivial))))))
              · refine gj_goq gj_clT ok_235 [9, 18, 22, 94] ?_
                show gj_Do E om0 (gj_mt 233) [(.ref 81), (.int (i3 (-1))), (.int (i3 (-1)))] SI SJ _
                refine gj_Do.mono (((((((h.2 c1).2 c2).1 c22).2 c23).2 c43).1 c63).2 c64) (fun v_ SI34 SJ34 h_ => ?_)
                obtain ⟨r33, rfl, q68⟩ := h_
                show gj_Goes E om0 mt_235 94 [some (.ref 81), some (.int x1), some (.int x2), some (.int x3), some (.int (i3 (-1))), some (.int (i3 (-1)))] [(.int r33)] SI34 SJ34 (QI Q)
                refine gj_goq gj_clT ok_235 [9, 18, 22, 94] ?_
                show (r33 = 0 → gj_Goes E om0 mt_235 123 [some (.ref 81), some (.int x1), some (.int x2), some (.int x3), some (.int (i3 (-1))), some (.int (i3 (-1)))] [] SI34 SJ34 (QI Q)) ∧ (¬ r33 = 0 → (0 < (lg_cmp (SJ34 81 30) (((x1).toInt64 * (SJ34 81 33)) * (SJ34 81 31))) → gj_Goes E om0 mt_235 123 [some (.ref 81), some (.int x1), some (.int x2), some (.int x3), some (.int (i3 (-1))), some (.int (i3 (-1)))] [] SI34 SJ34 (QI Q)) ∧ (¬ 0 < (lg_cmp (SJ34 81 30) (((x1).toInt64 * (SJ34 81 33)) * (SJ34 81 31))) → gj_Goes E om0 mt_235 22 [some (.ref 81), some (.int x1), some (.int (x2 ||| ((i3 1) <<< (x3 &&& 31)))), some (.int (x3 + (i3 1))), some (.int (i3 (-1))), some (.int (i3 (-1)))] [] SI34 SJ34 (QI Q)))
                refine ⟨fun c69 => ?_, fun c69 => ?_⟩
                · refine gj_goq gj_clT ok_235 [9, 18, 22, 94] ?_
                  show gj_Goes E om0 mt_235 22 [some (.ref 81), some (.int x1), some (.int x2), some (.int (x3 + (i3 1))), some (.int (i3 (-1))), some (.int (i3 (-1)))] [] SI34 SJ34 (QI Q)
                  exact gj_fh (q68.1 c69) (And.intro (Or.inr rfl) (And.intro (Or.inr rfl) (And.intro (Or.inr rfl) (And.intro (Or.inr rfl) (And.intro (Or.inl rfl) (And.intro (Or.inl rfl) trivial))))))
                · refine ⟨fun c70 => ?_, fun c70 => ?_⟩
                  · refine gj_goq gj_clT ok_235 [9, 18, 22, 94] ?_
                    show gj_Goes E om0 mt_235 22 [some (.ref 81), some (.int x1), some (.int x2), some (.int (x3 + (i3 1))), some (.int (i3 (-1))), some (.int (i3 (-1)))] [] SI34 SJ34 (QI Q)
                    exact gj_fh ((q68.2 c69).1 (lgc_gt.mp c70)) (And.intro (Or.inr rfl) (And.intro (Or.inr rfl) (And.intro (Or.inr rfl) (And.intro (Or.inr rfl) (And.intro (Or.inl rfl) (And.intro (Or.inl rfl) trivial))))))
                  · exact gj_fh ((q68.2 c69).2 (fun z_ => c70 (lgc_gt.mpr z_))) (And.intro (Or.inr rfl) (And.intro (Or.inr rfl) (And.intro (Or.inr rfl) (And.intro (Or.inr rfl) (And.intro (Or.inl rfl) (And.intro (Or.inl rfl) trivial))))))
            · refine ⟨fun c71 => ?_, fun c71 => ?_⟩
              · refine gj_goq gj_clT ok_235 [9, 18, 22, 94] ?_
                show (x3 ≤ (i3 4) → gj_Goes E om0 mt_235 83 [some (.ref 81), some (.int x1), some (.int x2), some (.int x3), some (.int (i3 (-1))), none] [] SI SJ (QI Q)) ∧ (¬ x3 ≤ (i3 4) → gj_Goes E om0 mt_235 84 [some (.ref 81), some (.int x1), some (.int x2), some (.int x3), some (.int (i3 (-1))), none] [(.int (i3 (-1)))] SI SJ (QI Q))
                refine ⟨fun c72 => ?_, fun c72 => ?_⟩
                · refine gj_goq gj_clT ok_235 [9, 18, 22, 94] ?_
                  show gj_Do E om0 (gj_mt 233) [(.ref 81), (.int (i3 (-1))), (.int (i3 0))] SI SJ _
                  refine gj_Do.mono ((((((((h.2 c1).2 c2).1 c22).2 c23).2 c43).2 c63).1 c71).1 c72) (fun v_ SI36 SJ36 h_ => ?_)
                  obtain ⟨r35, rfl, q73⟩ := h_
                  show gj_Goes E om0 mt_235 94 [some (.ref 81), some (.int x1), some (.int x2), some (.int x3), some (.int (i3 (-1))), some (.int (i3 0))] [(.int r35)] SI36 SJ36 (QI Q)
                  refine gj_goq gj_clT ok_235 [9, 18, 22, 94] ?_
                  show (r35 = 0 → gj_Goes E om0 mt_235 123 [some (.ref 81), some (.int x1), some (.int x2), some (.int x3), some (.int (i3 (-1))), some (.int (i3 0))] [] SI36 SJ36 (QI Q)) ∧ (¬ r35 = 0 → (0 < (lg_cmp (SJ36 81 30) (((x1).toInt64 * (SJ36 81 33)) * (SJ36 81 31))) → gj_Goes E om0 mt_235 123 [some (.ref 81), some (.int x1), some (.int x2), some (.int x3), some (.int (i3 (-1))), some (.int (i3 0))] [] SI36 SJ36 (QI Q)) ∧ (¬ 0 < (lg_cmp (SJ36 81 30) (((x1).toInt64 * (SJ36 81 33)) * (SJ36 81 31))) → gj_Goes E om0 mt_235 22 [some (.ref 81), some (.int x1), some (.int (x2 ||| ((i3 1) <<< (x3 &&& 31)))), some (.int (x3 + (i3 1))), some (.int (i3 (-1))), some (.int (i3 0))] [] SI36 SJ36 (QI Q)))
                  refine ⟨fun c74 => ?_, fun c74 => ?_⟩
                  · refine gj_goq gj_clT ok_235 [9, 18, 22, 94] ?_
                    show gj_Goes E om0 mt_235 22 [some (.ref 81), some (.int x1), some (.int x2), some (.int (x3 + (i3 1))), some (.int (i3 (-1))), some (.int (i3 0))] [] SI36 SJ36 (QI Q)
                    exact gj_fh (q73.1 c74) (And.intro (Or.inr rfl) (And.intro (Or.inr rfl) (And.intro (Or.inr rfl) (And.intro (Or.inr rfl) (And.intro (Or.inl rfl) (And.intro (Or.inl rfl) trivial))))))
                  · refine ⟨fun c75 => ?_, fun c75 => ?_⟩
                    · refine gj_goq gj_clT ok_235 [9, 18, 22, 94] ?_
                      show gj_Goes E om0 mt_235 22 [some (.ref 81), some (.int x1), some (.int x2), some (.int (x3 + (i3 1))), some (.int (i3 (-1))), some (.int (i3 0))] [] SI36 SJ36 (QI Q)
                      exact gj_fh ((q73.2 c74).1 (lgc_gt.mp c75)) (And.intro (Or.inr rfl) (And.intro (Or.inr rfl) (And.intro (Or.inr rfl) (And.intro (Or.inr rfl) (And.intro (Or.inl rfl) (And.intro (Or.inl rfl) trivial))))))
                    · exact gj_fh ((q73.2 c74).2 (fun z_ => c75 (lgc_gt.mpr z_))) (And.intro (Or.inr rfl) (And.intro (Or.inr rfl) (And.intro (Or.inr rfl) (And.intro (Or.inr rfl) (And.intro (Or.inl rfl) (And.intro (Or.inl rfl) trivial))))))
                · refine gj_goq gj_clT ok_235 [9, 18, 22, 94] ?_
                  show gj_Do E om0 (gj_mt 233) [(.ref 81), (.int (i3 (-1))), (.int (i3 (-1)))] SI SJ _
                  refine gj_Do.mono ((((((((h.2 c1).2 c2).1 c22).2 c23).2 c43).2 c63).1 c71).2 c72) (fun v_ SI38 SJ38 h_ => ?_)
                  obtain ⟨r37, rfl, q76⟩ := h_
                  show gj_Goes E om0 mt_235 94 [some (.ref 81), some (.int x1), some (.int x2), some (.int x3), some (.int (i3 (-1))), some (.int (i3 (-1)))] [(.int r37)] SI38 SJ38 (QI Q)
                  refine gj_goq gj_clT ok_235 [9, 18, 22, 94] ?_
                  show (r37 = 0 → gj_Goes E om0 mt_235 123 [some (.ref 81), some (.int x1), some (.int x2), some (.int x3), some (.int (i3 (-1))), some (.int (i3 (-1)))] [] SI38 SJ38 (QI Q)) ∧ (¬ r37 = 0 → (0 < (lg_cmp (SJ38 81 30) (((x1).toInt64 * (SJ38 81 33)) * (SJ38 81 31))) → gj_Goes E om0 mt_235 123 [some (.ref 81), some (.int x1), some (.int x2), some (.int x3), some (.int (i3 (-1))), some (.int (i3 (-1)))] [] SI38 SJ38 (QI Q)) ∧ (¬ 0 < (lg_cmp (SJ38 81 30) (((x1).toInt64 * (SJ38 81 33)) * (SJ38 81 31))) → gj_Goes E om0 mt_235 22 [some (.ref 81), some (.int x1), some (.int (x2 ||| ((i3 1) <<< (x3 &&& 31)))), some (.int (x3 + (i3 1))), some (.int (i3 (-1))), some (.int (i3 (-1)))] [] SI38 SJ38 (QI Q)))
                  refine ⟨fun c77 => ?_, fun c77 => ?_⟩
                  · refine gj_goq gj_clT ok_235 [9, 18, 22, 94] ?_
                    show gj_Goes E om0 mt_235 22 [some (.ref 81), some (.int x1), some (.int x2), some (.int (x3 + (i3 1))), some (.int (i3 (-1))), some (.int (i3 (-1)))] [] SI38 SJ38 (QI Q)
                    exact gj_fh (q76.1 c77) (And.intro (Or.inr rfl) (And.intro (Or.inr rfl) (And.intro (Or.inr rfl) (And.intro (Or.inr rfl) (And.intro (Or.inl rfl) (And.intro (Or.inl rfl) trivial))))))
                  · refine ⟨fun c78 => ?_, fun c78 => ?_⟩
                    · refine gj_goq gj_clT ok_235 [9, 18, 22, 94] ?_
                      show gj_Goes E om0 mt_235 22 [some (.ref 81), some (.int x1), some (.int x2), some (.int (x3 + (i3 1))), some (.int (i3 (-1))), some (.int (i3 (-1)))] [] SI38 SJ38 (QI Q)
                      exact gj_fh ((q76.2 c77).1 (lgc_gt.mp c78)) (And.intro (Or.inr rfl) (And.intro (Or.inr rfl) (And.intro (Or.inr rfl) (And.intro (Or.inr rfl) (And.intro (Or.inl rfl) (And.intro (Or.inl rfl) trivial))))))
                    · exact gj_fh ((q76.2 c77).2 (fun z_ => c78 (lgc_gt.mpr z_))) (And.intro (Or.inr rfl) (And.intro (Or.inr rfl) (And.intro (Or.inr rfl) (And.intro (Or.inr rfl) (And.intro (Or.inl rfl) (And.intro (Or.inl rfl) trivial))))))
              · refine gj_goq gj_clT ok_235 [9, 18, 22, 94] ?_
                show gj_Do E om0 (gj_mt 233) [(.ref 81), (.int (i3 (-1))), (.int (i3 1))] SI SJ _
                refine gj_Do.mono (((((((h.2 c1).2 c2).1 c22).2 c23).2 c43).2 c63).2 c71) (fun v_ SI40 SJ40 h_ => ?_)
                obtain ⟨r39, rfl, q79⟩ := h_
                show gj_Goes E om0 mt_235 94 [some (.ref 81), some (.int x1), some (.int x2), some (.int x3), some (.int (i3 (-1))), some (.int (i3 1))] [(.int r39)] SI40 SJ40 (QI Q)
                refine gj_goq gj_clT ok_235 [9, 18, 22, 94] ?_
                show (r39 = 0 → gj_Goes E om0 mt_235 123 [some (.ref 81), some (.int x1), some (.int x2), some (.int x3), some (.int (i3 (-1))), some (.int (i3 1))] [] SI40 SJ40 (QI Q)) ∧ (¬ r39 = 0 → (0 < (lg_cmp (SJ40 81 30) (((x1).toInt64 * (SJ40 81 33)) * (SJ40 81 31))) → gj_Goes E om0 mt_235 123 [some (.ref 81), some (.int x1), some (.int x2), some (.int x3), some (.int (i3 (-1))), some (.int (i3 1))] [] SI40 SJ40 (QI Q)) ∧ (¬ 0 < (lg_cmp (SJ40 81 30) (((x1).toInt64 * (SJ40 81 33)) * (SJ40 81 31))) → gj_Goes E om0 mt_235 22 [some (.ref 81), some (.int x1), some (.int (x2 ||| ((i3 1) <<< (x3 &&& 31)))), some (.int (x3 + (i3 1))), some (.int (i3 (-1))), some (.int (i3 1))] [] SI40 SJ40 (QI Q)))
                refine ⟨fun c80 => ?_, fun c80 => ?_⟩
                · refine gj_goq gj_clT ok_235 [9, 18, 22, 94] ?_
                  show gj_Goes E om0 mt_235 22 [some (.ref 81), some (.int x1), some (.int x2), some (.int (x3 + (i3 1))), some (.int (i3 (-1))), some (.int (i3 1))] [] SI40 SJ40 (QI Q)
                  exact gj_fh (q79.1 c80) (And.intro (Or.inr rfl) (And.intro (Or.inr rfl) (And.intro (Or.inr rfl) (And.intro (Or.inr rfl) (And.intro (Or.inl rfl) (And.intro (Or.inl rfl) trivial))))))
                · refine ⟨fun c81 => ?_, fun c81 => ?_⟩
                  · refine gj_goq gj_clT ok_235 [9, 18, 22, 94] ?_
                    show gj_Goes E om0 mt_235 22 [some (.ref 81), some (.int x1), some (.int x2), some (.int (x3 + (i3 1))), some (.int (i3 (-1))), some (.int (i3 1))] [] SI40 SJ40 (QI Q)
                    exact gj_fh ((q79.2 c80).1 (lgc_gt.mp c81)) (And.intro (Or.inr rfl) (And.intro (Or.inr rfl) (And.intro (Or.inr rfl) (And.intro (Or.inr rfl) (And.intro (Or.inl rfl) (And.intro (Or.inl rfl) trivial))))))
                  · exact gj_fh ((q79.2 c80).2 (fun z_ => c81 (lgc_gt.mpr z_))) (And.intro (Or.inr rfl) (And.intro (Or.inr rfl) (And.intro (Or.inr rfl) (And.intro (Or.inr rfl) (And.intro (Or.inl rfl) (And.intro (Or.inl rfl) trivial))))))
      · refine gj_goq gj_clT ok_235 [9, 18, 22, 94] ?_
        show (x3 ≤ 0 → gj_Goes E om0 mt_235 74 [some (.ref 81), some (.int x1), some (.int x2), some (.int x3), some (.int (i3 1)), none] [] SI SJ (QI Q)) ∧ (¬ x3 ≤ 0 → ((i3 4) ≤ x3 → gj_Goes E om0 mt_235 74 [some (.ref 81), some (.int x1), some (.int x2), some (.int x3), some (.int (i3 1)), none] [] SI SJ (QI Q)) ∧ (¬ (i3 4) ≤ x3 → gj_Goes E om0 mt_235 84 [some (.ref 81), some (.int x1), some (.int x2), some (.int x3), some (.int (i3 1)), none] [(.int (i3 1))] SI SJ (QI Q)))
        refine ⟨fun c82 => ?_, fun c82 => ?_⟩
        · refine gj_goq gj_clT ok_235 [9, 18, 22, 94] ?_
          show (x3 ≤ (i3 4) → gj_Goes E om0 mt_235 83 [some (.ref 81), some (.int x1), some (.int x2), some (.int x3), some (.int (i3 1)), none] [] SI SJ (QI Q)) ∧ (¬ x3 ≤ (i3 4) → gj_Goes E om0 mt_235 84 [some (.ref 81), some (.int x1), some (.int x2), some (.int x3), some (.int (i3 1)), none] [(.int (i3 (-1)))] SI SJ (QI Q))
          refine ⟨fun c83 => ?_, fun c83 => ?_⟩
          · refine gj_goq gj_clT ok_235 [9, 18, 22, 94] ?_
            show gj_Do E om0 (gj_mt 233) [(.ref 81), (.int (i3 1)), (.int (i3 0))] SI SJ _
            refine gj_Do.mono (((((h.2 c1).2 c2).2 c22).1 c82).1 c83) (fun v_ SI42 SJ42 h_ => ?_)
            obtain ⟨r41, rfl, q84⟩ := h_
            show gj_Goes E om0 mt_235 94 [some (.ref 81), some (.int x1), some (.int x2), some (.int x3), some (.int (i3 1)), some (.int (i3 0))] [(.int r41)] SI42 SJ42 (QI Q)
            refine gj_goq gj_clT ok_235 [9, 18, 22, 94] ?_
            show (r41 = 0 → gj_Goes E om0 mt_235 123 [some (.ref 81), some (.int x1), some (.int x2), some (.int x3), some (.int (i3 1)), some (.int (i3 0))] [] SI42 SJ42 (QI Q)) ∧ (¬ r41 = 0 → (0 < (lg_cmp (SJ42 81 30) (((x1).toInt64 * (SJ42 81 33)) * (SJ42 81 31))) → gj_Goes E om0 mt_235 123 [some (.ref 81), some (.int x1), some (.int x2), some (.int x3), some (.int (i3 1)), some (.int (i3 0))] [] SI42 SJ42 (QI Q)) ∧ (¬ 0 < (lg_cmp (SJ42 81 30) (((x1).toInt64 * (SJ42 81 33)) * (SJ42 81 31))) → gj_Goes E om0 mt_235 22 [some (.ref 81), some (.int x1), some (.int (x2 ||| ((i3 1) <<< (x3 &&& 31)))), some (.int (x3 + (i3 1))), some (.int (i3 1)), some (.int (i3 0))] [] SI42 SJ42 (QI Q)))
            refine ⟨fun c85 => ?_, fun c85 => ?_⟩
            · refine gj_goq gj_clT ok_235 [9, 18, 22, 94] ?_
              show gj_Goes E om0 mt_235 22 [some (.ref 81), some (.int x1), some (.int x2), some (.int (x3 + (i3 1))), some (.int (i3 1)), some (.int (i3 0))] [] SI42 SJ42 (QI Q)
              exact gj_fh (q84.1 c85) (And.intro (Or.inr rfl) (And.intro (Or.inr rfl) (And.intro (Or.inr rfl) (And.intro (Or.inr rfl) (And.intro (Or.inl rfl) (And.intro (Or.inl rfl) trivial))))))
            · refine ⟨fun c86 => ?_, fun c86 => ?_⟩
              · refine gj_goq gj_clT ok_235 [9, 18, 22, 94] ?_
                show gj_Goes E om0 mt_235 22 [some (.ref 81), some (.int x1), some (.int x2), some (.int (x3 + (i3 1))), some (.int (i3 1)), some (.int (i3 0))] [] SI42 SJ42 (QI Q)
                exact gj_fh ((q84.2 c85).1 (lgc_gt.mp c86)) (And.intro (Or.inr rfl) (And.intro (Or.inr rfl) (And.intro (Or.inr rfl) (And.intro (Or.inr rfl) (And.intro (Or.inl rfl) (And.intro (Or.inl rfl) trivial))))))
              · exact gj_fh ((q84.2 c85).2 (fun z_ => c86 (lgc_gt.mpr z_))) (And.intro (Or.inr rfl) (And.intro (Or.inr rfl) (And.intro (Or.inr rfl) (And.intro (Or.inr rfl) (And.intro (Or.inl rfl) (And.intro (Or.inl rfl) trivial))))))
          · refine gj_goq gj_clT ok_235 [9, 18, 22, 94] ?_
            show gj_Do E om0 (gj_mt 233) [(.ref 81), (.int (i3 1)), (.int (i3 (-1)))] SI SJ _
            refine gj_Do.mono (((((h.2 c1).2 c2).2 c22).1 c82).2 c83) (fun v_ SI44 SJ44 h_ => ?_)
            obtain ⟨r43, rfl, q87⟩ := h_
            show gj_Goes E om0 mt_235 94 [some (.ref 81), some (.int x1), some (.int x2), some (.int x3), some (.int (i3 1)), some (.int (i3 (-1)))] [(.int r43)] SI44 SJ44 (QI Q)
            refine gj_goq gj_clT ok_235 [9, 18, 22, 94] ?_
            show (r43 = 0 → gj_Goes E om0 mt_235 123 [some (.ref 81), some (.int x1), some (.int x2), some (.int x3), some (.int (i3 1)), some (.int (i3 (-1)))] [] SI44 SJ44 (QI Q)) ∧ (¬ r43 = 0 → (0 < (lg_cmp (SJ44 81 30) (((x1).toInt64 * (SJ44 81 33)) * (SJ44 81 31))) → gj_Goes E om0 mt_235 123 [some (.ref 81), some (.int x1), some (.int x2), some (.int x3), some (.int (i3 1)), some (.int (i3 (-1)))] [] SI44 SJ44 (QI Q)) ∧ (¬ 0 < (lg_cmp (SJ44 81 30) (((x1).toInt64 * (SJ44 81 33)) * (SJ44 81 31))) → gj_Goes E om0 mt_235 22 [some (.ref 81), some (.int x1), some (.int (x2 ||| ((i3 1) <<< (x3 &&& 31)))), some (.int (x3 + (i3 1))), some (.int (i3 1)), some (.int (i3 (-1)))] [] SI44 SJ44 (QI Q)))
            refine ⟨fun c88 => ?_, fun c88 => ?_⟩
            · refine gj_goq gj_clT ok_235 [9, 18, 22, 94] ?_
              show gj_Goes E om0 mt_235 22 [some (.ref 81), some (.int x1), some (.int x2), some (.int (x3 + (i3 1))), some (.int (i3 1)), some (.int (i3 (-1)))] [] SI44 SJ44 (QI Q)
              exact gj_fh (q87.1 c88) (And.intro (Or.inr rfl) (And.intro (Or.inr rfl) (And.intro (Or.inr rfl) (And.intro (Or.inr rfl) (And.intro (Or.inl rfl) (And.intro (Or.inl rfl) trivial))))))
            · refine ⟨fun c89 => ?_, fun c89 => ?_⟩
              · refine gj_goq gj_clT ok_235 [9, 18, 22, 94] ?_
                show gj_Goes E om0 mt_235 22 [some (.ref 81), some (.int x1), some (.int x2), some (.int (x3 + (i3 1))), some (.int (i3 1)), some (.int (i3 (-1)))] [] SI44 SJ44 (QI Q)
                exact gj_fh ((q87.2 c88).1 (lgc_gt.mp c89)) (And.intro (Or.inr rfl) (And.intro (Or.inr rfl) (And.intro (Or.inr rfl) (And.intro (Or.inr rfl) (And.intro (Or.inl rfl) (And.intro (Or.inl rfl) trivial))))))
              · exact gj_fh ((q87.2 c88).2 (fun z_ => c89 (lgc_gt.mpr z_))) (And.intro (Or.inr rfl) (And.intro (Or.inr rfl) (And.intro (Or.inr rfl) (And.intro (Or.inr rfl) (And.intro (Or.inl rfl) (And.intro (Or.inl rfl) trivial))))))
        · refine ⟨fun c90 => ?_, fun c90 => ?_⟩
          · refine gj_goq gj_clT ok_235 [9, 18, 22, 94] ?_
            show (x3 ≤ (i3 4) → gj_Goes E om0 mt_235 83 [some (.ref 81), some (.int x1), some (.int x2), some (.int x3), some (.int (i3 1)), none] [] SI SJ (QI Q)) ∧ (¬ x3 ≤ (i3 4) → gj_Goes E om0 mt_235 84 [some (.ref 81), some (.int x1), some (.int x2), some (.int x3), some (.int (i3 1)), none] [(.int (i3 (-1)))] SI SJ (QI Q))
            refine ⟨fun c91 => ?_, fun c91 => ?_⟩
            · refine gj_goq gj_clT ok_235 [9, 18, 22, 94] ?_
              show gj_Do E om0 (gj_mt 233) [(.ref 81), (.int (i3 1)), (.int (i3 0))] SI SJ _
              refine gj_Do.mono ((((((h.2 c1).2 c2).2 c22).2 c82).1 c90).1 c91) (fun v_ SI46 SJ46 h_ => ?_)
              obtain ⟨r45, rfl, q92⟩ := h_
              show gj_Goes E om0 mt_235 94 [some (.ref 81), some (.int x1), some (.int x2), some (.int x3), some (.int (i3 1)), some (.int (i3 0))] [(.int r45)] SI46 SJ46 (QI Q)
              refine gj_goq gj_clT ok_235 [9, 18, 22, 94] ?_
              show (r45 = 0 → gj_Goes E om0 mt_235 123 [some (.ref 81), some (.int x1), some (.int x2), some (.int x3), some (.int (i3 1)), some (.int (i3 0))] [] SI46 SJ46 (QI Q)) ∧ (¬ r45 = 0 → (0 < (lg_cmp (SJ46 81 30) (((x1).toInt64 * (SJ46 81 33)) * (SJ46 81 31))) → gj_Goes E om0 mt_235 123 [some (.ref 81), some (.int x1), some (.int x2), some (.int x3), some (.int (i3 1)), some (.int (i3 0))] [] SI46 SJ46 (QI Q)) ∧ (¬ 0 < (lg_cmp (SJ46 81 30) (((x1).toInt64 * (SJ46 81 33)) * (SJ46 81 31))) → gj_Goes E om0 mt_235 22 [some (.ref 81), some (.int x1), some (.int (x2 ||| ((i3 1) <<< (x3 &&& 31)))), some (.int (x3 + (i3 1))), some (.int (i3 1)), some (.int (i3 0))] [] SI46 SJ46 (QI Q)))
              refine ⟨fun c93 => ?_, fun c93 => ?_⟩
              · refine gj_goq gj_clT ok_235 [9, 18, 22, 94] ?_
                show gj_Goes E om0 mt_235 22 [some (.ref 81), some (.int x1), some (.int x2), some (.int (x3 + (i3 1))), some (.int (i3 1)), some (.int (i3 0))] [] SI46 SJ46 (QI Q)
                exact gj_fh (q92.1 c93) (And.intro (Or.inr rfl) (And.intro (Or.inr rfl) (And.intro (Or.inr rfl) (And.intro (Or.inr rfl) (And.intro (Or.inl rfl) (And.intro (Or.inl rfl) trivial))))))
              · refine ⟨fun c94 => ?_, fun c94 => ?_⟩
                · refine gj_goq gj_clT ok_235 [9, 18, 22, 94] ?_
                  show gj_Goes E om0 mt_235 22 [some (.ref 81), some (.int x1), some (.int x2), some (.int (x3 + (i3 1))), some (.int (i3 1)), some (.int (i3 0))] [] SI46 SJ46 (QI Q)
                  exact gj_fh ((q92.2 c93).1 (lgc_gt.mp c94)) (And.intro (Or.inr rfl) (And.intro (Or.inr rfl) (And.intro (Or.inr rfl) (And.intro (Or.inr rfl) (And.intro (Or.inl rfl) (And.intro (Or.inl rfl) trivial))))))
                · exact gj_fh ((q92.2 c93).2 (fun z_ => c94 (lgc_gt.mpr z_))) (And.intro (Or.inr rfl) (And.intro (Or.inr rfl) (And.intro (Or.inr rfl) (And.intro (Or.inr rfl) (And.intro (Or.inl rfl) (And.intro (Or.inl rfl) trivial))))))
            · refine gj_goq gj_clT ok_235 [9, 18, 22, 94] ?_
              show gj_Do E om0 (gj_mt 233) [(.ref 81), (.int (i3 1)), (.int (i3 (-1)))] SI SJ _
              refine gj_Do.mono ((((((h.2 c1).2 c2).2 c22).2 c82).1 c90).2 c91) (fun v_ SI48 SJ48 h_ => ?_)
              obtain ⟨r47, rfl, q95⟩ := h_
              show gj_Goes E om0 mt_235 94 [some (.ref 81), some (.int x1), some (.int x2), some (.int x3), some (.int (i3 1)), some (.int (i3 (-1)))] [(.int r47)] SI48 SJ48 (QI Q)
              refine gj_goq gj_clT ok_235 [9, 18, 22, 94] ?_
              show (r47 = 0 → gj_Goes E om0 mt_235 123 [some (.ref 81), some (.int x1), some (.int x2), some (.int x3), some (.int (i3 1)), some (.int (i3 (-1)))] [] SI48 SJ48 (QI Q)) ∧ (¬ r47 = 0 → (0 < (lg_cmp (SJ48 81 30) (((x1).toInt64 * (SJ48 81 33)) * (SJ48 81 31))) → gj_Goes E om0 mt_235 123 [some (.ref 81), some (.int x1), some (.int x2), some (.int x3), some (.int (i3 1)), some (.int (i3 (-1)))] [] SI48 SJ48 (QI Q)) ∧ (¬ 0 < (lg_cmp (SJ48 81 30) (((x1).toInt64 * (SJ48 81 33)) * (SJ48 81 31))) → gj_Goes E om0 mt_235 22 [some (.ref 81), some (.int x1), some (.int (x2 ||| ((i3 1) <<< (x3 &&& 31)))), some (.int (x3 + (i3 1))), some (.int (i3 1)), some (.int (i3 (-1)))] [] SI48 SJ48 (QI Q)))
              refine ⟨fun c96 => ?_, fun c96 => ?_⟩
              · refine gj_goq gj_clT ok_235 [9, 18, 22, 94] ?_
                show gj_Goes E om0 mt_235 22 [some (.ref 81), some (.int x1), some (.int x2), some (.int (x3 + (i3 1))), some (.int (i3 1)), some (.int (i3 (-1)))] [] SI48 SJ48 (QI Q)
                exact gj_fh (q95.1 c96) (And.intro (Or.inr rfl) (And.intro (Or.inr rfl) (And.intro (Or.inr rfl) (And.intro (Or.inr rfl) (And.intro (Or.inl rfl) (And.intro (Or.inl rfl) trivial))))))
              · refine ⟨fun c97 => ?_, fun c97 => ?_⟩
                · refine gj_goq gj_clT ok_235 [9, 18, 22, 94] ?_
                  show gj_Goes E om0 mt_235 22 [some (.ref 81), some (.int x1), some (.int x2), some (.int (x3 + (i3 1))), some (.int (i3 1)), some (.int (i3 (-1)))] [] SI48 SJ48 (QI Q)
                  exact gj_fh ((q95.2 c96).1 (lgc_gt.mp c97)) (And.intro (Or.inr rfl) (And.intro (Or.inr rfl) (And.intro (Or.inr rfl) (And.intro (Or.inr rfl) (And.intro (Or.inl rfl) (And.intro (Or.inl rfl) trivial))))))
                · exact gj_fh ((q95.2 c96).2 (fun z_ => c97 (lgc_gt.mpr z_))) (And.intro (Or.inr rfl) (And.intro (Or.inr rfl) (And.intro (Or.inr rfl) (And.intro (Or.inr rfl) (And.intro (Or.inl rfl) (And.intro (Or.inl rfl) trivial))))))
          · refine gj_goq gj_clT ok_235 [9, 18, 22, 94] ?_
            show gj_Do E om0 (gj_mt 233) [(.ref 81), (.int (i3 1)), (.int (i3 1))] SI SJ _
            refine gj_Do.mono (((((h.2 c1).2 c2).2 c22).2 c82).2 c90) (fun v_ SI50 SJ50 h_ => ?_)
            obtain ⟨r49, rfl, q98⟩ := h_
            show gj_Goes E om0 mt_235 94 [some (.ref 81), some (.int x1), some (.int x2), some (.int x3), some (.int (i3 1)), some (.int (i3 1))] [(.int r49)] SI50 SJ50 (QI Q)
            refine gj_goq gj_clT ok_235 [9, 18, 22, 94] ?_
            show (r49 = 0 → gj_Goes E om0 mt_235 123 [some (.ref 81), some (.int x1), some (.int x2), some (.int x3), some (.int (i3 1)), some (.int (i3 1))] [] SI50 SJ50 (QI Q)) ∧ (¬ r49 = 0 → (0 < (lg_cmp (SJ50 81 30) (((x1).toInt64 * (SJ50 81 33)) * (SJ50 81 31))) → gj_Goes E om0 mt_235 123 [some (.ref 81), some (.int x1), some (.int x2), some (.int x3), some (.int (i3 1)), some (.int (i3 1))] [] SI50 SJ50 (QI Q)) ∧ (¬ 0 < (lg_cmp (SJ50 81 30) (((x1).toInt64 * (SJ50 81 33)) * (SJ50 81 31))) → gj_Goes E om0 mt_235 22 [some (.ref 81), some (.int x1), some (.int (x2 ||| ((i3 1) <<< (x3 &&& 31)))), some (.int (x3 + (i3 1))), some (.int (i3 1)), some (.int (i3 1))] [] SI50 SJ50 (QI Q)))
            refine ⟨fun c99 => ?_, fun c99 => ?_⟩
            · refine gj_goq gj_clT ok_235 [9, 18, 22, 94] ?_
              show gj_Goes E om0 mt_235 22 [some (.ref 81), some (.int x1), some (.int x2), some (.int (x3 + (i3 1))), some (.int (i3 1)), some (.int (i3 1))] [] SI50 SJ50 (QI Q)
              exact gj_fh (q98.1 c99) (And.intro (Or.inr rfl) (And.intro (Or.inr rfl) (And.intro (Or.inr rfl) (And.intro (Or.inr rfl) (And.intro (Or.inl rfl) (And.intro (Or.inl rfl) trivial))))))
            · refine ⟨fun c100 => ?_, fun c100 => ?_⟩
              · refine gj_goq gj_clT ok_235 [9, 18, 22, 94] ?_
                show gj_Goes E om0 mt_235 22 [some (.ref 81), some (.int x1), some (.int x2), some (.int (x3 + (i3 1))), some (.int (i3 1)), some (.int (i3 1))] [] SI50 SJ50 (QI Q)
                exact gj_fh ((q98.2 c99).1 (lgc_gt.mp c100)) (And.intro (Or.inr rfl) (And.intro (Or.inr rfl) (And.intro (Or.inr rfl) (And.intro (Or.inr rfl) (And.intro (Or.inl rfl) (And.intro (Or.inl rfl) trivial))))))
              · exact gj_fh ((q98.2 c99).2 (fun z_ => c100 (lgc_gt.mpr z_))) (And.intro (Or.inr rfl) (And.intro (Or.inr rfl) (And.intro (Or.inr rfl) (And.intro (Or.inr rfl) (And.intro (Or.inl rfl) (And.intro (Or.inl rfl) trivial))))))
set_option maxRecDepth 20000 in
/-- GraspJudgeModel.drawn -/
theorem st_236 {E : gj_E} {Q : Int32 → gj_I → gj_J → Prop} (a1 : Int32) (SI : gj_I) (SJ : gj_J) (h : ¬ a1 = 0 ∧ (Q (((((i3 25173) * (SI 82 34)) + (i3 13849)) - (((i3 25173) * (SI 82 34)) + (i3 13849)) / (i3 65536) * (i3 65536)) - ((((i3 25173) * (SI 82 34)) + (i3 13849)) - (((i3 25173) * (SI 82 34)) + (i3 13849)) / (i3 65536) * (i3 65536)) / a1 * a1) (gj_u2 SI 82 34 ((((i3 25173) * (SI 82 34)) + (i3 13849)) - (((i3 25173) * (SI 82 34)) + (i3 13849)) / (i3 65536) * (i3 65536))) SJ)) : DoI E 236 [(.ref 81), (.int a1)] SI SJ Q := by
  refine gj_start (M := mt_236) ok_236 (Nat.le_of_ble_eq_true rfl) ?_
  refine gj_goq gj_clT ok_236 [] ?_
  show vp_in (i3 34) 135 ∧ (¬ (i3 65536) = 0 ∧ (vp_in (i3 34) 135 ∧ (vp_in (i3 34) 135 ∧ (¬ a1 = 0 ∧ (QI Q (some (.int (((((i3 25173) * (SI 82 34)) + (i3 13849)) - (((i3 25173) * (SI 82 34)) + (i3 13849)) / (i3 65536) * (i3 65536)) - ((((i3 25173) * (SI 82 34)) + (i3 13849)) - (((i3 25173) * (SI 82 34)) + (i3 13849)) / (i3 65536) * (i3 65536)) / a1 * a1))) (gj_u2 SI 82 34 ((((i3 25173) * (SI 82 34)) + (i3 13849)) - (((i3 25173) * (SI 82 34)) + (i3 13849)) / (i3 65536) * (i3 65536))) SJ)))))
  refine ⟨(gj_vin (by decide)), ?_⟩
  refine ⟨(by decide), ?_⟩
  refine ⟨(gj_vin (by decide)), ?_⟩
  refine ⟨(gj_vin (by decide)), ?_⟩
  have k1 := h.1
  refine ⟨k1, ?_⟩
  exact ⟨_, rfl, h.2⟩
