/-! 27.vcD4: what the machine asks of each method, from its entry (st_) and from each loop head (lp_): printed by a program, checked by the kernel -/
set_option maxRecDepth 20000 in
/-- GraspJudgeModel.proofSet -/
theorem st_255 {E : gj_E} {Q : Int32 → gj_I → gj_J → Prop} (SI : gj_I) (SJ : gj_J) (h : GoI E mt_255 2 [some (.ref 81), some (.int (i3 4)), none] SI SJ Q) : DoI E 255 [(.ref 81)] SI SJ Q := by
  refine gj_start (M := mt_255) ok_255 (Nat.le_of_ble_eq_true rfl) ?_
  refine gj_goq gj_clT ok_255 [2, 12, 17, 24, 33] ?_
  show gj_Goes E om0 mt_255 2 [some (.ref 81), some (.int (i3 4)), none] [] SI SJ (QI Q)
  exact h
set_option maxRecDepth 20000 in
theorem lp_255_2 {E : gj_E} {Q : Int32 → gj_I → gj_J → Prop} (x1 : Int32) (SI : gj_I) (SJ : gj_J) (h : ((SI 81 8) < x1 → Q (i3 0) SI SJ) ∧ (¬ (SI 81 8) < x1 → GoI E mt_255 12 [some (.ref 81), some (.int x1), some (.int (i3 0))] SI SJ Q)) : GoI E mt_255 2 [some (.ref 81), some (.int x1), none] SI SJ Q := by
  refine gj_goq gj_clT ok_255 [2, 12, 17, 24, 33] ?_
  show ((SI 81 8) < x1 → gj_Goes E om0 mt_255 50 [some (.ref 81), some (.int x1), none] [] SI SJ (QI Q)) ∧ (¬ (SI 81 8) < x1 → gj_Goes E om0 mt_255 12 [some (.ref 81), some (.int x1), some (.int (i3 0))] [] SI SJ (QI Q))
  refine ⟨fun c1 => ?_, fun c1 => ?_⟩
  · refine gj_goq gj_clT ok_255 [2, 12, 17, 24, 33] ?_
    show QI Q (some (.int (i3 0))) SI SJ
    exact ⟨_, rfl, (h.1 c1)⟩
  · exact (h.2 c1)
set_option maxRecDepth 20000 in
theorem lp_255_12 {E : gj_E} {Q : Int32 → gj_I → gj_J → Prop} (x1 : Int32) (x2 : Int32) (SI : gj_I) (SJ : gj_J) (h : DoI E 185 [(.ref 81)] SI SJ (fun r1 SI2 SJ2 => (r1 < x2 → GoI E mt_255 2 [some (.ref 81), some (.int (x1 + (i3 1))), none] SI2 SJ2 Q) ∧ (¬ r1 < x2 → DoI E 160 [(.int x2)] SI2 SJ2 (fun r3 SI4 SJ4 => (¬ r3 = x1 → GoI E mt_255 12 [some (.ref 81), some (.int x1), some (.int (x2 + (i3 1)))] SI4 SJ4 Q) ∧ (r3 = x1 → DoI E 194 [(.ref 81), (.int x2)] SI4 SJ4 (fun r5 SI6 SJ6 => (r5 = 0 → GoI E mt_255 12 [some (.ref 81), some (.int x1), some (.int (x2 + (i3 1)))] SI6 SJ6 Q) ∧ (¬ r5 = 0 → Q x2 SI6 SJ6))))))) : GoI E mt_255 12 [some (.ref 81), some (.int x1), some (.int x2)] SI SJ Q := by
  refine gj_goq gj_clT ok_255 [2, 12, 17, 24, 33] ?_
  show gj_Do E om0 (gj_mt 185) [(.ref 81)] SI SJ _
  refine gj_Do.mono h (fun v_ SI2 SJ2 h_ => ?_)
  obtain ⟨r1, rfl, q1⟩ := h_
  show gj_Goes E om0 mt_255 17 [some (.ref 81), some (.int x1), some (.int x2)] [(.int r1), (.int x2)] SI2 SJ2 (QI Q)
  refine gj_goq gj_clT ok_255 [2, 12, 17, 24, 33] ?_
  show (r1 < x2 → gj_Goes E om0 mt_255 44 [some (.ref 81), some (.int x1), some (.int x2)] [] SI2 SJ2 (QI Q)) ∧ (¬ r1 < x2 → gj_Do E om0 (gj_mt 160) [(.int x2)] SI2 SJ2 _)
  refine ⟨fun c2 => ?_, fun c2 => ?_⟩
  · refine gj_goq gj_clT ok_255 [2, 12, 17, 24, 33] ?_
    show gj_Goes E om0 mt_255 2 [some (.ref 81), some (.int (x1 + (i3 1))), some (.int x2)] [] SI2 SJ2 (QI Q)
    exact gj_fh (q1.1 c2) (And.intro (Or.inr rfl) (And.intro (Or.inr rfl) (And.intro (Or.inl rfl) trivial)))
  · refine gj_Do.mono (q1.2 c2) (fun v_ SI4 SJ4 h_ => ?_)
    obtain ⟨r3, rfl, q3⟩ := h_
    show gj_Goes E om0 mt_255 24 [some (.ref 81), some (.int x1), some (.int x2)] [(.int r3)] SI4 SJ4 (QI Q)
    refine gj_goq gj_clT ok_255 [2, 12, 17, 24, 33] ?_
    show (¬ r3 = x1 → gj_Goes E om0 mt_255 38 [some (.ref 81), some (.int x1), some (.int x2)] [] SI4 SJ4 (QI Q)) ∧ (r3 = x1 → gj_Do E om0 (gj_mt 194) [(.ref 81), (.int x2)] SI4 SJ4 _)
    refine ⟨fun c4 => ?_, fun c4 => ?_⟩
    · refine gj_goq gj_clT ok_255 [2, 12, 17, 24, 33] ?_
      show gj_Goes E om0 mt_255 12 [some (.ref 81), some (.int x1), some (.int (x2 + (i3 1)))] [] SI4 SJ4 (QI Q)
      exact (q3.1 c4)
    · refine gj_Do.mono (q3.2 c4) (fun v_ SI6 SJ6 h_ => ?_)
      obtain ⟨r5, rfl, q5⟩ := h_
      show gj_Goes E om0 mt_255 33 [some (.ref 81), some (.int x1), some (.int x2)] [(.int r5)] SI6 SJ6 (QI Q)
      refine gj_goq gj_clT ok_255 [2, 12, 17, 24, 33] ?_
      show (r5 = 0 → gj_Goes E om0 mt_255 38 [some (.ref 81), some (.int x1), some (.int x2)] [] SI6 SJ6 (QI Q)) ∧ (¬ r5 = 0 → QI Q (some (.int x2)) SI6 SJ6)
      refine ⟨fun c6 => ?_, fun c6 => ?_⟩
      · refine gj_goq gj_clT ok_255 [2, 12, 17, 24, 33] ?_
        show gj_Goes E om0 mt_255 12 [some (.ref 81), some (.int x1), some (.int (x2 + (i3 1)))] [] SI6 SJ6 (QI Q)
        exact (q5.1 c6)
      · exact ⟨_, rfl, (q5.2 c6)⟩
set_option maxRecDepth 20000 in
/-- GraspJudgeModel.memberOf -/
theorem st_256 {E : gj_E} {Q : Int32 → gj_I → gj_J → Prop} (a1 : Int32) (a2 : Int32) (SI : gj_I) (SJ : gj_J) (h : GoI E mt_256 5 [none, some (.int a1), none, some (.int a2), some (.int (i3 0))] SI SJ Q) : DoI E 256 [(.ref 81), (.int a1), (.int a2)] SI SJ Q := by
  refine gj_start (M := mt_256) ok_256 (Nat.le_of_ble_eq_true rfl) ?_
  refine gj_goq gj_clT ok_256 [5, 11, 24] ?_
  show gj_Goes E om0 mt_256 5 [some (.ref 81), some (.int a1), some (.int a2), some (.int a2), some (.int (i3 0))] [] SI SJ (QI Q)
  exact gj_fh h (And.intro (Or.inl rfl) (And.intro (Or.inr rfl) (And.intro (Or.inl rfl) (And.intro (Or.inr rfl) (And.intro (Or.inr rfl) trivial)))))
set_option maxRecDepth 20000 in
theorem lp_256_5 {E : gj_E} {Q : Int32 → gj_I → gj_J → Prop} (x1 : Int32) (x3 : Int32) (x4 : Int32) (SI : gj_I) (SJ : gj_J) (h : DoI E 159 [(.int x1), (.int x4)] SI SJ (fun r1 SI2 SJ2 => (r1 = 0 → DoI E 159 [(.int x1), (.int x4)] SI2 SJ2 (fun r3 SI4 SJ4 => (r3 = 0 → GoI E mt_256 5 [none, some (.int x1), none, some (.int x3), some (.int (x4 + (i3 1)))] SI4 SJ4 Q) ∧ (¬ r3 = 0 → GoI E mt_256 5 [none, some (.int x1), none, some (.int (x3 - (i3 1))), some (.int (x4 + (i3 1)))] SI4 SJ4 Q))) ∧ (¬ r1 = 0 → (x3 ≤ 0 → Q x4 SI2 SJ2) ∧ (¬ x3 ≤ 0 → DoI E 159 [(.int x1), (.int x4)] SI2 SJ2 (fun r5 SI6 SJ6 => (r5 = 0 → GoI E mt_256 5 [none, some (.int x1), none, some (.int x3), some (.int (x4 + (i3 1)))] SI6 SJ6 Q) ∧ (¬ r5 = 0 → GoI E mt_256 5 [none, some (.int x1), none, some (.int (x3 - (i3 1))), some (.int (x4 + (i3 1)))] SI6 SJ6 Q)))))) : GoI E mt_256 5 [none, some (.int x1), none, some (.int x3), some (.int x4)] SI SJ Q := by
  refine gj_goq gj_clT ok_256 [5, 11, 24] ?_
  show gj_Do E om0 (gj_mt 159) [(.int x1), (.int x4)] SI SJ _
  refine gj_Do.mono h (fun v_ SI2 SJ2 h_ => ?_)
  obtain ⟨r1, rfl, q1⟩ := h_
  show gj_Goes E om0 mt_256 11 [none, some (.int x1), none, some (.int x3), some (.int x4)] [(.int r1)] SI2 SJ2 (QI Q)
  refine gj_goq gj_clT ok_256 [5, 11, 24] ?_
  show (r1 = 0 → gj_Goes E om0 mt_256 18 [none, some (.int x1), none, some (.int x3), some (.int x4)] [] SI2 SJ2 (QI Q)) ∧ (¬ r1 = 0 → (x3 ≤ 0 → gj_Goes E om0 mt_256 40 [none, some (.int x1), none, some (.int x3), some (.int x4)] [] SI2 SJ2 (QI Q)) ∧ (¬ x3 ≤ 0 → gj_Do E om0 (gj_mt 159) [(.int x1), (.int x4)] SI2 SJ2 _))
  refine ⟨fun c2 => ?_, fun c2 => ?_⟩
  · refine gj_goq gj_clT ok_256 [5, 11, 24] ?_
    show gj_Do E om0 (gj_mt 159) [(.int x1), (.int x4)] SI2 SJ2 _
    refine gj_Do.mono (q1.1 c2) (fun v_ SI4 SJ4 h_ => ?_)
    obtain ⟨r3, rfl, q3⟩ := h_
    show gj_Goes E om0 mt_256 24 [none, some (.int x1), none, some (.int x3), some (.int x4)] [(.int r3)] SI4 SJ4 (QI Q)
    refine gj_goq gj_clT ok_256 [5, 11, 24] ?_
    show (r3 = 0 → gj_Goes E om0 mt_256 31 [none, some (.int x1), none, some (.int x3), some (.int x4)] [] SI4 SJ4 (QI Q)) ∧ (¬ r3 = 0 → gj_Goes E om0 mt_256 5 [none, some (.int x1), none, some (.int (x3 - (i3 1))), some (.int (x4 + (i3 1)))] [] SI4 SJ4 (QI Q))
    refine ⟨fun c4 => ?_, fun c4 => ?_⟩
    · refine gj_goq gj_clT ok_256 [5, 11, 24] ?_
      show gj_Goes E om0 mt_256 5 [none, some (.int x1), none, some (.int x3), some (.int (x4 + (i3 1)))] [] SI4 SJ4 (QI Q)
      exact (q3.1 c4)
    · exact (q3.2 c4)
  · refine ⟨fun c5 => ?_, fun c5 => ?_⟩
    · refine gj_goq gj_clT ok_256 [5, 11, 24] ?_
      show QI Q (some (.int x4)) SI2 SJ2
      exact ⟨_, rfl, ((q1.2 c2).1 c5)⟩
    · refine gj_Do.mono ((q1.2 c2).2 c5) (fun v_ SI6 SJ6 h_ => ?_)
      obtain ⟨r5, rfl, q6⟩ := h_
      show gj_Goes E om0 mt_256 24 [none, some (.int x1), none, some (.int x3), some (.int x4)] [(.int r5)] SI6 SJ6 (QI Q)
      refine gj_goq gj_clT ok_256 [5, 11, 24] ?_
      show (r5 = 0 → gj_Goes E om0 mt_256 31 [none, some (.int x1), none, some (.int x3), some (.int x4)] [] SI6 SJ6 (QI Q)) ∧ (¬ r5 = 0 → gj_Goes E om0 mt_256 5 [none, some (.int x1), none, some (.int (x3 - (i3 1))), some (.int (x4 + (i3 1)))] [] SI6 SJ6 (QI Q))
      refine ⟨fun c7 => ?_, fun c7 => ?_⟩
      · refine gj_goq gj_clT ok_256 [5, 11, 24] ?_
        show gj_Goes E om0 mt_256 5 [none, some (.int x1), none, some (.int x3), some (.int (x4 + (i3 1)))] [] SI6 SJ6 (QI Q)
        exact (q6.1 c7)
      · exact (q6.2 c7)
set_option maxRecDepth 20000 in
/-- GraspJudgeModel.numberOf -/
theorem st_257 {E : gj_E} {Q : Int64 → gj_I → gj_J → Prop} (a1 : Int32) (a2 : Int32) (SI : gj_I) (SJ : gj_J) (h : GoL E mt_257 8 [some (.ref 81), some (.int a1), some (.int a2), some (.long (i6 0)), none, some (.long (i6 0)), none, some (.int (i3 0)), none, none, none, none, none] SI SJ Q) : DoL E 257 [(.ref 81), (.int a1), (.int a2)] SI SJ Q := by
  refine gj_start (M := mt_257) ok_257 (Nat.le_of_ble_eq_true rfl) ?_
  refine gj_goq gj_clT ok_257 [8, 29, 47, 65, 133, 136, 144] ?_
  show gj_Goes E om0 mt_257 8 [some (.ref 81), some (.int a1), some (.int a2), some (.long (i6 0)), none, some (.long (i6 0)), none, some (.int (i3 0)), none, none, none, none, none] [] SI SJ (QL Q)
  exact h
set_option maxRecDepth 20000 in
theorem lp_257_8 {E : gj_E} {Q : Int64 → gj_I → gj_J → Prop} (x1 : Int32) (x2 : Int32) (x3 : Int64) (x5 : Int64) (x7 : Int32) (SI : gj_I) (SJ : gj_J) (h : ((i3 4) ≤ x7 → ¬ x3 = 0 ∧ (Q (x5 / x3) SI SJ)) ∧ (¬ (i3 4) ≤ x7 → (¬ x7 = 0 → DoI E 256 [(.ref 81), (.int x1), (.int (i3 0))] SI SJ (fun r1 SI2 SJ2 => ((i3 2) ≤ x7 → DoI E 256 [(.ref 81), (.int x1), (.int (i3 1))] SI2 SJ2 (fun r3 SI4 SJ4 => ((i3 3) ≤ x7 → DoI E 256 [(.ref 81), (.int x1), (.int (i3 2))] SI4 SJ4 (fun r5 SI6 SJ6 => vp_in r1 16 ∧ (vp_in r3 16 ∧ (vp_in r5 16 ∧ (DoL E 221 [(.long (SJ6 85 (gj_n r1))), (.long (SJ6 86 (gj_n r1))), (.long (SJ6 87 (gj_n r1))), (.long (SJ6 85 (gj_n r3))), (.long (SJ6 86 (gj_n r3))), (.long (SJ6 87 (gj_n r3))), (.long (SJ6 85 (gj_n r5))), (.long (SJ6 86 (gj_n r5))), (.long (SJ6 87 (gj_n r5)))] SI6 SJ6 (fun r7 SI8 SJ8 => DoL E 158 [(.long r7)] SI8 SJ8 (fun r9 SI10 SJ10 => DoL E 161 [(.long x3), (.long r9)] SI10 SJ10 (fun r11 SI12 SJ12 => (¬ x7 = x2 → GoL E mt_257 8 [some (.ref 81), some (.int x1), some (.int x2), some (.long r11), none, some (.long x5), none, some (.int (x7 + (i3 1))), none, none, none, none, none] SI12 SJ12 Q) ∧ (x7 = x2 → GoL E mt_257 8 [some (.ref 81), some (.int x1), some (.int x2), some (.long r11), none, some (.long r9), none, some (.int (x7 + (i3 1))), none, none, none, none, none] SI12 SJ12 Q))))))))) ∧ (¬ (i3 3) ≤ x7 → DoI E 256 [(.ref 81), (.int x1), (.int (i3 3))] SI4 SJ4 (fun r13 SI14 SJ14 => vp_in r1 16 ∧ (vp_in r3 16 ∧ (vp_in r13 16 ∧ (DoL E 221 [(.long (SJ14 85 (gj_n r1))), (.long (SJ14 86 (gj_n r1))), (.long (SJ14 87 (gj_n r1))), (.long (SJ14 85 (gj_n r3))), (.long (SJ14 86 (gj_n r3))), (.long (SJ14 87 (gj_n r3))), (.long (SJ14 85 (gj_n r13))), (.long (SJ14 86 (gj_n r13))), (.long (SJ14 87 (gj_n r13)))] SI14 SJ14 (fun r15 SI16 SJ16 => DoL E 158 [(.long r15)] SI16 SJ16 (fun r17 SI18 SJ18 => DoL E 161 [(.long x3), (.long r17)] SI18 SJ18 (fun r19 SI20 SJ20 => (¬ x7 = x2 → GoL E mt_257 8 [some (.ref 81), some (.int x1), some (.int x2), some (.long r19), none, some (.long x5), none, some (.int (x7 + (i3 1))), none, none, none, none, none] SI20 SJ20 Q) ∧ (x7 = x2 → GoL E mt_257 8 [some (.ref 81), some (.int x1), some (.int x2), some (.long r19), none, some (.long r17), none, some (.int (x7 + (i3 1))), none, none, none, none, none] SI20 SJ20 Q))))))))))) ∧ (¬ (i3 2) ≤ x7 → DoI E 256 [(.ref 81), (.int x1), (.int (i3 2))] SI2 SJ2 (fun r21 SI22 SJ22 => ((i3 3) ≤ x7 → DoI E 256 [(.ref 81), (.int x1), (.int (i3 2))] SI22 SJ22 (fun r23 SI24 SJ24 => vp_in r1 16 ∧ (vp_in r21 16 ∧ (vp_in r23 16 ∧ (DoL E 221 [(.long (SJ24 85 (gj_n r1))), (.long (SJ24 86 (gj_n r1))), (.long (SJ24 87 (gj_n r1))), (.long (SJ24 85 (gj_n r21))), (.long (SJ24 86 (gj_n r21))), (.long (SJ24 87 (gj_n r21))), (.long (SJ24 85 (gj_n r23))), (.long (SJ24 86 (gj_n r23))), (.long (SJ24 87 (gj_n r23)))] SI24 SJ24 (fun r25 SI26 SJ26 => DoL E 158 [(.long r25)] SI26 SJ26 (fun r27 SI28 SJ28 => DoL E 161 [(.long x3), (.long r27)] SI28 SJ28 (fun r29 SI30 SJ30 => (¬ x7 = x2 → GoL E mt_257 8 [some (.ref 81), some (.int x1), some (.int x2), some (.long r29), none, some (.long x5), none, some (.int (x7 + (i3 1))), none, none, none, none, none] SI30 SJ30 Q) ∧ (x7 = x2 → GoL E mt_257 8 [some (.ref 81), some (.int x1), some (.int x2), some (.long r29), none, some (.long r27), none, some (.int (x7 + (i3 1))), none, none, none, none, none] SI30 SJ30 Q))))))))) ∧ (¬ (i3 3) ≤ x7 → DoI E 256 [(.ref 81), (.int x1), (.int (i3 3))] SI22 SJ22 (fun r31 SI32 SJ32 => vp_in r1 16 ∧ (vp_in r21 16 ∧ (vp_in r31 16 ∧ (DoL E 221 [(.long (SJ32 85 (gj_n r1))), (.long (SJ32 86 (gj_n r1))), (.long (SJ32 87 (gj_n r1))), (.long (SJ32 85 (gj_n r21))), (.long (SJ32 86 (gj_n r21))), (.long (SJ32 87 (gj_n r21))), (.long (SJ32 85 (gj_n r31))), (.long (SJ32 86 (gj_n r31))), (.long (SJ32 87 (gj_n r31)))] SI32 SJ32 (fun r33 SI34 SJ34 => DoL E 158 [(.long r33)] SI34 SJ34 (fun r35 SI36 SJ36 => DoL E 161 [(.long x3), (.long r35)] SI36 SJ36 (fun r37 SI38 SJ38 => (¬ x7 = x2 → GoL E mt_257 8 [some (.ref 81), some (.int x1), some (.int x2), some (.long r37), none, some (.long x5), none, some (.int (x7 + (i3 1))), none, none, none, none, none] SI38 SJ38 Q) ∧ (x7 = x2 → GoL E mt_257 8 [some (.ref 81), some (.int x1), some (.int x2), some (.long r37), none, some (.long r35), none, some (.int (x7 + (i3 1))), none, none, none, none, none] SI38 SJ38 Q))))))))))))) ∧ (x7 = 0 → DoI E 256 [(.ref 81), (.int x1), (.int (i3 1))] SI SJ (fun r39 SI40 SJ40 => ((i3 2) ≤ x7 → DoI E 256 [(.ref 81), (.int x1), (.int (i3 1))] SI40 SJ40 (fun r41 SI42 SJ42 => ((i3 3) ≤ x7 → DoI E 256 [(.ref 81), (.int x1), (.int (i3 2))] SI42 SJ42 (fun r43 SI44 SJ44 => vp_in r39 16 ∧ (vp_in r41 16 ∧ (vp_in r43 16 ∧ (DoL E 221 [(.long (SJ44 85 (gj_n r39))), (.long (SJ44 86 (gj_n r39))), (.long (SJ44 87 (gj_n r39))), (.long (SJ44 85 (gj_n r41))), (.long (SJ44 86 (gj_n r41))), (.long (SJ44 87 (gj_n r41))), (.long (SJ44 85 (gj_n r43))), (.long (SJ44 86 (gj_n r43))), (.long (SJ44 87 (gj_n r43)))] SI44 SJ44 (fun r45 SI46 SJ46 => DoL E 158 [(.long r45)] SI46 SJ46 (fun r47 SI48 SJ48 => DoL E 161 [(.long x3), (.long r47)] SI48 SJ48 (fun r49 SI50 SJ50 => (¬ x7 = x2 → GoL E mt_257 8 [some (.ref 81), some (.int x1), some (.int x2), some (.long r49), none, some (.long x5), none, some (.int (x7 + (i3 1))), none, none, none, none, none] SI50 SJ50 Q) ∧ (x7 = x2 → GoL E mt_257 8 [some (.ref 81), some (.int x1), some (.int x2), some (.long r49), none, some (.long r47), none, some (.int (x7 + (i3 1))), none, none, none, none, none] SI50 SJ50 Q))))))))) ∧ (¬ (i3 3) ≤ x7 → DoI E 256 [(.ref 81), (.int x1), (.int (i3 3))] SI42 SJ42 (fun r51 SI52 SJ52 => vp_in r39 16 ∧ (vp_in r41 16 ∧ (vp_in r51 16 ∧ (DoL E 221 [(.long (SJ52 85 (gj_n r39))), (.long (SJ52 86 (gj_n r39))), (.long (SJ52 87 (gj_n r39))), (.long (SJ52 85 (gj_n r41))), (.long (SJ52 86 (gj_n r41))), (.long (SJ52 87 (gj_n r41))), (.long (SJ52 85 (gj_n r51))), (.long (SJ52 86 (gj_n r51))), (.long (SJ52 87 (gj_n r51)))] SI52 SJ52 (fun r53 SI54 SJ54 => DoL E 158 [(.long r53)] SI54 SJ54 (fun r55 SI56 SJ56 => DoL E 161 [(.long x3), (.long r55)] SI56 SJ56 (fun r57 SI58 SJ58 => (¬ x7 = x2 → GoL E mt_257 8 [some (.ref 81), some (.int x1), some (.int x2), some (.long r57), none, some (.long x5), none, some (.int (x7 + (i3 1))), none, none, none, none, none] SI58 SJ58 Q) ∧ (x7 = x2 → GoL E mt_257 8 [some (.ref 81), some (.int x1), some (.int x2), some (.long r57), none, some (.long r55), none, some (.int (x7 + (i3 1))), none, none, none, none, none] SI58 SJ58 Q))))))))))) ∧ (¬ (i3 2) ≤ x7 → DoI E 256 [(.ref 81), (.int x1), (.int (i3 2))] SI40 SJ40 (fun r59 SI60 SJ60 => ((i3 3) ≤ x7 → DoI E 256 [(.ref 81), (.int x1), (.int (i3 2))] SI60 SJ60 (fun r61 SI62 SJ62 => vp_in r39 16 ∧ (vp_in r59 16 ∧ (vp_in r61 16 ∧ (DoL E 221 [(.long (SJ62 85 (gj_n r39))), (.long (SJ62 86 (gj_n r39))), (.long (SJ62 87 (gj_n r39))), (.long (SJ62 85 (gj_n r59))), (.long (SJ62 86 (gj_n r59))), (.long (SJ62 87 (gj_n r59))), (.long (SJ62 85 (gj_n r61))), (.long (SJ62 86 (gj_n r61))), (.long (SJ62 87 (gj_n r61)))] SI62 SJ62 (fun r63 SI64 SJ64 => DoL E 158 [(.long r63)] SI64 SJ64 (fun r65 SI66 SJ66 => DoL E 161 [(.long x3), (.long r65)] SI66 SJ66 (fun r67 SI68 SJ68 => (¬ x7 = x2 → GoL E mt_257 8 [some (.ref 81), some (.int x1), some (.int x2), some (.long r67), none, some (.long x5), none, some (.int (x7 + (i3 1))), none, none, none, none, none] SI68 SJ68 Q) ∧ (x7 = x2 → GoL E mt_257 8 [some (.ref 81), some (.int x1), some (.int x2), some (.long r67), none, some (.long r65), none, some (.int (x7 + (i3 1))), none, none, none, none, none] SI68 SJ68 Q))))))))) ∧ (¬ (i3 3) ≤ x7 → DoI E 256 [(.ref 81), (.int x1), (.int (i3 3))] SI60 SJ60 (fun r69 SI70 SJ70 => vp_in r39 16 ∧ (vp_in r59 16 ∧ (vp_in r69 16 ∧ (DoL E 221 [(.long (SJ70 85 (gj_n r39))), (.long (SJ70 86 (gj_n r39))), (.long (SJ70 87 (gj_n r39))), (.long (SJ70 85 (gj_n r59))), (.long (SJ70 86 (gj_n r59))), (.long (SJ70 87 (gj_n r59))), (.long (SJ70 85 (gj_n r69))), (.long (SJ70 86 (gj_n r69))), (.long (SJ70 87 (gj_n r69)))] SI70 SJ70 (fun r71 SI72 SJ72 => DoL E 158 [(.long r71)] SI72 SJ72 (fun r73 SI74 SJ74 => DoL E 161 [(.long x3), (.long r73)] SI74 SJ74 (fun r75 SI76 SJ76 => (¬ x7 = x2 → GoL E mt_257 8 [some (.ref 81), some (.int x1), some (.int x2), some (.long r75), none, some (.long x5), none, some (.int (x7 + (i3 1))), none, none, none, none, none] SI76 SJ76 Q) ∧ (x7 = x2 → GoL E mt_257 8 [some (.ref 81), some (.int x1), some (.int x2), some (.long r75), none, some (.long r73), none, some (.int (x7 + (i3 1))), none, none, none, none, none] SI76 SJ76 Q))))))))))))))) : GoL E mt_257 8 [some (.ref 81), some (.int x1), some (.int x2), some (.long x3), none, some (.long x5), none, some (.int x7), none, none, none, none, none] SI SJ Q := by
  refine gj_goq gj_clT ok_257 [8, 29, 47, 65, 133, 136, 144] ?_
  show ((i3 4) ≤ x7 → gj_Goes E om0 mt_257 161 [some (.ref 81), some (.int x1), some (.int x2), some (.long x3), none, some (.long x5), none, some (.int x7), none, none, none, none, none] [] SI SJ (QL Q)) ∧ (¬ (i3 4) ≤ x7 → (¬ x7 = 0 → gj_Goes E om0 mt_257 25 [some (.ref 81), some (.int x1), some (.int x2), some (.long x3), none, some (.long x5), none, some (.int x7), none, none, none, none, none] [(.int x1), (.ref 81)] SI SJ (QL Q)) ∧ (x7 = 0 → gj_Goes E om0 mt_257 26 [some (.ref 81), some (.int x1), some (.int x2), some (.long x3), none, some (.long x5), none, some (.int x7), none, none, none, none, none] [(.int (i3 1)), (.int x1), (.ref 81)] SI SJ (QL Q)))
  refine ⟨fun c1 => ?_, fun c1 => ?_⟩
  · refine gj_goq gj_clT ok_257 [8, 29, 47, 65, 133, 136, 144] ?_
    show ¬ x3 = 0 ∧ (QL Q (some (.long (x5 / x3))) SI SJ)
    have k2 := (h.1 c1).1
    refine ⟨k2, ?_⟩
    exact ⟨_, rfl, (h.1 c1).2⟩
  · refine ⟨fun c3 => ?_, fun c3 => ?_⟩
    · refine gj_goq gj_clT ok_257 [8, 29, 47, 65, 133, 136, 144] ?_
      show gj_Do E om0 (gj_mt 256) [(.ref 81), (.int x1), (.int (i3 0))] SI SJ _
      refine gj_Do.mono ((h.2 c1).1 c3) (fun v_ SI2 SJ2 h_ => ?_)
      obtain ⟨r1, rfl, q4⟩ := h_
      show gj_Goes E om0 mt_257 29 [some (.ref 81), some (.int x1), some (.int x2), some (.long x3), none, some (.long x5), none, some (.int x7), none, none, none, none, none] [(.int r1)] SI2 SJ2 (QL Q)
      refine gj_goq gj_clT ok_257 [8, 29, 47, 65, 133, 136, 144] ?_
      show ((i3 2) ≤ x7 → gj_Goes E om0 mt_257 43 [some (.ref 81), some (.int x1), some (.int x2), some (.long x3), none, some (.long x5), none, some (.int x7), some (.int r1), none, none, none, none] [(.int x1), (.ref 81)] SI2 SJ2 (QL Q)) ∧ (¬ (i3 2) ≤ x7 → gj_Goes E om0 mt_257 44 [some (.ref 81), some (.int x1), some (.int x2), some (.long x3), none, some (.long x5), none, some (.int x7), some (.int r1), none, none, none, none] [(.int (i3 2)), (.int x1), (.ref 81)] SI2 SJ2 (QL Q))
      refine ⟨fun c5 => ?_, fun c5 => ?_⟩
      · refine gj_goq gj_clT ok_257 [8, 29, 47, 65, 133, 136, 144] ?_
        show gj_Do E om0 (gj_mt 256) [(.ref 81), (.int x1), (.int (i3 1))] SI2 SJ2 _
        refine gj_Do.mono (q4.1 c5) (fun v_ SI4 SJ4 h_ => ?_)
        obtain ⟨r3, rfl, q6⟩ := h_
        show gj_Goes E om0 mt_257 47 [some (.ref 81), some (.int x1), some (.int x2), some (.long x3), none, some (.long x5), none, some (.int x7), some (.int r1), none, none, none, none] [(.int r3)] SI4 SJ4 (QL Q)
        refine gj_goq gj_clT ok_257 [8, 29, 47, 65, 133, 136, 144] ?_
        show ((i3 3) ≤ x7 → gj_Goes E om0 mt_257 61 [some (.ref 81), some (.int x1), some (.int x2), some (.long x3), none, some (.long x5), none, some (.int x7), some (.int r1), some (.int r3), none, none, none] [(.int x1), (.ref 81)] SI4 SJ4 (QL Q)) ∧ (¬ (i3 3) ≤ x7 → gj_Goes E om0 mt_257 62 [some (.ref 81), some (.int x1), some (.int x2), some (.long x3), none, some (.long x5), none, some (.int x7), some (.int r1), some (.int r3), none, none, none] [(.int (i3 3)), (.int x1), (.ref 81)] SI4 SJ4 (QL Q))
        refine ⟨fun c7 => ?_, fun c7 => ?_⟩
        · refine gj_goq gj_clT ok_257 [8, 29, 47, 65, 133, 136, 144] ?_
          show gj_Do E om0 (gj_mt 256) [(.ref 81), (.int x1), (.int (i3 2))] SI4 SJ4 _
          refine gj_Do.mono (q6.1 c7) (fun v_ SI6 SJ6 h_ => ?_)
          obtain ⟨r5, rfl, q8⟩ := h_
          show gj_Goes E om0 mt_257 65 [some (.ref 81), some (.int x1), some (.int x2), some (.long x3), none, some (.long x5), none, some (.int x7), some (.int r1), some (.int r3), none, none, none] [(.int r5)] SI6 SJ6 (QL Q)
          refine gj_goq gj_clT ok_257 [8, 29, 47, 65, 133, 136, 144] ?_
          show vp_in r1 16 ∧ (vp_in r1 16 ∧ (vp_in r1 16 ∧ (vp_in r3 16 ∧ (vp_in r3 16 ∧ (vp_in r3 16 ∧ (vp_in r5 16 ∧ (vp_in r5 16 ∧ (vp_in r5 16 ∧ (gj_Do E om0 (gj_mt 221) [(.long (SJ6 85 (gj_n r1))), (.long (SJ6 86 (gj_n r1))), (.long (SJ6 87 (gj_n r1))), (.long (SJ6 85 (gj_n r3))), (.long (SJ6 86 (gj_n r3))), (.long (SJ6 87 (gj_n r3))), (.long (SJ6 85 (gj_n r5))), (.long (SJ6 86 (gj_n r5))), (.long (SJ6 87 (gj_n r5)))] SI6 SJ6 _)))))))))
          have k9 := q8.1
          refine ⟨k9, ?_⟩
          refine ⟨k9, ?_⟩
          refine ⟨k9, ?_⟩
          have k10 := q8.2.1
          refine ⟨k10, ?_⟩
          refine ⟨k10, ?_⟩
          refine ⟨k10, ?_⟩
          have k11 := q8.2.2.1
          refine ⟨k11, ?_⟩
          refine ⟨k11, ?_⟩
          refine ⟨k11, ?_⟩
          refine gj_Do.mono q8.2.2.2 (fun v_ SI8 SJ8 h_ => ?_)
          obtain ⟨r7, rfl, q12⟩ := h_
          show gj_Goes E om0 mt_257 133 [some (.ref 81), some (.int x1), some (.int x2), some (.long x3), none, some (.long x5), none, some (.int x7), some (.int r1), some (.int r3), some (.int r5), none, none] [(.long r7)] SI8 SJ8 (QL Q)
          refine gj_goq gj_clT ok_257 [8, 29, 47, 65, 133, 136, 144] ?_
          show gj_Do E om0 (gj_mt 158) [(.long r7)] SI8 SJ8 _
          refine gj_Do.mono q12 (fun v_ SI10 SJ10 h_ => ?_)
          obtain ⟨r9, rfl, q13⟩ := h_
          show gj_Goes E om0 mt_257 136 [some (.ref 81), some (.int x1), some (.int x2), some (.long x3), none, some (.long x5), none, some (.int x7), some (.int r1), some (.int r3), some (.int r5), none, none] [(.long r9)] SI10 SJ10 (QL Q)
          refine gj_goq gj_clT ok_257 [8, 29, 47, 65, 133, 136, 144] ?_
          show gj_Do E om0 (gj_mt 161) [(.long x3), (.long r9)] SI10 SJ10 _
          refine gj_Do.mono q13 (fun v_ SI12 SJ12 h_ => ?_)
          obtain ⟨r11, rfl, q14⟩ := h_
          show gj_Goes E om0 mt_257 144 [some (.ref 81), some (.int x1), some (.int x2), some (.long x3), none, some (.long x5), none, some (.int x7), some (.int r1), some (.int r3), some (.int r5), some (.long r9), none] [(.long r11)] SI12 SJ12 (QL Q)
          refine gj_goq gj_clT ok_257 [8, 29, 47, 65, 133, 136, 144] ?_
          show (¬ x7 = x2 → gj_Goes E om0 mt_257 155 [some (.ref 81), some (.int x1), some (.int x2), some (.long r11), none, some (.long x5), none, some (.int x7), some (.int r1), some (.int r3), some (.int r5), some (.long r9), none] [] SI12 SJ12 (QL Q)) ∧ (x7 = x2 → gj_Goes E om0 mt_257 8 [some (.ref 81), some (.int x1), some (.int x2), some (.long r11), none, some (.long r9), none, some (.int (x7 + (i3 1))), some (.int r1), some (.int r3), some (.int r5), some (.long r9), none] [] SI12 SJ12 (QL Q))
          refine ⟨fun c15 => ?_, fun c15 => ?_⟩
          · refine gj_goq gj_clT ok_257 [8, 29, 47, 65, 133, 136, 144] ?_
            show gj_Goes E om0 mt_257 8 [some (.ref 81), some (.int x1), some (.int x2), some (.long r11), none, some (.long x5), none, some (.int (x7 + (i3 1))), some (.int r1), some (.int r3), some (.int r5), some (.long r9), none] [] SI12 SJ12 (QL Q)
            exact gj_fh (q14.1 c15) (And.intro (Or.inr rfl) (And.intro (Or.inr rfl) (And.intro (Or.inr rfl) (And.intro (Or.inr rfl) (And.intro (Or.inl rfl) (And.intro (Or.inr rfl) (And.intro (Or.inl rfl) (And.intro (Or.inr rfl) (And.intro (Or.inl rfl) (And.intro (Or.inl rfl) (And.intro (Or.inl rfl) (And.intro (Or.inl rfl) (And.intro (Or.inl rfl) trivial)))))))))))))
          · exact gj_fh (q14.2 c15) (And.intro (Or.inr rfl) (And.intro (Or.inr rfl) (And.intro (Or.inr rfl) (And.intro (Or.inr rfl) (And.intro (Or.inl rfl) (And.intro (Or.inr rfl) (And.intro (Or.inl rfl) (And.intro (Or.inr rfl) (And.intro (Or.inl rfl) (And.intro (Or.inl rfl) (And.intro (Or.inl rfl) (And.intro (Or.inl rfl) (And.intro (Or.inl rfl) trivial)))))))))))))
        · refine gj_goq gj_clT ok_257 [8, 29, 47, 65, 133, 136, 144] ?_
          show gj_Do E om0 (gj_mt 256) [(.ref 81), (.int x1), (.int (i3 3))] SI4 SJ4 _
          refine gj_Do.mono (q6.2 c7) (fun v_ SI14 SJ14 h_ => ?_)
          obtain ⟨r13, rfl, q16⟩ := h_
          show gj_Goes E om0 mt_257 65 [some (.ref 81), some (.int x1), some (.int x2), some (.long x3), none, some (.long x5), none, some (.int x7), some (.int r1), some (.int r3), none, none, none] [(.int r13)] SI14 SJ14 (QL Q)
          refine gj_goq gj_clT ok_257 [8, 29, 47, 65, 133, 136, 144] ?_
          show vp_in r1 16 ∧ (vp_in r1 16 ∧ (vp_in r1 16 ∧ (vp_in r3 16 ∧ (vp_in r3 16 ∧ (vp_in r3 16 ∧ (vp_in r13 16 ∧ (vp_in r13 16 ∧ (vp_in r13 16 ∧ (gj_Do E om0 (gj_mt 221) [(.long (SJ14 85 (gj_n r1))), (.long (SJ14 86 (gj_n r1))), (.long (SJ14 87 (gj_n r1))), (.long (SJ14 85 (gj_n r3))), (.long (SJ14 86 (gj_n r3))), (.long (SJ14 87 (gj_n r3))), (.long (SJ14 85 (gj_n r13))), (.long (SJ14 86 (gj_n r13))), (.long (SJ14 87 (gj_n r13)))] SI14 SJ14 _)))))))))
          have k17 := q16.1
          refine ⟨k17, ?_⟩
          refine ⟨k17, ?_⟩
          refine ⟨k17, ?_⟩
          have k18 := q16.2.1
          refine ⟨k18, ?_⟩
          refine ⟨k18, ?_⟩
          refine ⟨k18, ?_⟩
          have k19 := q16.2.2.1
          refine ⟨k19, ?_⟩
          refine ⟨k19, ?_⟩
          refine ⟨k19, ?_⟩
          refine gj_Do.mono q16.2.2.2 (fun v_ SI16 SJ16 h_ => ?_)
          obtain ⟨r15, rfl, q20⟩ := h_
          show gj_Goes E om0 mt_257 133 [some (.ref 81), some (.int x1), some (.int x2), some (.long x3), none, some (.long x5), none, some (.int x7), some (.int r1), some (.int r3), some (.int r13), none, none] [(.long r15)] SI16 SJ16 (QL Q)
          refine gj_goq gj_clT ok_257 [8, 29, 47, 65, 133, 136, 144] ?_
          show gj_Do E om0 (gj_mt 158) [(.long r15)] SI16 SJ16 _
          refine gj_Do.mono q20 (fun v_ SI18 SJ18 h_ => ?_)
          obtain ⟨r17, rfl, q21⟩ := h_
          show gj_Goes E om0 mt_257 136 [some (.ref 81), some (.int x1), some (.int x2), some (.long x3), none, some (.long x5), none, some (.int x7), some (.int r1), some (.int r3), some (.int r13), none, none] [(.long r17)] SI18 SJ18 (QL Q)
          refine gj_goq gj_clT ok_257 [8, 29, 47, 65, 133, 136, 144] ?_
          show gj_Do E om0 (gj_mt 161) [(.long x3), (.long r17)] SI18 SJ18 _
          refine gj_Do.mono q21 (fun v_ SI20 SJ20 h_ => ?_)
          obtain ⟨r19, rfl, q22⟩ := h_
          show gj_Goes E om0 mt_257 144 [some (.ref 81), some (.int x1), some (.int x2), some (.long x3), none, some (.long x5), none, some (.int x7), some (.int r1), some (.int r3), some (.int r13), some (.long r17), none] [(.long r19)] SI20 SJ20 (QL Q)
          refine gj_goq gj_clT ok_257 [8, 29, 47, 65, 133, 136, 144] ?_
          show (¬ x7 = x2 → gj_Goes E om0 mt_257 155 [some (.ref 81), some (.int x1), some (.int x2), some (.long r19), none, some (.long x5), none, some (.int x7), some (.int r1), some (.int r3), some (.int r13), some (.long r17), none] [] SI20 SJ20 (QL Q)) ∧ (x7 = x2 → gj_Goes E om0 mt_257 8 [some (.ref 81), some (.int x1), some (.int x2), some (.long r19), none, some (.long r17), none, some (.int (x7 + (i3 1))), some (.int r1), some (.int r3), some (.int r13), some (.long r17), none] [] SI20 SJ20 (QL Q))
          refine ⟨fun c23 => ?_, fun c23 => ?_⟩
          · refine gj_goq gj_clT ok_257 [8, 29, 47, 65, 133, 136, 144] ?_
            show gj_Goes E om0 mt_257 8 [some (.ref 81), some (.int x1), some (.int x2), some (.long r19), none, some (.long x5), none, some (.int (x7 + (i3 1))), some (.int r1), some (.int r3), some (.int r13), some (.long r17), none] [] SI20 SJ20 (QL Q)
            exact gj_fh (q22.1 c23) (And.intro (Or.inr rfl) (And.intro (Or.inr rfl) (And.intro (Or.inr rfl) (And.intro (Or.inr rfl) (And.intro (Or.inl rfl) (And.intro (Or.inr rfl) (And.intro (Or.inl rfl) (And.intro (Or.inr rfl) (And.intro (Or.inl rfl) (And.intro (Or.inl rfl) (And.intro (Or.inl rfl) (And.intro (Or.inl rfl) (And.intro (Or.inl rfl) trivial)))))))))))))
          · exact gj_fh (q22.2 c23) (And.intro (Or.inr rfl) (And.intro (Or.inr rfl) (And.intro (Or.inr rfl) (And.intro (Or.inr rfl) (And.intro (Or.inl rfl) (And.intro (Or.inr rfl) (And.intro (Or.inl rfl) (And.intro (Or.inr rfl) (And.intro (Or.inl rfl) (And.intro (Or.inl rfl) (And.intro (Or.inl rfl) (And.intro (Or.inl rfl) (And.intro (Or.inl rfl) trivial)))))))))))))
      · refine gj_goq gj_clT ok_257 [8, 29, 47, 65, 133, 136, 144] ?_
        show gj_Do E om0 (gj_mt 256) [(.ref 81), (.int x1), (.int (i3 2))] SI2 SJ2 _
        refine gj_Do.mono (q4.2 c5) (fun v_ SI22 SJ22 h_ => ?_)
        obtain ⟨r21, rfl, q24⟩ := h_
        show gj_Goes E om0 mt_257 47 [some (.ref 81), some (.int x1), some (.int x2), some (.long x3), none, some (.long x5), none, some (.int x7), some (.int r1), none, none, none, none] [(.int r21)] SI22 SJ22 (QL Q)
        refine gj_goq gj_clT ok_257 [8, 29, 47, 65, 133, 136, 144] ?_
        show ((i3 3) ≤ x7 → gj_Goes E om0 mt_257 61 [some (.ref 81), some (.int x1), some (.int x2), some (.long x3), none, some (.long x5), none, some (.int x7), some (.int r1), some (.int r21), none, none, none] [(.int x1), (.ref 81)] SI22 SJ22 (QL Q)) ∧ (¬ (i3 3) ≤ x7 → gj_Goes E om0 mt_257 62 [some (.ref 81), some (.int x1), some (.int x2), some (.long x3), none, some (.long x5), none, some (.int x7), some (.int r1), some (.int r21), none, none, none] [(.int (i3 3)), (.int x1), (.ref 81)] SI22 SJ22 (QL Q))
        refine ⟨fun c25 => ?_, fun c25 => ?_⟩
        · refine gj_goq gj_clT ok_257 [8, 29, 47, 65, 133, 136, 144] ?_
          show gj_Do E om0 (gj_mt 256) [(.ref 81), (.int x1), (.int (i3 2))] SI22 SJ22 _
          refine gj_Do.mono (q24.1 c25) (fun v_ SI24 SJ24 h_ => ?_)
          obtain ⟨r23, rfl, q26⟩ := h_
          show gj_Goes E om0 mt_257 65 [some (.ref 81), some (.int x1), some (.int x2), some (.long x3), none, some (.long x5), none, some (.int x7), some (.int r1), some (.int r21), none, none, none] [(.int r23)] SI24 SJ24 (QL Q)
          refine gj_goq gj_clT ok_257 [8, 29, 47, 65, 133, 136, 144] ?_
          show vp_in r1 16 ∧ (vp_in r1 16 ∧ (vp_in r1 16 ∧ (vp_in r21 16 ∧ (vp_in r21 16 ∧ (vp_in r21 16 ∧ (vp_in r23 16 ∧ (vp_in r23 16 ∧ (vp_in r23 16 ∧ (gj_Do E om0 (gj_mt 221) [(.long (SJ24 85 (gj_n r1))), (.long (SJ24 86 (gj_n r1))), (.long (SJ24 87 (gj_n r1))), (.long (SJ24 85 (gj_n r21))), (.long (SJ24 86 (gj_n r21))), (.long (SJ24 87 (gj_n r21))), (.long (SJ24 85 (gj_n r23))), (.long (SJ24 86 (gj_n r23))), (.long (SJ24 87 (gj_n r23)))] SI24 SJ24 _)))))))))
          have k27 := q26.1
          refine ⟨k27, ?_⟩
          refine ⟨k27, ?_⟩
          refine ⟨k27, ?_⟩
          have k28 := q26.2.1
          refine ⟨k28, ?_⟩
          refine ⟨k28, ?_⟩
          refine ⟨k28, ?_⟩
          have k29 := q26.2.2.1
          refine ⟨k29, ?_⟩
          refine ⟨k29, ?_⟩
          refine ⟨k29, ?_⟩
          refine gj_Do.mono q26.2.2.2 (fun v_ SI26 SJ26 h_ => ?_)
          obtain ⟨r25, rfl, q30⟩ := h_
          show gj_Goes E om0 mt_257 133 [some (.ref 81), some (.int x1), some (.int x2), some (.long x3), none, some (.long x5), none, some (.int x7), some (.int r1), some (.int r21), some (.int r23), none, none] [(.long r25)] SI26 SJ26 (QL Q)
          refine gj_goq gj_clT ok_257 [8, 29, 47, 65, 133, 136, 144] ?_
          show gj_Do E om0 (gj_mt 158) [(.long r25)] SI26 SJ26 _
          refine gj_Do.mono q30 (fun v_ SI28 SJ28 h_ => ?_)
          obtain ⟨r27, rfl, q31⟩ := h_
          show gj_Goes E om0 mt_257 136 [some (.ref 81), some (.int x1), some (.int x2), some (.long x3), none, some (.long x5), none, some (.int x7), some (.int r1), some (.int r21), some (.int r23), none, none] [(.long r27)] SI28 SJ28 (QL Q)
          refine gj_goq gj_clT ok_257 [8, 29, 47, 65, 133, 136, 144] ?_
          show gj_Do E om0 (gj_mt 161) [(.long x3), (.long r27)] SI28 SJ28 _
          refine gj_Do.mono q31 (fun v_ SI30 SJ30 h_ => ?_)
          obtain ⟨r29, rfl, q32⟩ := h_
          show gj_Goes E om0 mt_257 144 [some (.ref 81), some (.int x1), some (.int x2), some (.long x3), none, some (.long x5), none, some (.int x7), some (.int r1), some (.int r21), some (.int r23), some (.long r27), none] [(.long r29)] SI30 SJ30 (QL Q)
          refine gj_goq gj_clT ok_257 [8, 29, 47, 65, 133, 136, 144] ?_
          show (¬ x7 = x2 → gj_Goes E om0 mt_257 155 [some (.ref 81), some (.int x1), some (.int x2), some (.long r29), none, some (.long x5), none, some (.int x7), some (.int r1), some (.int r21), some (.int r23), some (.long r27), none] [] SI30 SJ30 (QL Q)) ∧ (x7 = x2 → gj_Goes E om0 mt_257 8 [some (.ref 81), some (.int x1), some (.int x2), some (.long r29), none, some (.long r27), none, some (.int (x7 + (i3 1))), some (.int r1), some (.int r21), some (.int r23), some (.long r27), none] [] SI30 SJ30 (QL Q))
          refine ⟨fun c33 => ?_, fun c33 => ?_⟩
          · refine gj_goq gj_clT ok_257 [8, 29, 47, 65, 133, 136, 144] ?_
            show gj_Goes E om0 mt_257 8 [some (.ref 81), some (.int x1), some (.int x2), some (.long r29), none, some (.long x5), none, some (.int (x7 + (i3 1))), some (.int r1), some (.int r21), some (.int r23), some (.long r27), none] [] SI30 SJ30 (QL Q)
            exact gj_fh (q32.1 c33) (And.intro (Or.inr rfl) (And.intro (Or.inr rfl) (And.intro (Or.inr rfl) (And.intro (Or.inr rfl) (And.intro (Or.inl rfl) (And.intro (Or.inr rfl) (And.intro (Or.inl rfl) (And.intro (Or.inr rfl) (And.intro (Or.inl rfl) (And.intro (Or.inl rfl) (And.intro (Or.inl rfl) (And.intro (Or.inl rfl) (And.intro (Or.inl rfl) trivial)))))))))))))
          · exact gj_fh (q32.2 c33) (And.intro (Or.inr rfl) (And.intro (Or.inr rfl) (And.intro (Or.inr rfl) (And.intro (Or.inr rfl) (And.intro (Or.inl rfl) (And.intro (Or.inr rfl) (And.intro (Or.inl rfl) (And.intro (Or.inr rfl) (And.intro (Or.inl rfl) (And.intro (Or.inl rfl) (And.intro (Or.inl rfl) (And.intro (Or.inl rfl) (And.intro (Or.inl rfl) trivial)))))))))))))
        · refine gj_goq gj_clT ok_257 [8, 29, 47, 65, 133, 136, 144] ?_
          show gj_Do E om0 (gj_mt 256) [(.ref 81), (.int x1), (.int (i3 3))] SI22 SJ22 _
          refine gj_Do.mono (q24.2 c25) (fun v_ SI32 SJ32 h_ => ?_)
          obtain ⟨r31, rfl, q34⟩ := h_
          show gj_Goes E om0 mt_257 65 [some (.ref 81), some (.int x1), some (.int x2), some (.long x3), none, some (.long x5), none, some (.int x7), some (.int r1), some (.int r21), none, none, none] [(.int r31)] SI32 SJ32 (QL Q)
          refine gj_goq gj_clT ok_257 [8, 29, 47, 65, 133, 136, 144] ?_
          show vp_in r1 16 ∧ (vp_in r1 16 ∧ (vp_in r1 16 ∧ (vp_in r21 16 ∧ (vp_in r21 16 ∧ (vp_in r21 16 ∧ (vp_in r31 16 ∧ (vp_in r31 16 ∧ (vp_in r31 16 ∧ (gj_Do E om0 (gj_mt 221) [(.long (SJ32 85 (gj_n r1))), (.long (SJ32 86 (gj_n r1))), (.long (SJ32 87 (gj_n r1))), (.long (SJ32 85 (gj_n r21))), (.long (SJ32 86 (gj_n r21))), (.long (SJ32 87 (gj_n r21))), (.long (SJ32 85 (gj_n r31))), (.long (SJ32 86 (gj_n r31))), (.long (SJ32 87 (gj_n r31)))] SI32 SJ32 _)))))))))
          have k35 := q34.1
          refine ⟨k35, ?_⟩
          refine ⟨k35, ?_⟩
          refine ⟨k35, ?_⟩
          have k36 := q34.2.1
          refine ⟨k36, ?_⟩
          refine ⟨k36, ?_⟩
          refine ⟨k36, ?_⟩
          have k37 := q34.2.2.1
          refine ⟨k37, ?_⟩
          refine ⟨k37, ?_⟩
          refine ⟨k37, ?_⟩
          refine gj_Do.mono q34.2.2.2 (fun v_ SI34 SJ34 h_ => ?_)
          obtain ⟨r33, rfl, q38⟩ := h_
          show gj_Goes E om0 mt_257 133 [some (.ref 81), some (.int x1), some (.int x2), some (.long x3), none, some (.long x5), none, some (.int x7), some (.int r1), some (.int r21), some (.int r31), none, none] [(.long r33)] SI34 SJ34 (QL Q)
          refine gj_goq gj_clT ok_257 [8, 29, 47, 65, 133, 136, 144] ?_
          show gj_Do E om0 (gj_mt 158) [(.long r33)] SI34 SJ34 _
          refine gj_Do.mono q38 (fun v_ SI36 SJ36 h_ => ?_)
          obtain ⟨r35, rfl, q39⟩ := h_
          show gj_Goes E om0 mt_257 136 [some (.ref 81), some (.int x1), some (.int x2), some (.long x3), none, some (.long x5), none, some (.int x7), some (.int r1), some (.int r21), some (.int r31), none, none] [(.long r35)] SI36 SJ36 (QL Q)
          refine gj_goq gj_clT ok_257 [8, 29, 47, 65, 133, 136, 144] ?_
          show gj_Do E om0 (gj_mt 161) [(.long x3), (.long r35)] SI36 SJ36 _
          refine gj_Do.mono q39 (fun v_ SI38 SJ38 h_ => ?_)
          obtain ⟨r37, rfl, q40⟩ := h_
          show gj_Goes E om0 mt_257 144 [some (.ref 81), some (.int x1), some (.int x2), some (.long x3), none, some (.long x5), none, some (.int x7), some (.int r1), some (.int r21), some (.int r31), some (.long r35), none] [(.long r37)] SI38 SJ38 (QL Q)
          refine gj_goq gj_clT ok_257 [8, 29, 47, 65, 133, 136, 144] ?_
          show (¬ x7 = x2 → gj_Goes E om0 mt_257 155 [some (.ref 81), some (.int x1), some (.int x2), some (.long r37), none, some (.long x5), none, some (.int x7), some (.int r1), some (.int r21), some (.int r31), some (.long r35), none] [] SI38 SJ38 (QL Q)) ∧ (x7 = x2 → gj_Goes E om0 mt_257 8 [some (.ref 81), some (.int x1), some (.int x2), some (.long r37), none, some (.long r35), none, some (.int (x7 + (i3 1))), some (.int r1), some (.int r21), some (.int r31), some (.long r35), none] [] SI38 SJ38 (QL Q))
          refine ⟨fun c41 => ?_, fun c41 => ?_⟩
          · refine gj_goq gj_clT ok_257 [8, 29, 47, 65, 133, 136, 144] ?_
            show gj_Goes E om0 mt_257 8 [some (.ref 81), some (.int x1), some (.int x2), some (.long r37), none, some (.long x5), none, some (.int (x7 + (i3 1))), some (.int r1), some (.int r21), some (.int r31), some (.long r35), none] [] SI38 SJ38 (QL Q)
            exact gj_fh (q40.1 c41) (And.intro (Or.inr rfl) (And.intro (Or.inr rfl) (And.intro (Or.inr rfl) (And.intro (Or.inr rfl) (And.intro (Or.inl rfl) (And.intro (Or.inr rfl) (And.intro (Or.inl rfl) (And.intro (Or.inr rfl) (And.intro (Or.inl rfl) (And.intro (Or.inl rfl) (And.intro (Or.inl rfl) (And.intro (Or.inl rfl) (And.intro (Or.inl rfl) trivial)))))))))))))
          · exact gj_fh (q40.2 c41) (And.intro (Or.inr rfl) (And.intro (Or.inr rfl) (And.intro (Or.inr rfl) (And.intro (Or.inr rfl) (And.intro (Or.inl rfl) (And.intro (Or.inr rfl) (And.intro (Or.inl rfl) (And.intro (Or.inr rfl) (And.intro (Or.inl rfl) (And.intro (Or.inl rfl) (And.intro (Or.inl rfl) (And.intro (Or.inl rfl) (And.intro (Or.inl rfl) trivial)))))))))))))
    · refine gj_goq gj_clT ok_257 [8, 29, 47, 65, 133, 136, 144] ?_
      show gj_Do E om0 (gj_mt 256) [(.ref 81), (.int x1), (.int (i3 1))] SI SJ _
      refine gj_Do.mono ((h.2 c1).2 c3) (fun v_ SI40 SJ40 h_ => ?_)
      obtain ⟨r39, rfl, q42⟩ := h_
      show gj_Goes E om0 mt_257 29 [some (.ref 81), some (.int x1), some (.int x2), some (.long x3), none, some (.long x5), none, some (.int x7), none, none, none, none, none] [(.int r39)] SI40 SJ40 (QL Q)
      refine gj_goq gj_clT ok_257 [8, 29, 47, 65, 133, 136, 144] ?_
      show ((i3 2) ≤ x7 → gj_Goes E om0 mt_257 43 [some (.ref 81), some (.int x1), some (.int x2), some (.long x3), none, some (.long x5), none, some (.int x7), some (.int r39), none, none, none, none] [(.int x1), (.ref 81)] SI40 SJ40 (QL Q)) ∧ (¬ (i3 2) ≤ x7 → gj_Goes E om0 mt_257 44 [some (.ref 81), some (.int x1), some (.int x2), some (.long x3), none, some (.long x5), none, some (.int x7), some (.int r39), none, none, none, none] [(.int (i3 2)), (.int x1), (.ref 81)] SI40 SJ40 (QL Q))
      refine ⟨fun c43 => ?_, fun c43 => ?_⟩
      · refine gj_goq gj_clT ok_257 [8, 29, 47, 65, 133, 136, 144] ?_
        show gj_Do E om0 (gj_mt 256) [(.ref 81), (.int x1), (.int (i3 1))] SI40 SJ40 _
        refine gj_Do.mono (q42.1 c43) (fun v_ SI42 SJ42 h_ => ?_)
        obtain ⟨r41, rfl, q44⟩ := h_
        show gj_Goes E om0 mt_257 47 [some (.ref 81), some (.int x1), some (.int x2), some (.long x3), none, some (.long x5), none, some (.int x7), some (.int r39), none, none, none, none] [(.int r41)] SI42 SJ42 (QL Q)
        refine gj_goq gj_clT ok_257 [8, 29, 47, 65, 133, 136, 144] ?_
        show ((i3 3) ≤ x7 → gj_Goes E om0 mt_257 61 [some (.ref 81), some (.int x1), some (.int x2), some (.long x3), none, some (.long x5), none, some (.int x7), some (.int r39), some (.int r41), none, none, none] [(.int x1), (.ref 81)] SI42 SJ42 (QL Q)) ∧ (¬ (i3 3) ≤ x7 → gj_Goes E om0 mt_257 62 [some (.ref 81), some (.int x1), some (.int x2), some (.long x3), none, some (.long x5), none, some (.int x7), some (.int r39), some (.int r41), none, none, none] [(.int (i3 3)), (.int x1), (.ref 81)] SI42 SJ42 (QL Q))
        refine ⟨fun c45 => ?_, fun c45 => ?_⟩
        · refine gj_goq gj_clT ok_257 [8, 29, 47, 65, 133, 136, 144] ?_
          show gj_Do E om0 (gj_mt 256) [(.ref 81), (.int x1), (.int (i3 2))] SI42 SJ42 _
          refine gj_Do.mono (q44.1 c45) (fun v_ SI44 SJ44 h_ => ?_)
          obtain ⟨r43, rfl, q46⟩ := h_
          show gj_Goes E om0 mt_257 65 [some (.ref 81), some (.int x1), some (.int x2), some (.long x3), none, some (.long x5), none, some (.int x7), some (.int r39), some (.int r41), none, none, none] [(.int r43)] SI44 SJ44 (QL Q)
          refine gj_goq gj_clT ok_257 [8, 29, 47, 65, 133, 136, 144] ?_
          show vp_in r39 16 ∧ (vp_in r39 16 ∧ (vp_in r39 16 ∧ (vp_in r41 16 ∧ (vp_in r41 16 ∧ (vp_in r41 16 ∧ (vp_in r43 16 ∧ (vp_in r43 16 ∧ (vp_in r43 16 ∧ (gj_Do E om0 (gj_mt 221) [(.long (SJ44 85 (gj_n r39))), (.long (SJ44 86 (gj_n r39))), (.long (SJ44 87 (gj_n r39))), (.long (SJ44 85 (gj_n r41))), (.long (SJ44 86 (gj_n r41))), (.long (SJ44 87 (gj_n r41))), (.long (SJ44 85 (gj_n r43))), (.long (SJ44 86 (gj_n r43))), (.long (SJ44 87 (gj_n r43)))] SI44 SJ44 _)))))))))
          have k47 := q46.1
          refine ⟨k47, ?_⟩
          refine ⟨k47, ?_⟩
          refine ⟨k47, ?_⟩
          have k48 := q46.2.1
          refine ⟨k48, ?_⟩
          refine ⟨k48, ?_⟩
          refine ⟨k48, ?_⟩
          have k49 := q46.2.2.1
          refine ⟨k49, ?_⟩
          refine ⟨k49, ?_⟩
          refine ⟨k49, ?_⟩
          refine gj_Do.mono q46.2.2.2 (fun v_ SI46 SJ46 h_ => ?_)
          obtain ⟨r45, rfl, q50⟩ := h_
          show gj_Goes E om0 mt_257 133 [some (.ref 81), some (.int x1), some (.int x2), some (.long x3), none, some (.long x5), none, some (.int x7), some (.int r39), some (.int r41), some (.int r43), none, none] [(.long r45)] SI46 SJ46 (QL Q)
          refine gj_goq gj_clT ok_257 [8, 29, 47, 65, 133, 136, 144] ?_
          show gj_Do E om0 (gj_mt 158) [(.long r45)] SI46 SJ46 _
          refine gj_Do.mono q50 (fun v_ SI48 SJ48 h_ => ?_)
          obtain ⟨r47, rfl, q51⟩ := h_
          show gj_Goes E om0 mt_257 136 [some (.ref 81), some (.int x1), some (.int x2), some (.long x3), none, some (.long x5), none, some (.int x7), some (.int r39), some (.int r41), some (.int r43), none, none] [(.long r47)] SI48 SJ48 (QL Q)
          refine gj_goq gj_clT ok_257 [8, 29, 47, 65, 133, 136, 144] ?_
          show gj_Do E om0 (gj_mt 161) [(.long x3), (.long r47)] SI48 SJ48 _
          refine gj_Do.mono q51 (fun v_ SI50 SJ50 h_ => ?_)
          obtain ⟨r49, rfl, q52⟩ := h_
          show gj_Goes E om0 mt_257 144 [some (.ref 81), some (.int x1), some (.int x2), some (.long x3), none, some (.long x5), none, some (.int x7), some (.int r39), some (.int r41), some (.int r43), some (.long r47), none] [(.long r49)] SI50 SJ50 (QL Q)
          refine gj_goq gj_clT ok_257 [8, 29, 47, 65, 133, 136, 144] ?_
          show (¬ x7 = x2 → gj_Goes E om0 mt_257 155 [some (.ref 81), some (.int x1), some (.int x2), some (.long r49), none, some (.long x5), none, some (.int x7), some (.int r39), some (.int r41), some (.int r43), some (.long r47), none] [] SI50 SJ50 (QL Q)) ∧ (x7 = x2 → gj_Goes E om0 mt_257 8 [some (.ref 81), some (.int x1), some (.int x2), some (.long r49), none, some (.long r47), none, some (.int (x7 + (i3 1))), some (.int r39), some (.int r41), some (.int r43), some (.long r47), none] [] SI50 SJ50 (QL Q))
          refine ⟨fun c53 => ?_, fun c53 => ?_⟩
          · refine gj_goq gj_clT ok_257 [8, 29, 47, 65, 133, 136, 144] ?_
            show gj_Goes E om0 mt_257 8 [some (.ref 81), some (.int x1), some (.int x2), some (.long r49), none, some (.long x5), none, some (.int (x7 + (i3 1))), some (.int r39), some (.int r41), some (.int r43), some (.long r47), none] [] SI50 SJ50 (QL Q)
            exact gj_fh (q52.1 c53) (And.intro (Or.inr rfl) (And.intro (Or.inr rfl) (And.intro (Or.inr rfl) (And.intro (Or.inr rfl) (And.intro (Or.inl rfl) (And.intro (Or.inr rfl) (And.intro (Or.inl rfl) (And.intro (Or.inr rfl) (And.intro (Or.inl rfl) (And.intro (Or.inl rfl) (And.intro (Or.inl rfl) (And.intro (Or.inl rfl) (And.intro (Or.inl rfl) trivial)))))))))))))
          · exact gj_fh (q52.2 c53) (And.intro (Or.inr rfl) (And.intro (Or.inr rfl) (And.intro (Or.inr rfl) (And.intro (Or.inr rfl) (And.intro (Or.inl rfl) (And.intro (Or.inr rfl) (And.intro (Or.inl rfl) (And.intro (Or.inr rfl) (And.intro (Or.inl rfl) (And.intro (Or.inl rfl) (And.intro (Or.inl rfl) (And.intro (Or.inl rfl) (And.intro (Or.inl rfl) trivial)))))))))))))
        · refine gj_goq gj_clT ok_257 [8, 29, 47, 65, 133, 136, 144] ?_
          show gj_Do E om0 (gj_mt 256) [(.ref 81), (.int x1), (.int (i3 3))] SI42 SJ42 _
          refine gj_Do.mono (q44.2 c45) (fun v_ SI52 SJ52 h_ => ?_)
          obtain ⟨r51, rfl, q54⟩ := h_
          show gj_Goes E om0 mt_257 65 [some (.ref 81), some (.int x1), some (.int x2), some (.long x3), none, some (.long x5), none, some (.int x7), some (.int r39), some (.int r41), none, none, none] [(.int r51)] SI52 SJ52 (QL Q)
          refine gj_goq gj_clT ok_257 [8, 29, 47, 65, 133, 136, 144] ?_
          show vp_in r39 16 ∧ (vp_in r39 16 ∧ (vp_in r39 16 ∧ (vp_in r41 16 ∧ (vp_in r41 16 ∧ (vp_in r41 16 ∧ (vp_in r51 16 ∧ (vp_in r51 16 ∧ (vp_in r51 16 ∧ (gj_Do E om0 (gj_mt 221) [(.long (SJ52 85 (gj_n r39))), (.long (SJ52 86 (gj_n r39))), (.long (SJ52 87 (gj_n r39))), (.long (SJ52 85 (gj_n r41))), (.long (SJ52 86 (gj_n r41))), (.long (SJ52 87 (gj_n r41))), (.long (SJ52 85 (gj_n r51))), (.long (SJ52 86 (gj_n r51))), (.long (SJ52 87 (gj_n r51)))] SI52 SJ52 _)))))))))
          have k55 := q54.1
          refine ⟨k55, ?_⟩
          refine ⟨k55, ?_⟩
          refine ⟨k55, ?_⟩
          have k56 := q54.2.1
          refine ⟨k56, ?_⟩
          refine ⟨k56, ?_⟩
          refine ⟨k56, ?_⟩
          have k57 := q54.2.2.1
          refine ⟨k57, ?_⟩
          refine ⟨k57, ?_⟩
          refine ⟨k57, ?_⟩
          refine gj_Do.mono q54.2.2.2 (fun v_ SI54 SJ54 h_ => ?_)
          obtain ⟨r53, rfl, q58⟩ := h_
          show gj_Goes E om0 mt_257 133 [some (.ref 81), some (.int x1), some (.int x2), some (.long x3), none, some (.long x5), none, some (.int x7), some (.int r39), some (.int r41), some (.int r51), none, none] [(.long r53)] SI54 SJ54 (QL Q)
          refine gj_goq gj_clT ok_257 [8, 29, 47, 65, 133, 136, 144] ?_
          show gj_Do E om0 (gj_mt 158) [(.long r53)] SI54 SJ54 _
          refine gj_Do.mono q58 (fun v_ SI56 SJ56 h_ => ?_)
          obtain ⟨r55, rfl, q59⟩ := h_
          show gj_Goes E om0 mt_257 136 [some (.ref 81), some (.int x1), some (.int x2), some (.long x3), none, some (.long x5), none, some (.int x7), some (.int r39), some (.int r41), some (.int r51), none, none] [(.long r55)] SI56 SJ56 (QL Q)
          refine gj_goq gj_clT ok_257 [8, 29, 47, 65, 133, 136, 144] ?_
          show gj_Do E om0 (gj_mt 161) [(.long x3), (.long r55)] SI56 SJ56 _
          refine gj_Do.mono q59 (fun v_ SI58 SJ58 h_ => ?_)
          obtain ⟨r57, rfl, q60⟩ := h_
          show gj_Goes E om0 mt_257 144 [some (.ref 81), some (.int x1), some (.int x2), some (.long x3), none, some (.long x5), none, some (.int x7), some (.int r39), some (.int r41), some (.int r51), some (.long r55), none] [(.long r57)] SI58 SJ58 (QL Q)
          refine gj_goq gj_clT ok_257 [8, 29, 47, 65, 133, 136, 144] ?_
          show (¬ x7 = x2 → gj_Goes E om0 mt_257 155 [some (.ref 81), some (.int x1), some (.int x2), some (.long r57), none, some (.long x5), none, some (.int x7), some (.int r39), some (.int r41), some (.int r51), some (.long r55), none] [] SI58 SJ58 (QL Q)) ∧ (x7 = x2 → gj_Goes E om0 mt_257 8 [some (.ref 81), some (.int x1), some (.int x2), some (.long r57), none, some (.long r55), none, some (.int (x7 + (i3 1))), some (.int r39), some (.int r41), some (.int r51), some (.long r55), none] [] SI58 SJ58 (QL Q))
          refine ⟨fun c61 => ?_, fun c61 => ?_⟩
          · refine gj_goq gj_clT ok_257 [8, 29, 47, 65, 133, 136, 144] ?_
            show gj_Goes E om0 mt_257 8 [some (.ref 81), some (.int x1), some (.int x2), some (.long r57), none, some (.long x5), none, some (.int (x7 + (i3 1))), some (.int r39), some (.int r41), some (.int r51), some (.long r55), none] [] SI58 SJ58 (QL Q)
            exact gj_fh (q60.1 c61) (And.intro (Or.inr rfl) (And.intro (Or.inr rfl) (And.intro (Or.inr rfl) (And.intro (Or.inr rfl) (And.intro (Or.inl rfl) (And.intro (Or.inr rfl) (And.intro (Or.inl rfl) (And.intro (Or.inr rfl) (And.intro (Or.inl rfl) (And.intro (Or.inl rfl) (And.intro (Or.inl rfl) (And.intro (Or.inl rfl) (And.intro (Or.inl rfl) trivial)))))))))))))
          · exact gj_fh (q60.2 c61) (And.intro (Or.inr rfl) (And.intro (Or.inr rfl) (And.intro (Or.inr rfl) (And.intro (Or.inr rfl) (And.intro (Or.inl rfl) (And.intro (Or.inr rfl) (And.intro (Or.inl rfl) (And.intro (Or.inr rfl) (And.intro (Or.inl rfl) (And.intro (Or.inl rfl) (And.intro (Or.inl rfl) (And.intro (Or.inl rfl) (And.intro (Or.inl rfl) trivial)))))))))))))
      · refine gj_goq gj_clT ok_257 [8, 29, 47, 65, 133, 136, 144] ?_
        show gj_Do E om0 (gj_mt 256) [(.ref 81), (.int x1), (.int (i3 2))] SI40 SJ40 _
        refine gj_Do.mono (q42.2 c43) (fun v_ SI60 SJ60 h_ => ?_)
        obtain ⟨r59, rfl, q62⟩ := h_
        show gj_Goes E om0 mt_257 47 [some (.ref 81), some (.int x1), some (.int x2), some (.long x3), none, some (.long x5), none, some (.int x7), some (.int r39), none, none, none, none] [(.int r59)] SI60 SJ60 (QL Q)
        refine gj_goq gj_clT ok_257 [8, 29, 47, 65, 133, 136, 144] ?_
        show ((i3 3) ≤ x7 → gj_Goes E om0 mt_257 61 [some (.ref 81), some (.int x1), some (.int x2), some (.long x3), none, some (.long x5), none, some (.int x7), some (.int r39), some (.int r59), none, none, none] [(.int x1), (.ref 81)] SI60 SJ60 (QL Q)) ∧ (¬ (i3 3) ≤ x7 → gj_Goes E om0 mt_257 62 [some (.ref 81), some (.int x1), some (.int x2), some (.long x3), none, some (.long x5), none, some (.int x7), some (.int r39), some (.int r59), none, none, none] [(.int (i3 3)), (.int x1), (.ref 81)] SI60 SJ60 (QL Q))
        refine ⟨fun c63 => ?_, fun c63 => ?_⟩
        · refine gj_goq gj_clT ok_257 [8, 29, 47, 65, 133, 136, 144] ?_
          show gj_Do E om0 (gj_mt 256) [(.ref 81), (.int x1), (.int (i3 2))] SI60 SJ60 _
          refine gj_Do.mono (q62.1 c63) (fun v_ SI62 SJ62 h_ => ?_)
          obtain ⟨r61, rfl, q64⟩ := h_
          show gj_Goes E om0 mt_257 65 [some (.ref 81), some (.int x1), some (.int x2), some (.long x3), none, some (.long x5), none, some (.int x7), some (.int r39), some (.int r59), none, none, none] [(.int r61)] SI62 SJ62 (QL Q)
          refine gj_goq gj_clT ok_257 [8, 29, 47, 65, 133, 136, 144] ?_
          show vp_in r39 16 ∧ (vp_in r39 16 ∧ (vp_in r39 16 ∧ (vp_in r59 16 ∧ (vp_in r59 16 ∧ (vp_in r59 16 ∧ (vp_in r61 16 ∧ (vp_in r61 16 ∧ (vp_in r61 16 ∧ (gj_Do E om0 (gj_mt 221) [(.long (SJ62 85 (gj_n r39))), (.long (SJ62 86 (gj_n r39))), (.long (SJ62 87 (gj_n r39))), (.long (SJ62 85 (gj_n r59))), (.long (SJ62 86 (gj_n r59))), (.long (SJ62 87 (gj_n r59))), (.long (SJ62 85 (gj_n r61))), (.long (SJ62 86 (gj_n r61))), (.long (SJ62 87 (gj_n r61)))] SI62 SJ62 _)))))))))
          have k65 := q64.1
          refine ⟨k65, ?_⟩
          refine ⟨k65, ?_⟩
          refine ⟨k65, ?_⟩
          have k66 := q64.2.1
          refine ⟨k66, ?_⟩
          refine ⟨k66, ?_⟩
          refine ⟨k66, ?_⟩
          have k67 := q64.2.2.1
          refine ⟨k67, ?_⟩
          refine ⟨k67, ?_⟩
          refine ⟨k67, ?_⟩
          refine gj_Do.mono q64.2.2.2 (fun v_ SI64 SJ64 h_ => ?_)
          obtain ⟨r63, rfl, q68⟩ := h_
          show gj_Goes E om0 mt_257 133 [some (.ref 81), some (.int x1), some (.int x2), some (.long x3), none, some (.long x5), none, some (.int x7), some (.int r39), some (.int r59), some (.int r61), none, none] [(.long r63)] SI64 SJ64 (QL Q)
          refine gj_goq gj_clT ok_257 [8, 29, 47, 65, 133, 136, 144] ?_
          show gj_Do E om0 (gj_mt 158) [(.long r63)] SI64 SJ64 _
          refine gj_Do.mono q68 (fun v_ SI66 SJ66 h_ => ?_)
          obtain ⟨r65, rfl, q69⟩ := h_
          show gj_Goes E om0 mt_257 136 [some (.ref 81), some (.int x1), some (.int x2), some (.long x3), none, some (.long x5), none, some (.int x7), some (.int r39), some (.int r59), some (.int r61), none, none] [(.long r65)] SI66 SJ66 (QL Q)
          refine gj_goq gj_clT ok_257 [8, 29, 47, 65, 133, 136, 144] ?_
          show gj_Do E om0 (gj_mt 161) [(.long x3), (.long r65)] SI66 SJ66 _
          refine gj_Do.mono q69 (fun v_ SI68 SJ68 h_ => ?_)
          obtain ⟨r67, rfl, q70⟩ := h_
          show gj_Goes E om0 mt_257 144 [some (.ref 81), some (.int x1), some (.int x2), some (.long x3), none, some (.long x5), none, some (.int x7), some (.int r39), some (.int r59), some (.int r61), some (.long r65), none] [(.long r67)] SI68 SJ68 (QL Q)
          refine gj_goq gj_clT ok_257 [8, 29, 47, 65, 133, 136, 144] ?_
          show (¬ x7 = x2 → gj_Goes E om0 mt_257 155 [some (.ref 81), some (.int x1), some (.int x2), some (.long r67), none, some (.long x5), none, some (.int x7), some (.int r39), some (.int r59), some (.int r61), some (.long r65), none] [] SI68 SJ68 (QL Q)) ∧ (x7 = x2 → gj_Goes E om0 mt_257 8 [some (.ref 81), some (.int x1), some (.int x2), some (.long r67), none, some (.long r65), none, some (.int (x7 + (i3 1))), some (.int r39), some (.int r59), some (.int r61), some (.long r65), none] [] SI68 SJ68 (QL Q))
          refine ⟨fun c71 => ?_, fun c71 => ?_⟩
          · refine gj_goq gj_clT ok_257 [8, 29, 47, 65, 133, 136, 144] ?_
            show gj_Goes E om0 mt_257 8 [some (.ref 81), some (.int x1), some (.int x2), some (.long r67), none, some (.long x5), none, some (.int (x7 + (i3 1))), some (.int r39), some (.int r59), some (.int r61), some (.long r65), none] [] SI68 SJ68 (QL Q)
            exact gj_fh (q70.1 c71) (And.intro (Or.inr rfl) (And.intro (Or.inr rfl) (And.intro (Or.inr rfl) (And.intro (Or.inr rfl) (And.intro (Or.inl rfl) (And.intro (Or.inr rfl) (And.intro (Or.inl rfl) (And.intro (Or.inr rfl) (And.intro (Or.inl rfl) (And.intro (Or.inl rfl) (And.intro (Or.inl rfl) (And.intro (Or.inl rfl) (And.intro (Or.inl rfl) trivial)))))))))))))
          · exact gj_fh (q70.2 c71) (And.intro (Or.inr rfl) (And.intro (Or.inr rfl) (And.intro (Or.inr rfl) (And.intro (Or.inr rfl) (And.intro (Or.inl rfl) (And.intro (Or.inr rfl) (And.intro (Or.inl rfl) (And.intro (Or.inr rfl) (And.intro (Or.inl rfl) (And.intro (Or.inl rfl) (And.intro (Or.inl rfl) (And.intro (Or.inl rfl) (And.intro (Or.inl rfl) trivial)))))))))))))
        · refine gj_goq gj_clT ok_257 [8, 29, 47, 65, 133, 136, 144] ?_
          show gj_Do E om0 (gj_mt 256) [(.ref 81), (.int x1), (.int (i3 3))] SI60 SJ60 _
          refine gj_Do.mono (q62.2 c63) (fun v_ SI70 SJ70 h_ => ?_)
          obtain ⟨r69, rfl, q72⟩ := h_
          show gj_Goes E om0 mt_257 65 [some (.ref 81), some (.int x1), some (.int x2), some (.long x3), none, some (.long x5), none, some (.int x7), some (.int r39), some (.int r59), none, none, none] [(.int r69)] SI70 SJ70 (QL Q)
          refine gj_goq gj_clT ok_257 [8, 29, 47, 65, 133, 136, 144] ?_
          show vp_in r39 16 ∧ (vp_in r39 16 ∧ (vp_in r39 16 ∧ (vp_in r59 16 ∧ (vp_in r59 16 ∧ (vp_in r59 16 ∧ (vp_in r69 16 ∧ (vp_in r69 16 ∧ (vp_in r69 16 ∧ (gj_Do E om0 (gj_mt 221) [(.long (SJ70 85 (gj_n r39))), (.long (SJ70 86 (gj_n r39))), (.long (SJ70 87 (gj_n r39))), (.long (SJ70 85 (gj_n r59))), (.long (SJ70 86 (gj_n r59))), (.long (SJ70 87 (gj_n r59))), (.long (SJ70 85 (gj_n r69))), (.long (SJ70 86 (gj_n r69))), (.long (SJ70 87 (gj_n r69)))] SI70 SJ70 _)))))))))
          have k73 := q72.1
          refine ⟨k73, ?_⟩
          refine ⟨k73, ?_⟩
          refine ⟨k73, ?_⟩
          have k74 := q72.2.1
          refine ⟨k74, ?_⟩
          refine ⟨k74, ?_⟩
          refine ⟨k74, ?_⟩
          have k75 := q72.2.2.1
          refine ⟨k75, ?_⟩
          refine ⟨k75, ?_⟩
          refine ⟨k75, ?_⟩
          refine gj_Do.mono q72.2.2.2 (fun v_ SI72 SJ72 h_ => ?_)
          obtain ⟨r71, rfl, q76⟩ := h_
          show gj_Goes E om0 mt_257 133 [some (.ref 81), some (.int x1), some (.int x2), some (.long x3), none, some (.long x5), none, some (.int x7), some (.int r39), some (.int r59), some (.int r69), none, none] [(.long r71)] SI72 SJ72 (QL Q)
          refine gj_goq gj_clT ok_257 [8, 29, 47, 65, 133, 136, 144] ?_
          show gj_Do E om0 (gj_mt 158) [(.long r71)] SI72 SJ72 _
          refine gj_Do.mono q76 (fun v_ SI74 SJ74 h_ => ?_)
          obtain ⟨r73, rfl, q77⟩ := h_
          show gj_Goes E om0 mt_257 136 [some (.ref 81), some (.int x1), some (.int x2), some (.long x3), none, some (.long x5), none, some (.int x7), some (.int r39), some (.int r59), some (.int r69), none, none] [(.long r73)] SI74 SJ74 (QL Q)
          refine gj_goq gj_clT ok_257 [8, 29, 47, 65, 133, 136, 144] ?_
          show gj_Do E om0 (gj_mt 161) [(.long x3), (.long r73)] SI74 SJ74 _
          refine gj_Do.mono q77 (fun v_ SI76 SJ76 h_ => ?_)
          obtain ⟨r75, rfl, q78⟩ := h_
          show gj_Goes E om0 mt_257 144 [some (.ref 81), some (.int x1), some (.int x2), some (.long x3), none, some (.long x5), none, some (.int x7), some (.int r39), some (.int r59), some (.int r69), some (.long r73), none] [(.long r75)] SI76 SJ76 (QL Q)
          refine gj_goq gj_clT ok_257 [8, 29, 47, 65, 133, 136, 144] ?_
          show (¬ x7 = x2 → gj_Goes E om0 mt_257 155 [some (.ref 81), some (.int x1), some (.int x2), some (.long r75), none, some (.long x5), none, some (.int x7), some (.int r39), some (.int r59), some (.int r69), some (.long r73), none] [] SI76 SJ76 (QL Q)) ∧ (x7 = x2 → gj_Goes E om0 mt_257 8 [some (.ref 81), some (.int x1), some (.int x2), some (.long r75), none, some (.long r73), none, some (.int (x7 + (i3 1))), some (.int r39), some (.int r59), some (.int r69), some (.long r73), none] [] SI76 SJ76 (QL Q))
          refine ⟨fun c79 => ?_, fun c79 => ?_⟩
          · refine gj_goq gj_clT ok_257 [8, 29, 47, 65, 133, 136, 144] ?_
            show gj_Goes E om0 mt_257 8 [some (.ref 81), some (.int x1), some (.int x2), some (.long r75), none, some (.long x5), none, some (.int (x7 + (i3 1))), some (.int r39), some (.int r59), some (.int r69), some (.long r73), none] [] SI76 SJ76 (QL Q)
            exact gj_fh (q78.1 c79) (And.intro (Or.inr rfl) (And.intro (Or.inr rfl) (And.intro (Or.inr rfl) (And.intro (Or.inr rfl) (And.intro (Or.inl rfl) (And.intro (Or.inr rfl) (And.intro (Or.inl rfl) (And.intro (Or.inr rfl) (And.intro (Or.inl rfl) (And.intro (Or.inl rfl) (And.intro (Or.inl rfl) (And.intro (Or.inl rfl) (And.intro (Or.inl rfl) trivial)))))))))))))
          · exact gj_fh (q78.2 c79) (And.intro (Or.inr rfl) (And.intro (Or.inr rfl) (And.intro (Or.inr rfl) (And.intro (Or.inr rfl) (And.intro (Or.inl rfl) (And.intro (Or.inr rfl) (And.intro (Or.inl rfl) (And.intro (Or.inr rfl) (And.intro (Or.inl rfl) (And.intro (Or.inl rfl) (And.intro (Or.inl rfl) (And.intro (Or.inl rfl) (And.intro (Or.inl rfl) trivial)))))))))))))
set_option maxRecDepth 20000 in
/-- GraspJudgeModel.proof -/
theorem st_258 {E : gj_E} {Q : Int64 → gj_I → gj_J → Prop} (a1 : Int32) (SI : gj_I) (SJ : gj_J) (h : DoI E 155 [(.long (a1).toInt64), (.long (i6 0)), (.long (i6 5))] SI SJ (fun r1 SI2 SJ2 => (r1 = 0 → Q (i6 (-9000000000000000000)) SI2 SJ2) ∧ (¬ r1 = 0 → DoI E 195 [(.ref 81)] SI2 SJ2 (fun r3 SI4 SJ4 => (¬ r3 = 0 → DoI E 255 [(.ref 81)] SI4 SJ4 (fun r5 SI6 SJ6 => ((i3 2) ≤ a1 → DoI E 160 [(.int r5)] SI6 SJ6 (fun r7 SI8 SJ8 => (¬ r7 = (i3 4) → Q (i6 (-2)) SI8 SJ8) ∧ (r7 = (i3 4) → DoL E 257 [(.ref 81), (.int r5), (.int (a1 - (i3 2)))] SI8 SJ8 (fun r9 SI10 SJ10 => Q r9 SI10 SJ10)))) ∧ (¬ (i3 2) ≤ a1 → (¬ a1 = 0 → Q (r5).toInt64 SI6 SJ6) ∧ (a1 = 0 → DoI E 160 [(.int r5)] SI6 SJ6 (fun r11 SI12 SJ12 => Q (r11).toInt64 SI12 SJ12))))) ∧ (r3 = 0 → Q (i6 (-9000000000000000000)) SI4 SJ4))))) : DoL E 258 [(.ref 81), (.int a1)] SI SJ Q := by
  refine gj_start (M := mt_258) ok_258 (Nat.le_of_ble_eq_true rfl) ?_
  refine gj_goq gj_clT ok_258 [9, 16, 27, 41, 52, 64] ?_
  show gj_Do E om0 (gj_mt 155) [(.long (a1).toInt64), (.long (i6 0)), (.long (i6 5))] SI SJ _
  refine gj_Do.mono h (fun v_ SI2 SJ2 h_ => ?_)
  obtain ⟨r1, rfl, q1⟩ := h_
  show gj_Goes E om0 mt_258 9 [some (.ref 81), some (.int a1), none] [(.int r1)] SI2 SJ2 (QL Q)
  refine gj_goq gj_clT ok_258 [9, 16, 27, 41, 52, 64] ?_
  show (r1 = 0 → gj_Goes E om0 mt_258 19 [some (.ref 81), some (.int a1), none] [] SI2 SJ2 (QL Q)) ∧ (¬ r1 = 0 → gj_Do E om0 (gj_mt 195) [(.ref 81)] SI2 SJ2 _)
  refine ⟨fun c2 => ?_, fun c2 => ?_⟩
  · refine gj_goq gj_clT ok_258 [9, 16, 27, 41, 52, 64] ?_
    show QL Q (some (.long (i6 (-9000000000000000000)))) SI2 SJ2
    exact ⟨_, rfl, (q1.1 c2)⟩
  · refine gj_Do.mono (q1.2 c2) (fun v_ SI4 SJ4 h_ => ?_)
    obtain ⟨r3, rfl, q3⟩ := h_
    show gj_Goes E om0 mt_258 16 [some (.ref 81), some (.int a1), none] [(.int r3)] SI4 SJ4 (QL Q)
    refine gj_goq gj_clT ok_258 [9, 16, 27, 41, 52, 64] ?_
    show (¬ r3 = 0 → gj_Goes E om0 mt_258 23 [some (.ref 81), some (.int a1), none] [] SI4 SJ4 (QL Q)) ∧ (r3 = 0 → QL Q (some (.long (i6 (-9000000000000000000)))) SI4 SJ4)
    refine ⟨fun c4 => ?_, fun c4 => ?_⟩
    · refine gj_goq gj_clT ok_258 [9, 16, 27, 41, 52, 64] ?_
      show gj_Do E om0 (gj_mt 255) [(.ref 81)] SI4 SJ4 _
      refine gj_Do.mono (q3.1 c4) (fun v_ SI6 SJ6 h_ => ?_)
      obtain ⟨r5, rfl, q5⟩ := h_
      show gj_Goes E om0 mt_258 27 [some (.ref 81), some (.int a1), none] [(.int r5)] SI6 SJ6 (QL Q)
      refine gj_goq gj_clT ok_258 [9, 16, 27, 41, 52, 64] ?_
      show ((i3 2) ≤ a1 → gj_Goes E om0 mt_258 48 [some (.ref 81), some (.int a1), some (.int r5)] [] SI6 SJ6 (QL Q)) ∧ (¬ (i3 2) ≤ a1 → (¬ a1 = 0 → gj_Goes E om0 mt_258 45 [some (.ref 81), some (.int a1), some (.int r5)] [] SI6 SJ6 (QL Q)) ∧ (a1 = 0 → gj_Do E om0 (gj_mt 160) [(.int r5)] SI6 SJ6 _))
      refine ⟨fun c6 => ?_, fun c6 => ?_⟩
      · refine gj_goq gj_clT ok_258 [9, 16, 27, 41, 52, 64] ?_
        show gj_Do E om0 (gj_mt 160) [(.int r5)] SI6 SJ6 _
        refine gj_Do.mono (q5.1 c6) (fun v_ SI8 SJ8 h_ => ?_)
        obtain ⟨r7, rfl, q7⟩ := h_
        show gj_Goes E om0 mt_258 52 [some (.ref 81), some (.int a1), some (.int r5)] [(.int r7)] SI8 SJ8 (QL Q)
        refine gj_goq gj_clT ok_258 [9, 16, 27, 41, 52, 64] ?_
        show (¬ r7 = (i3 4) → gj_Goes E om0 mt_258 67 [some (.ref 81), some (.int a1), some (.int r5)] [] SI8 SJ8 (QL Q)) ∧ (r7 = (i3 4) → gj_Do E om0 (gj_mt 257) [(.ref 81), (.int r5), (.int (a1 - (i3 2)))] SI8 SJ8 _)
        refine ⟨fun c8 => ?_, fun c8 => ?_⟩
        · refine gj_goq gj_clT ok_258 [9, 16, 27, 41, 52, 64] ?_
          show QL Q (some (.long (i6 (-2)))) SI8 SJ8
          exact ⟨_, rfl, (q7.1 c8)⟩
        · refine gj_Do.mono (q7.2 c8) (fun v_ SI10 SJ10 h_ => ?_)
          obtain ⟨r9, rfl, q9⟩ := h_
          show gj_Goes E om0 mt_258 64 [some (.ref 81), some (.int a1), some (.int r5)] [(.long r9)] SI10 SJ10 (QL Q)
          refine gj_goq gj_clT ok_258 [9, 16, 27, 41, 52, 64] ?_
          show gj_Goes E om0 mt_258 70 [some (.ref 81), some (.int a1), some (.int r5)] [(.long r9)] SI10 SJ10 (QL Q)
          refine gj_goq gj_clT ok_258 [9, 16, 27, 41, 52, 64] ?_
          show QL Q (some (.long r9)) SI10 SJ10
          exact ⟨_, rfl, q9⟩
      · refine ⟨fun c10 => ?_, fun c10 => ?_⟩
        · refine gj_goq gj_clT ok_258 [9, 16, 27, 41, 52, 64] ?_
          show QL Q (some (.long (r5).toInt64)) SI6 SJ6
          exact ⟨_, rfl, ((q5.2 c6).1 c10)⟩
        · refine gj_Do.mono ((q5.2 c6).2 c10) (fun v_ SI12 SJ12 h_ => ?_)
          obtain ⟨r11, rfl, q11⟩ := h_
          show gj_Goes E om0 mt_258 41 [some (.ref 81), some (.int a1), some (.int r5)] [(.int r11)] SI12 SJ12 (QL Q)
          refine gj_goq gj_clT ok_258 [9, 16, 27, 41, 52, 64] ?_
          show gj_Goes E om0 mt_258 47 [some (.ref 81), some (.int a1), some (.int r5)] [(.long (r11).toInt64)] SI12 SJ12 (QL Q)
          refine gj_goq gj_clT ok_258 [9, 16, 27, 41, 52, 64] ?_
          show QL Q (some (.long (r11).toInt64)) SI12 SJ12
          exact ⟨_, rfl, q11⟩
    · exact ⟨_, rfl, (q3.2 c4)⟩
set_option maxRecDepth 20000 in
/-- GraspJudgeModel.fingersAll -/
theorem st_259 {E : gj_E} {Q : Int32 → gj_I → gj_J → Prop} (SI : gj_I) (SJ : gj_J) (h : Q (((i3 1) <<< ((SI 82 17) &&& 31)) - (i3 1)) SI SJ) : DoI E 259 [(.ref 81)] SI SJ Q := by
  refine gj_start (M := mt_259) ok_259 (Nat.le_of_ble_eq_true rfl) ?_
  refine gj_goq gj_clT ok_259 [] ?_
  show vp_in (i3 17) 135 ∧ (QI Q (some (.int (((i3 1) <<< ((SI 82 17) &&& 31)) - (i3 1)))) SI SJ)
  refine ⟨(gj_vin (by decide)), ?_⟩
  exact ⟨_, rfl, h⟩
set_option maxRecDepth 20000 in
/-- GraspJudgeModel.needed -/
theorem st_260 {E : gj_E} {Q : Int32 → gj_I → gj_J → Prop} (SI : gj_I) (SJ : gj_J) (h : DoI E 195 [(.ref 81)] SI SJ (fun r1 SI2 SJ2 => (¬ r1 = 0 → GoI E mt_260 14 [some (.ref 81), some (.int (i3 0)), some (.int (i3 0))] SI2 SJ2 Q) ∧ (r1 = 0 → Q (i3 (-2)) SI2 SJ2))) : DoI E 260 [(.ref 81)] SI SJ Q := by
  refine gj_start (M := mt_260) ok_260 (Nat.le_of_ble_eq_true rfl) ?_
  refine gj_goq gj_clT ok_260 [4, 14, 31, 40, 43] ?_
  show gj_Do E om0 (gj_mt 195) [(.ref 81)] SI SJ _
  refine gj_Do.mono h (fun v_ SI2 SJ2 h_ => ?_)
  obtain ⟨r1, rfl, q1⟩ := h_
  show gj_Goes E om0 mt_260 4 [some (.ref 81), none, none] [(.int r1)] SI2 SJ2 (QI Q)
  refine gj_goq gj_clT ok_260 [4, 14, 31, 40, 43] ?_
  show (¬ r1 = 0 → gj_Goes E om0 mt_260 10 [some (.ref 81), none, none] [] SI2 SJ2 (QI Q)) ∧ (r1 = 0 → QI Q (some (.int (i3 (-2)))) SI2 SJ2)
  refine ⟨fun c2 => ?_, fun c2 => ?_⟩
  · refine gj_goq gj_clT ok_260 [4, 14, 31, 40, 43] ?_
    show gj_Goes E om0 mt_260 14 [some (.ref 81), some (.int (i3 0)), some (.int (i3 0))] [] SI2 SJ2 (QI Q)
    exact (q1.1 c2)
  · exact ⟨_, rfl, (q1.2 c2)⟩
set_option maxRecDepth 20000 in
theorem lp_260_14 {E : gj_E} {Q : Int32 → gj_I → gj_J → Prop} (x1 : Int32) (x2 : Int32) (SI : gj_I) (SJ : gj_J) (h : ((SI 82 17) ≤ x2 → Q x1 SI SJ) ∧ (¬ (SI 82 17) ≤ x2 → DoI E 259 [(.ref 81)] SI SJ (fun r1 SI2 SJ2 => DoI E 186 [(.ref 81), (.int (r1 &&& (((i3 1) <<< (x2 &&& 31)) ^^^ (i3 (-1)))))] SI2 SJ2 (fun r3 SI4 SJ4 => DoI E 194 [(.ref 81), (.int r3)] SI4 SJ4 (fun r5 SI6 SJ6 => (¬ r5 = 0 → GoI E mt_260 14 [some (.ref 81), some (.int x1), some (.int (x2 + (i3 1)))] SI6 SJ6 Q) ∧ (r5 = 0 → GoI E mt_260 14 [some (.ref 81), some (.int (x1 ||| ((i3 1) <<< (x2 &&& 31)))), some (.int (x2 + (i3 1)))] SI6 SJ6 Q)))))) : GoI E mt_260 14 [some (.ref 81), some (.int x1), some (.int x2)] SI SJ Q := by
  refine gj_goq gj_clT ok_260 [4, 14, 31, 40, 43] ?_
  show vp_in (i3 17) 135 ∧ (((SI 82 17) ≤ x2 → gj_Goes E om0 mt_260 58 [some (.ref 81), some (.int x1), some (.int x2)] [] SI SJ (QI Q)) ∧ (¬ (SI 82 17) ≤ x2 → gj_Do E om0 (gj_mt 259) [(.ref 81)] SI SJ _))
  refine ⟨(gj_vin (by decide)), ?_⟩
  refine ⟨fun c1 => ?_, fun c1 => ?_⟩
  · refine gj_goq gj_clT ok_260 [4, 14, 31, 40, 43] ?_
    show QI Q (some (.int x1)) SI SJ
    exact ⟨_, rfl, (h.1 c1)⟩
  · refine gj_Do.mono (h.2 c1) (fun v_ SI2 SJ2 h_ => ?_)
    obtain ⟨r1, rfl, q2⟩ := h_
    show gj_Goes E om0 mt_260 31 [some (.ref 81), some (.int x1), some (.int x2)] [(.int r1), (.ref 81), (.ref 81)] SI2 SJ2 (QI Q)
    refine gj_goq gj_clT ok_260 [4, 14, 31, 40, 43] ?_
    show gj_Do E om0 (gj_mt 186) [(.ref 81), (.int (r1 &&& (((i3 1) <<< (x2 &&& 31)) ^^^ (i3 (-1)))))] SI2 SJ2 _
    refine gj_Do.mono q2 (fun v_ SI4 SJ4 h_ => ?_)
    obtain ⟨r3, rfl, q3⟩ := h_
    show gj_Goes E om0 mt_260 40 [some (.ref 81), some (.int x1), some (.int x2)] [(.int r3), (.ref 81)] SI4 SJ4 (QI Q)
    refine gj_goq gj_clT ok_260 [4, 14, 31, 40, 43] ?_
    show gj_Do E om0 (gj_mt 194) [(.ref 81), (.int r3)] SI4 SJ4 _
    refine gj_Do.mono q3 (fun v_ SI6 SJ6 h_ => ?_)
    obtain ⟨r5, rfl, q4⟩ := h_
    show gj_Goes E om0 mt_260 43 [some (.ref 81), some (.int x1), some (.int x2)] [(.int r5)] SI6 SJ6 (QI Q)
    refine gj_goq gj_clT ok_260 [4, 14, 31, 40, 43] ?_
    show (¬ r5 = 0 → gj_Goes E om0 mt_260 52 [some (.ref 81), some (.int x1), some (.int x2)] [] SI6 SJ6 (QI Q)) ∧ (r5 = 0 → gj_Goes E om0 mt_260 14 [some (.ref 81), some (.int (x1 ||| ((i3 1) <<< (x2 &&& 31)))), some (.int (x2 + (i3 1)))] [] SI6 SJ6 (QI Q))
    refine ⟨fun c5 => ?_, fun c5 => ?_⟩
    · refine gj_goq gj_clT ok_260 [4, 14, 31, 40, 43] ?_
      show gj_Goes E om0 mt_260 14 [some (.ref 81), some (.int x1), some (.int (x2 + (i3 1)))] [] SI6 SJ6 (QI Q)
      exact (q4.1 c5)
    · exact (q4.2 c5)
set_option maxRecDepth 20000 in
/-- GraspJudgeModel.leastSet -/
theorem st_261 {E : gj_E} {Q : Int32 → gj_I → gj_J → Prop} (SI : gj_I) (SJ : gj_J) (h : DoI E 195 [(.ref 81)] SI SJ (fun r1 SI2 SJ2 => (¬ r1 = 0 → GoI E mt_261 12 [some (.ref 81), some (.int (i3 1)), none] SI2 SJ2 Q) ∧ (r1 = 0 → Q (i3 (-2)) SI2 SJ2))) : DoI E 261 [(.ref 81)] SI SJ Q := by
  refine gj_start (M := mt_261) ok_261 (Nat.le_of_ble_eq_true rfl) ?_
  refine gj_goq gj_clT ok_261 [4, 12, 25, 30, 37, 47, 50] ?_
  show gj_Do E om0 (gj_mt 195) [(.ref 81)] SI SJ _
  refine gj_Do.mono h (fun v_ SI2 SJ2 h_ => ?_)
  obtain ⟨r1, rfl, q1⟩ := h_
  show gj_Goes E om0 mt_261 4 [some (.ref 81), none, none] [(.int r1)] SI2 SJ2 (QI Q)
  refine gj_goq gj_clT ok_261 [4, 12, 25, 30, 37, 47, 50] ?_
  show (¬ r1 = 0 → gj_Goes E om0 mt_261 10 [some (.ref 81), none, none] [] SI2 SJ2 (QI Q)) ∧ (r1 = 0 → QI Q (some (.int (i3 (-2)))) SI2 SJ2)
  refine ⟨fun c2 => ?_, fun c2 => ?_⟩
  · refine gj_goq gj_clT ok_261 [4, 12, 25, 30, 37, 47, 50] ?_
    show gj_Goes E om0 mt_261 12 [some (.ref 81), some (.int (i3 1)), none] [] SI2 SJ2 (QI Q)
    exact (q1.1 c2)
  · exact ⟨_, rfl, (q1.2 c2)⟩
set_option maxRecDepth 20000 in
theorem lp_261_12 {E : gj_E} {Q : Int32 → gj_I → gj_J → Prop} (x1 : Int32) (SI : gj_I) (SJ : gj_J) (h : ((SI 82 17) < x1 → Q (i3 (-2)) SI SJ) ∧ (¬ (SI 82 17) < x1 → GoI E mt_261 25 [some (.ref 81), some (.int x1), some (.int (i3 0))] SI SJ Q)) : GoI E mt_261 12 [some (.ref 81), some (.int x1), none] SI SJ Q := by
  refine gj_goq gj_clT ok_261 [4, 12, 25, 30, 37, 47, 50] ?_
  show vp_in (i3 17) 135 ∧ (((SI 82 17) < x1 → gj_Goes E om0 mt_261 67 [some (.ref 81), some (.int x1), none] [] SI SJ (QI Q)) ∧ (¬ (SI 82 17) < x1 → gj_Goes E om0 mt_261 25 [some (.ref 81), some (.int x1), some (.int (i3 0))] [] SI SJ (QI Q)))
  refine ⟨(gj_vin (by decide)), ?_⟩
  refine ⟨fun c1 => ?_, fun c1 => ?_⟩
  · refine gj_goq gj_clT ok_261 [4, 12, 25, 30, 37, 47, 50] ?_
    show QI Q (some (.int (i3 (-2)))) SI SJ
    exact ⟨_, rfl, (h.1 c1)⟩
  · exact (h.2 c1)
set_option maxRecDepth 20000 in
theorem lp_261_25 {E : gj_E} {Q : Int32 → gj_I → gj_J → Prop} (x1 : Int32) (x2 : Int32) (SI : gj_I) (SJ : gj_J) (h : DoI E 259 [(.ref 81)] SI SJ (fun r1 SI2 SJ2 => (r1 < x2 → GoI E mt_261 12 [some (.ref 81), some (.int (x1 + (i3 1))), none] SI2 SJ2 Q) ∧ (¬ r1 < x2 → DoI E 160 [(.int x2)] SI2 SJ2 (fun r3 SI4 SJ4 => (¬ r3 = x1 → GoI E mt_261 25 [some (.ref 81), some (.int x1), some (.int (x2 + (i3 1)))] SI4 SJ4 Q) ∧ (r3 = x1 → DoI E 186 [(.ref 81), (.int x2)] SI4 SJ4 (fun r5 SI6 SJ6 => DoI E 194 [(.ref 81), (.int r5)] SI6 SJ6 (fun r7 SI8 SJ8 => (r7 = 0 → GoI E mt_261 25 [some (.ref 81), some (.int x1), some (.int (x2 + (i3 1)))] SI8 SJ8 Q) ∧ (¬ r7 = 0 → Q x2 SI8 SJ8)))))))) : GoI E mt_261 25 [some (.ref 81), some (.int x1), some (.int x2)] SI SJ Q := by
  refine gj_goq gj_clT ok_261 [4, 12, 25, 30, 37, 47, 50] ?_
  show gj_Do E om0 (gj_mt 259) [(.ref 81)] SI SJ _
  refine gj_Do.mono h (fun v_ SI2 SJ2 h_ => ?_)
  obtain ⟨r1, rfl, q1⟩ := h_
  show gj_Goes E om0 mt_261 30 [some (.ref 81), some (.int x1), some (.int x2)] [(.int r1), (.int x2)] SI2 SJ2 (QI Q)
  refine gj_goq gj_clT ok_261 [4, 12, 25, 30, 37, 47, 50] ?_
  show (r1 < x2 → gj_Goes E om0 mt_261 61 [some (.ref 81), some (.int x1), some (.int x2)] [] SI2 SJ2 (QI Q)) ∧ (¬ r1 < x2 → gj_Do E om0 (gj_mt 160) [(.int x2)] SI2 SJ2 _)
  refine ⟨fun c2 => ?_, fun c2 => ?_⟩
  · refine gj_goq gj_clT ok_261 [4, 12, 25, 30, 37, 47, 50] ?_
    show gj_Goes E om0 mt_261 12 [some (.ref 81), some (.int (x1 + (i3 1))), some (.int x2)] [] SI2 SJ2 (QI Q)
    exact gj_fh (q1.1 c2) (And.intro (Or.inr rfl) (And.intro (Or.inr rfl) (And.intro (Or.inl rfl) trivial)))
  · refine gj_Do.mono (q1.2 c2) (fun v_ SI4 SJ4 h_ => ?_)
    obtain ⟨r3, rfl, q3⟩ := h_
    show gj_Goes E om0 mt_261 37 [some (.ref 81), some (.int x1), some (.int x2)] [(.int r3)] SI4 SJ4 (QI Q)
    refine gj_goq gj_clT ok_261 [4, 12, 25, 30, 37, 47, 50] ?_
    show (¬ r3 = x1 → gj_Goes E om0 mt_261 55 [some (.ref 81), some (.int x1), some (.int x2)] [] SI4 SJ4 (QI Q)) ∧ (r3 = x1 → gj_Do E om0 (gj_mt 186) [(.ref 81), (.int x2)] SI4 SJ4 _)
    refine ⟨fun c4 => ?_, fun c4 => ?_⟩
    · refine gj_goq gj_clT ok_261 [4, 12, 25, 30, 37, 47, 50] ?_
      show gj_Goes E om0 mt_261 25 [some (.ref 81), some (.int x1), some (.int (x2 + (i3 1)))] [] SI4 SJ4 (QI Q)
      exact (q3.1 c4)
    · refine gj_Do.mono (q3.2 c4) (fun v_ SI6 SJ6 h_ => ?_)
      obtain ⟨r5, rfl, q5⟩ := h_
      show gj_Goes E om0 mt_261 47 [some (.ref 81), some (.int x1), some (.int x2)] [(.int r5), (.ref 81)] SI6 SJ6 (QI Q)
      refine gj_goq gj_clT ok_261 [4, 12, 25, 30, 37, 47, 50] ?_
      show gj_Do E om0 (gj_mt 194) [(.ref 81), (.int r5)] SI6 SJ6 _
      refine gj_Do.mono q5 (fun v_ SI8 SJ8 h_ => ?_)
      obtain ⟨r7, rfl, q6⟩ := h_
      show gj_Goes E om0 mt_261 50 [some (.ref 81), some (.int x1), some (.int x2)] [(.int r7)] SI8 SJ8 (QI Q)
      refine gj_goq gj_clT ok_261 [4, 12, 25, 30, 37, 47, 50] ?_
      show (r7 = 0 → gj_Goes E om0 mt_261 55 [some (.ref 81), some (.int x1), some (.int x2)] [] SI8 SJ8 (QI Q)) ∧ (¬ r7 = 0 → QI Q (some (.int x2)) SI8 SJ8)
      refine ⟨fun c7 => ?_, fun c7 => ?_⟩
      · refine gj_goq gj_clT ok_261 [4, 12, 25, 30, 37, 47, 50] ?_
        show gj_Goes E om0 mt_261 25 [some (.ref 81), some (.int x1), some (.int (x2 + (i3 1)))] [] SI8 SJ8 (QI Q)
        exact (q6.1 c7)
      · exact ⟨_, rfl, (q6.2 c7)⟩
set_option maxRecDepth 20000 in
/-- GraspJudgeModel.safe -/
theorem st_262 {E : gj_E} {Q : Int32 → gj_I → gj_J → Prop} (a1 : Int32) (SI : gj_I) (SJ : gj_J) (h : DoI E 155 [(.long (a1).toInt64), (.long (i6 0)), (.long (i6 6))] SI SJ (fun r1 SI2 SJ2 => (¬ r1 = 0 → DoV E 184 [(.ref 81)] SI2 SJ2 (fun SI4 SJ4 => DoI E 156 [(.int a1), (.int (SI4 82 17))] SI4 SJ4 (fun r5 SI6 SJ6 => GoI E mt_262 32 [some (.ref 81), none, some (.int r5), some (.int (i3 0))] SI6 SJ6 Q))) ∧ (r1 = 0 → Q (i3 (-1)) SI2 SJ2))) : DoI E 262 [(.ref 81), (.int a1)] SI SJ Q := by
  refine gj_start (M := mt_262) ok_262 (Nat.le_of_ble_eq_true rfl) ?_
  refine gj_goq gj_clT ok_262 [9, 18, 29, 32, 37, 44, 54, 61, 64] ?_
  show gj_Do E om0 (gj_mt 155) [(.long (a1).toInt64), (.long (i6 0)), (.long (i6 6))] SI SJ _
  refine gj_Do.mono h (fun v_ SI2 SJ2 h_ => ?_)
  obtain ⟨r1, rfl, q1⟩ := h_
  show gj_Goes E om0 mt_262 9 [some (.ref 81), some (.int a1), none, none] [(.int r1)] SI2 SJ2 (QI Q)
  refine gj_goq gj_clT ok_262 [9, 18, 29, 32, 37, 44, 54, 61, 64] ?_
  show (¬ r1 = 0 → gj_Goes E om0 mt_262 14 [some (.ref 81), some (.int a1), none, none] [] SI2 SJ2 (QI Q)) ∧ (r1 = 0 → QI Q (some (.int (i3 (-1)))) SI2 SJ2)
  refine ⟨fun c2 => ?_, fun c2 => ?_⟩
  · refine gj_goq gj_clT ok_262 [9, 18, 29, 32, 37, 44, 54, 61, 64] ?_
    show gj_Do E om0 (gj_mt 184) [(.ref 81)] SI2 SJ2 _
    refine gj_Do.mono (q1.1 c2) (fun v_ SI4 SJ4 h_ => ?_)
    obtain ⟨rfl, q3⟩ := h_
    show gj_Goes E om0 mt_262 18 [some (.ref 81), some (.int a1), none, none] [] SI4 SJ4 (QI Q)
    refine gj_goq gj_clT ok_262 [9, 18, 29, 32, 37, 44, 54, 61, 64] ?_
    show vp_in (i3 17) 135 ∧ (gj_Do E om0 (gj_mt 156) [(.int a1), (.int (SI4 82 17))] SI4 SJ4 _)
    refine ⟨(gj_vin (by decide)), ?_⟩
    refine gj_Do.mono q3 (fun v_ SI6 SJ6 h_ => ?_)
    obtain ⟨r5, rfl, q4⟩ := h_
    show gj_Goes E om0 mt_262 29 [some (.ref 81), some (.int a1), none, none] [(.int r5)] SI6 SJ6 (QI Q)
    refine gj_goq gj_clT ok_262 [9, 18, 29, 32, 37, 44, 54, 61, 64] ?_
    show gj_Goes E om0 mt_262 32 [some (.ref 81), some (.int a1), some (.int r5), some (.int (i3 0))] [] SI6 SJ6 (QI Q)
    exact gj_fh q4 (And.intro (Or.inr rfl) (And.intro (Or.inl rfl) (And.intro (Or.inr rfl) (And.intro (Or.inr rfl) trivial))))
  · exact ⟨_, rfl, (q1.2 c2)⟩
set_option maxRecDepth 20000 in
theorem lp_262_32 {E : gj_E} {Q : Int32 → gj_I → gj_J → Prop} (x2 : Int32) (x3 : Int32) (SI : gj_I) (SJ : gj_J) (h : DoI E 259 [(.ref 81)] SI SJ (fun r1 SI2 SJ2 => (r1 < x3 → Q (i3 1) SI2 SJ2) ∧ (¬ r1 < x3 → DoI E 160 [(.int x3)] SI2 SJ2 (fun r3 SI4 SJ4 => (¬ r3 = x2 → GoI E mt_262 32 [some (.ref 81), none, some (.int x2), some (.int (x3 + (i3 1)))] SI4 SJ4 Q) ∧ (r3 = x2 → DoI E 259 [(.ref 81)] SI4 SJ4 (fun r5 SI6 SJ6 => DoI E 186 [(.ref 81), (.int (r5 &&& (x3 ^^^ (i3 (-1)))))] SI6 SJ6 (fun r7 SI8 SJ8 => DoI E 194 [(.ref 81), (.int r7)] SI8 SJ8 (fun r9 SI10 SJ10 => (¬ r9 = 0 → GoI E mt_262 32 [some (.ref 81), none, some (.int x2), some (.int (x3 + (i3 1)))] SI10 SJ10 Q) ∧ (r9 = 0 → Q (i3 0) SI10 SJ10))))))))) : GoI E mt_262 32 [some (.ref 81), none, some (.int x2), some (.int x3)] SI SJ Q := by
  refine gj_goq gj_clT ok_262 [9, 18, 29, 32, 37, 44, 54, 61, 64] ?_
  show gj_Do E om0 (gj_mt 259) [(.ref 81)] SI SJ _
  refine gj_Do.mono h (fun v_ SI2 SJ2 h_ => ?_)
  obtain ⟨r1, rfl, q1⟩ := h_
  show gj_Goes E om0 mt_262 37 [some (.ref 81), none, some (.int x2), some (.int x3)] [(.int r1), (.int x3)] SI2 SJ2 (QI Q)
  refine gj_goq gj_clT ok_262 [9, 18, 29, 32, 37, 44, 54, 61, 64] ?_
  show (r1 < x3 → gj_Goes E om0 mt_262 75 [some (.ref 81), none, some (.int x2), some (.int x3)] [] SI2 SJ2 (QI Q)) ∧ (¬ r1 < x3 → gj_Do E om0 (gj_mt 160) [(.int x3)] SI2 SJ2 _)
  refine ⟨fun c2 => ?_, fun c2 => ?_⟩
  · refine gj_goq gj_clT ok_262 [9, 18, 29, 32, 37, 44, 54, 61, 64] ?_
    show QI Q (some (.int (i3 1))) SI2 SJ2
    exact ⟨_, rfl, (q1.1 c2)⟩
  · refine gj_Do.mono (q1.2 c2) (fun v_ SI4 SJ4 h_ => ?_)
    obtain ⟨r3, rfl, q3⟩ := h_
    show gj_Goes E om0 mt_262 44 [some (.ref 81), none, some (.int x2), some (.int x3)] [(.int r3)] SI4 SJ4 (QI Q)
    refine gj_goq gj_clT ok_262 [9, 18, 29, 32, 37, 44, 54, 61, 64] ?_
    show (¬ r3 = x2 → gj_Goes E om0 mt_262 69 [some (.ref 81), none, some (.int x2), some (.int x3)] [] SI4 SJ4 (QI Q)) ∧ (r3 = x2 → gj_Do E om0 (gj_mt 259) [(.ref 81)] SI4 SJ4 _)
    refine ⟨fun c4 => ?_, fun c4 => ?_⟩
    · refine gj_goq gj_clT ok_262 [9, 18, 29, 32, 37, 44, 54, 61, 64] ?_
      show gj_Goes E om0 mt_262 32 [some (.ref 81), none, some (.int x2), some (.int (x3 + (i3 1)))] [] SI4 SJ4 (QI Q)
      exact (q3.1 c4)
    · refine gj_Do.mono (q3.2 c4) (fun v_ SI6 SJ6 h_ => ?_)
      obtain ⟨r5, rfl, q5⟩ := h_
      show gj_Goes E om0 mt_262 54 [some (.ref 81), none, some (.int x2), some (.int x3)] [(.int r5), (.ref 81), (.ref 81)] SI6 SJ6 (QI Q)
      refine gj_goq gj_clT ok_262 [9, 18, 29, 32, 37, 44, 54, 61, 64] ?_
      show gj_Do E om0 (gj_mt 186) [(.ref 81), (.int (r5 &&& (x3 ^^^ (i3 (-1)))))] SI6 SJ6 _
      refine gj_Do.mono q5 (fun v_ SI8 SJ8 h_ => ?_)
      obtain ⟨r7, rfl, q6⟩ := h_
      show gj_Goes E om0 mt_262 61 [some (.ref 81), none, some (.int x2), some (.int x3)] [(.int r7), (.ref 81)] SI8 SJ8 (QI Q)
      refine gj_goq gj_clT ok_262 [9, 18, 29, 32, 37, 44, 54, 61, 64] ?_
      show gj_Do E om0 (gj_mt 194) [(.ref 81), (.int r7)] SI8 SJ8 _
      refine gj_Do.mono q6 (fun v_ SI10 SJ10 h_ => ?_)
      obtain ⟨r9, rfl, q7⟩ := h_
      show gj_Goes E om0 mt_262 64 [some (.ref 81), none, some (.int x2), some (.int x3)] [(.int r9)] SI10 SJ10 (QI Q)
      refine gj_goq gj_clT ok_262 [9, 18, 29, 32, 37, 44, 54, 61, 64] ?_
      show (¬ r9 = 0 → gj_Goes E om0 mt_262 69 [some (.ref 81), none, some (.int x2), some (.int x3)] [] SI10 SJ10 (QI Q)) ∧ (r9 = 0 → QI Q (some (.int (i3 0))) SI10 SJ10)
      refine ⟨fun c8 => ?_, fun c8 => ?_⟩
      · refine gj_goq gj_clT ok_262 [9, 18, 29, 32, 37, 44, 54, 61, 64] ?_
        show gj_Goes E om0 mt_262 32 [some (.ref 81), none, some (.int x2), some (.int (x3 + (i3 1)))] [] SI10 SJ10 (QI Q)
        exact (q7.1 c8)
      · exact ⟨_, rfl, (q7.2 c8)⟩
set_option maxRecDepth 20000 in
/-- GraspJudgeModel.best -/
theorem st_263 {E : gj_E} {Q : Int64 → gj_I → gj_J → Prop} (a1 : Int32) (SI : gj_I) (SJ : gj_J) (h : DoI E 155 [(.long (a1).toInt64), (.long (i6 0)), (.long (i6 3))] SI SJ (fun r1 SI2 SJ2 => (¬ r1 = 0 → GoL E mt_263 26 [some (.ref 81), some (.int a1), some (.int (i3 (-1))), some (.long (i6 0)), none, some (.long (i6 1)), none, some (.int (i3 0))] SI2 SJ2 Q) ∧ (r1 = 0 → Q (i6 (-9000000000000000000)) SI2 SJ2))) : DoL E 263 [(.ref 81), (.int a1)] SI SJ Q := by
  refine gj_start (M := mt_263) ok_263 (Nat.le_of_ble_eq_true rfl) ?_
  refine gj_goq gj_clT ok_263 [9, 26, 32, 42, 48, 51, 62, 69, 75, 80, 85, 88, 98, 161, 175] ?_
  show gj_Do E om0 (gj_mt 155) [(.long (a1).toInt64), (.long (i6 0)), (.long (i6 3))] SI SJ _
  refine gj_Do.mono h (fun v_ SI2 SJ2 h_ => ?_)
  obtain ⟨r1, rfl, q1⟩ := h_
  show gj_Goes E om0 mt_263 9 [some (.ref 81), some (.int a1), none, none, none, none, none, none] [(.int r1)] SI2 SJ2 (QL Q)
  refine gj_goq gj_clT ok_263 [9, 26, 32, 42, 48, 51, 62, 69, 75, 80, 85, 88, 98, 161, 175] ?_
  show (¬ r1 = 0 → gj_Goes E om0 mt_263 16 [some (.ref 81), some (.int a1), none, none, none, none, none, none] [] SI2 SJ2 (QL Q)) ∧ (r1 = 0 → QL Q (some (.long (i6 (-9000000000000000000)))) SI2 SJ2)
  refine ⟨fun c2 => ?_, fun c2 => ?_⟩
  · refine gj_goq gj_clT ok_263 [9, 26, 32, 42, 48, 51, 62, 69, 75, 80, 85, 88, 98, 161, 175] ?_
    show gj_Goes E om0 mt_263 26 [some (.ref 81), some (.int a1), some (.int (i3 (-1))), some (.long (i6 0)), none, some (.long (i6 1)), none, some (.int (i3 0))] [] SI2 SJ2 (QL Q)
    exact (q1.1 c2)
  · exact ⟨_, rfl, (q1.2 c2)⟩
set_option maxRecDepth 20000 in
theorem lp_263_26 {E : gj_E} {Q : Int64 → gj_I → gj_J → Prop} (x1 : Int32) (x2 : Int32) (x3 : Int64) (x5 : Int64) (x7 : Int32) (SI : gj_I) (SJ : gj_J) (h : DoI E 176 [(.ref 81)] SI SJ (fun r1 SI2 SJ2 => (r1 ≤ x7 → (¬ x2 = (i3 (-1)) → (¬ x1 = 0 → (¬ x1 = (i3 1) → (¬ x1 = (i3 2) → Q x5 SI2 SJ2) ∧ (x1 = (i3 2) → Q x3 SI2 SJ2)) ∧ (x1 = (i3 1) → DoI E 178 [(.ref 81), (.int x2)] SI2 SJ2 (fun r3 SI4 SJ4 => Q (r3).toInt64 SI4 SJ4))) ∧ (x1 = 0 → DoI E 177 [(.ref 81), (.int x2)] SI2 SJ2 (fun r5 SI6 SJ6 => Q (r5).toInt64 SI6 SJ6))) ∧ (x2 = (i3 (-1)) → Q (i6 (-2)) SI2 SJ2)) ∧ (¬ r1 ≤ x7 → DoI E 177 [(.ref 81), (.int x7)] SI2 SJ2 (fun r7 SI8 SJ8 => DoI E 178 [(.ref 81), (.int x7)] SI8 SJ8 (fun r9 SI10 SJ10 => DoI E 180 [(.ref 81), (.int r7), (.int r9)] SI10 SJ10 (fun r11 SI12 SJ12 => (r11 = (i3 (-1)) → DoV E 184 [(.ref 81)] SI12 SJ12 (fun SI14 SJ14 => DoI E 177 [(.ref 81), (.int x7)] SI14 SJ14 (fun r15 SI16 SJ16 => DoI E 178 [(.ref 81), (.int x7)] SI16 SJ16 (fun r17 SI18 SJ18 => DoV E 183 [(.ref 81), (.int r15), (.int r17), (.int (i3 6))] SI18 SJ18 (fun SI20 SJ20 => DoI E 185 [(.ref 81)] SI20 SJ20 (fun r21 SI22 SJ22 => DoI E 194 [(.ref 81), (.int r21)] SI22 SJ22 (fun r23 SI24 SJ24 => (¬ r23 = 0 → DoV E 253 [(.ref 81)] SI24 SJ24 (fun SI26 SJ26 => (x2 = (i3 (-1)) → GoL E mt_263 26 [some (.ref 81), some (.int x1), some (.int x7), some (.long (SJ26 81 43)), none, some (.long (SJ26 81 44)), none, some (.int (x7 + (i3 1)))] SI26 SJ26 Q) ∧ (¬ x2 = (i3 (-1)) → (((SJ26 81 43) * x5) > (x3 * (SJ26 81 44)) → GoL E mt_263 26 [some (.ref 81), some (.int x1), some (.int x7), some (.long (SJ26 81 43)), none, some (.long (SJ26 81 44)), none, some (.int (x7 + (i3 1)))] SI26 SJ26 Q) ∧ (¬ ((SJ26 81 43) * x5) > (x3 * (SJ26 81 44)) → GoL E mt_263 26 [some (.ref 81), some (.int x1), some (.int x2), some (.long x3), none, some (.long x5), none, some (.int (x7 + (i3 1)))] SI26 SJ26 Q)))) ∧ (r23 = 0 → GoL E mt_263 26 [some (.ref 81), some (.int x1), some (.int x2), some (.long x3), none, some (.long x5), none, some (.int (x7 + (i3 1)))] SI24 SJ24 Q)))))))) ∧ (¬ r11 = (i3 (-1)) → GoL E mt_263 26 [some (.ref 81), some (.int x1), some (.int x2), some (.long x3), none, some (.long x5), none, some (.int (x7 + (i3 1)))] SI12 SJ12 Q))))))) : GoL E mt_263 26 [some (.ref 81), some (.int x1), some (.int x2), some (.long x3), none, some (.long x5), none, some (.int x7)] SI SJ Q := by
  refine gj_goq gj_clT ok_263 [9, 26, 32, 42, 48, 51, 62, 69, 75, 80, 85, 88, 98, 161, 175] ?_
  show gj_Do E om0 (gj_mt 176) [(.ref 81)] SI SJ _
  refine gj_Do.mono h (fun v_ SI2 SJ2 h_ => ?_)
  obtain ⟨r1, rfl, q1⟩ := h_
  show gj_Goes E om0 mt_263 32 [some (.ref 81), some (.int x1), some (.int x2), some (.long x3), none, some (.long x5), none, some (.int x7)] [(.int r1), (.int x7)] SI2 SJ2 (QL Q)
  refine gj_goq gj_clT ok_263 [9, 26, 32, 42, 48, 51, 62, 69, 75, 80, 85, 88, 98, 161, 175] ?_
  show (r1 ≤ x7 → gj_Goes E om0 mt_263 143 [some (.ref 81), some (.int x1), some (.int x2), some (.long x3), none, some (.long x5), none, some (.int x7)] [] SI2 SJ2 (QL Q)) ∧ (¬ r1 ≤ x7 → gj_Do E om0 (gj_mt 177) [(.ref 81), (.int x7)] SI2 SJ2 _)
  refine ⟨fun c2 => ?_, fun c2 => ?_⟩
  · refine gj_goq gj_clT ok_263 [9, 26, 32, 42, 48, 51, 62, 69, 75, 80, 85, 88, 98, 161, 175] ?_
    show (¬ x2 = (i3 (-1)) → gj_Goes E om0 mt_263 152 [some (.ref 81), some (.int x1), some (.int x2), some (.long x3), none, some (.long x5), none, some (.int x7)] [] SI2 SJ2 (QL Q)) ∧ (x2 = (i3 (-1)) → QL Q (some (.long (i6 (-2)))) SI2 SJ2)
    refine ⟨fun c3 => ?_, fun c3 => ?_⟩
    · refine gj_goq gj_clT ok_263 [9, 26, 32, 42, 48, 51, 62, 69, 75, 80, 85, 88, 98, 161, 175] ?_
      show (¬ x1 = 0 → gj_Goes E om0 mt_263 165 [some (.ref 81), some (.int x1), some (.int x2), some (.long x3), none, some (.long x5), none, some (.int x7)] [] SI2 SJ2 (QL Q)) ∧ (x1 = 0 → gj_Do E om0 (gj_mt 177) [(.ref 81), (.int x2)] SI2 SJ2 _)
      refine ⟨fun c4 => ?_, fun c4 => ?_⟩
      · refine gj_goq gj_clT ok_263 [9, 26, 32, 42, 48, 51, 62, 69, 75, 80, 85, 88, 98, 161, 175] ?_
        show (¬ x1 = (i3 1) → gj_Goes E om0 mt_263 179 [some (.ref 81), some (.int x1), some (.int x2), some (.long x3), none, some (.long x5), none, some (.int x7)] [] SI2 SJ2 (QL Q)) ∧ (x1 = (i3 1) → gj_Do E om0 (gj_mt 178) [(.ref 81), (.int x2)] SI2 SJ2 _)
        refine ⟨fun c5 => ?_, fun c5 => ?_⟩
        · refine gj_goq gj_clT ok_263 [9, 26, 32, 42, 48, 51, 62, 69, 75, 80, 85, 88, 98, 161, 175] ?_
          show (¬ x1 = (i3 2) → gj_Goes E om0 mt_263 188 [some (.ref 81), some (.int x1), some (.int x2), some (.long x3), none, some (.long x5), none, some (.int x7)] [] SI2 SJ2 (QL Q)) ∧ (x1 = (i3 2) → gj_Goes E om0 mt_263 190 [some (.ref 81), some (.int x1), some (.int x2), some (.long x3), none, some (.long x5), none, some (.int x7)] [(.long x3)] SI2 SJ2 (QL Q))
          refine ⟨fun c6 => ?_, fun c6 => ?_⟩
          · refine gj_goq gj_clT ok_263 [9, 26, 32, 42, 48, 51, 62, 69, 75, 80, 85, 88, 98, 161, 175] ?_
            show QL Q (some (.long x5)) SI2 SJ2
            exact ⟨_, rfl, (((((q1.1 c2).1 c3).1 c4).1 c5).1 c6)⟩
          · refine gj_goq gj_clT ok_263 [9, 26, 32, 42, 48, 51, 62, 69, 75, 80, 85, 88, 98, 161, 175] ?_
            show QL Q (some (.long x3)) SI2 SJ2
            exact ⟨_, rfl, (((((q1.1 c2).1 c3).1 c4).1 c5).2 c6)⟩
        · refine gj_Do.mono ((((q1.1 c2).1 c3).1 c4).2 c5) (fun v_ SI4 SJ4 h_ => ?_)
          obtain ⟨r3, rfl, q7⟩ := h_
          show gj_Goes E om0 mt_263 175 [some (.ref 81), some (.int x1), some (.int x2), some (.long x3), none, some (.long x5), none, some (.int x7)] [(.int r3)] SI4 SJ4 (QL Q)
          refine gj_goq gj_clT ok_263 [9, 26, 32, 42, 48, 51, 62, 69, 75, 80, 85, 88, 98, 161, 175] ?_
          show gj_Goes E om0 mt_263 190 [some (.ref 81), some (.int x1), some (.int x2), some (.long x3), none, some (.long x5), none, some (.int x7)] [(.long (r3).toInt64)] SI4 SJ4 (QL Q)
          refine gj_goq gj_clT ok_263 [9, 26, 32, 42, 48, 51, 62, 69, 75, 80, 85, 88, 98, 161, 175] ?_
          show QL Q (some (.long (r3).toInt64)) SI4 SJ4
          exact ⟨_, rfl, q7⟩
      · refine gj_Do.mono (((q1.1 c2).1 c3).2 c4) (fun v_ SI6 SJ6 h_ => ?_)
        obtain ⟨r5, rfl, q8⟩ := h_
        show gj_Goes E om0 mt_263 161 [some (.ref 81), some (.int x1), some (.int x2), some (.long x3), none, some (.long x5), none, some (.int x7)] [(.int r5)] SI6 SJ6 (QL Q)
        refine gj_goq gj_clT ok_263 [9, 26, 32, 42, 48, 51, 62, 69, 75, 80, 85, 88, 98, 161, 175] ?_
        show gj_Goes E om0 mt_263 190 [some (.ref 81), some (.int x1), some (.int x2), some (.long x3), none, some (.long x5), none, some (.int x7)] [(.long (r5).toInt64)] SI6 SJ6 (QL Q)
        refine gj_goq gj_clT ok_263 [9, 26, 32, 42, 48, 51, 62, 69, 75, 80, 85, 88, 98, 161, 175] ?_
        show QL Q (some (.long (r5).toInt64)) SI6 SJ6
        exact ⟨_, rfl, q8⟩
    · exact ⟨_, rfl, ((q1.1 c2).2 c3)⟩
  · refine gj_Do.mono (q1.2 c2) (fun v_ SI8 SJ8 h_ => ?_)
    obtain ⟨r7, rfl, q9⟩ := h_
    show gj_Goes E om0 mt_263 42 [some (.ref 81), some (.int x1), some (.int x2), some (.long x3), none, some (.long x5), none, some (.int x7)] [(.int r7), (.ref 81)] SI8 SJ8 (QL Q)
    refine gj_goq gj_clT ok_263 [9, 26, 32, 42, 48, 51, 62, 69, 75, 80, 85, 88, 98, 161, 175] ?_
    show gj_Do E om0 (gj_mt 178) [(.ref 81), (.int x7)] SI8 SJ8 _
    refine gj_Do.mono q9 (fun v_ SI10 SJ10 h_ => ?_)
    obtain ⟨r9, rfl, q10⟩ := h_
    show gj_Goes E om0 mt_263 48 [some (.ref 81), some (.int x1), some (.int x2), some (.long x3), none, some (.long x5), none, some (.int x7)] [(.int r9), (.int r7), (.ref 81)] SI10 SJ10 (QL Q)
    refine gj_goq gj_clT ok_263 [9, 26, 32, 42, 48, 51, 62, 69, 75, 80, 85, 88, 98, 161, 175] ?_
    show gj_Do E om0 (gj_mt 180) [(.ref 81), (.int r7), (.int r9)] SI10 SJ10 _
    refine gj_Do.mono q10 (fun v_ SI12 SJ12 h_ => ?_)
    obtain ⟨r11, rfl, q11⟩ := h_
    show gj_Goes E om0 mt_263 51 [some (.ref 81), some (.int x1), some (.int x2), some (.long x3), none, some (.long x5), none, some (.int x7)] [(.int r11)] SI12 SJ12 (QL Q)
    refine gj_goq gj_clT ok_263 [9, 26, 32, 42, 48, 51, 62, 69, 75, 80, 85, 88, 98, 161, 175] ?_
    show (r11 = (i3 (-1)) → gj_Goes E om0 mt_263 58 [some (.ref 81), some (.int x1), some (.int x2), some (.long x3), none, some (.long x5), none, some (.int x7)] [] SI12 SJ12 (QL Q)) ∧ (¬ r11 = (i3 (-1)) → gj_Goes E om0 mt_263 137 [some (.ref 81), some (.int x1), some (.int x2), some (.long x3), none, some (.long x5), none, some (.int x7)] [] SI12 SJ12 (QL Q))
    refine ⟨fun c12 => ?_, fun c12 => ?_⟩
    · refine gj_goq gj_clT ok_263 [9, 26, 32, 42, 48, 51, 62, 69, 75, 80, 85, 88, 98, 161, 175] ?_
      show gj_Do E om0 (gj_mt 184) [(.ref 81)] SI12 SJ12 _
      refine gj_Do.mono (q11.1 c12) (fun v_ SI14 SJ14 h_ => ?_)
      obtain ⟨rfl, q13⟩ := h_
      show gj_Goes E om0 mt_263 62 [some (.ref 81), some (.int x1), some (.int x2), some (.long x3), none, some (.long x5), none, some (.int x7)] [] SI14 SJ14 (QL Q)
      refine gj_goq gj_clT ok_263 [9, 26, 32, 42, 48, 51, 62, 69, 75, 80, 85, 88, 98, 161, 175] ?_
      show gj_Do E om0 (gj_mt 177) [(.ref 81), (.int x7)] SI14 SJ14 _
      refine gj_Do.mono q13 (fun v_ SI16 SJ16 h_ => ?_)
      obtain ⟨r15, rfl, q14⟩ := h_
      show gj_Goes E om0 mt_263 69 [some (.ref 81), some (.int x1), some (.int x2), some (.long x3), none, some (.long x5), none, some (.int x7)] [(.int r15), (.ref 81)] SI16 SJ16 (QL Q)
      refine gj_goq gj_clT ok_263 [9, 26, 32, 42, 48, 51, 62, 69, 75, 80, 85, 88, 98, 161, 175] ?_
      show gj_Do E om0 (gj_mt 178) [(.ref 81), (.int x7)] SI16 SJ16 _
      refine gj_Do.mono q14 (fun v_ SI18 SJ18 h_ => ?_)
      obtain ⟨r17, rfl, q15⟩ := h_
      show gj_Goes E om0 mt_263 75 [some (.ref 81), some (.int x1), some (.int x2), some (.long x3), none, some (.long x5), none, some (.int x7)] [(.int r17), (.int r15), (.ref 81)] SI18 SJ18 (QL Q)
      refine gj_goq gj_clT ok_263 [9, 26, 32, 42, 48, 51, 62, 69, 75, 80, 85, 88, 98, 161, 175] ?_
      show gj_Do E om0 (gj_mt 183) [(.ref 81), (.int r15), (.int r17), (.int (i3 6))] SI18 SJ18 _
      refine gj_Do.mono q15 (fun v_ SI20 SJ20 h_ => ?_)
      obtain ⟨rfl, q16⟩ := h_
      show gj_Goes E om0 mt_263 80 [some (.ref 81), some (.int x1), some (.int x2), some (.long x3), none, some (.long x5), none, some (.int x7)] [] SI20 SJ20 (QL Q)
      refine gj_goq gj_clT ok_263 [9, 26, 32, 42, 48, 51, 62, 69, 75, 80, 85, 88, 98, 161, 175] ?_
      show gj_Do E om0 (gj_mt 185) [(.ref 81)] SI20 SJ20 _
      refine gj_Do.mono q16 (fun v_ SI22 SJ22 h_ => ?_)
      obtain ⟨r21, rfl, q17⟩ := h_
      show gj_Goes E om0 mt_263 85 [some (.ref 81), some (.int x1), some (.int x2), some (.long x3), none, some (.long x5), none, some (.int x7)] [(.int r21), (.ref 81)] SI22 SJ22 (QL Q)
      refine gj_goq gj_clT ok_263 [9, 26, 32, 42, 48, 51, 62, 69, 75, 80, 85, 88, 98, 161, 175] ?_
      show gj_Do E om0 (gj_mt 194) [(.ref 81), (.int r21)] SI22 SJ22 _
      refine gj_Do.mono q17 (fun v_ SI24 SJ24 h_ => ?_)
      obtain ⟨r23, rfl, q18⟩ := h_
      show gj_Goes E om0 mt_263 88 [some (.ref 81), some (.int x1), some (.int x2), some (.long x3), none, some (.long x5), none, some (.int x7)] [(.int r23)] SI24 SJ24 (QL Q)
      refine gj_goq gj_clT ok_263 [9, 26, 32, 42, 48, 51, 62, 69, 75, 80, 85, 88, 98, 161, 175] ?_
      show (¬ r23 = 0 → gj_Goes E om0 mt_263 94 [some (.ref 81), some (.int x1), some (.int x2), some (.long x3), none, some (.long x5), none, some (.int x7)] [] SI24 SJ24 (QL Q)) ∧ (r23 = 0 → gj_Goes E om0 mt_263 137 [some (.ref 81), some (.int x1), some (.int x2), some (.long x3), none, some (.long x5), none, some (.int x7)] [] SI24 SJ24 (QL Q))
      refine ⟨fun c19 => ?_, fun c19 => ?_⟩
      · refine gj_goq gj_clT ok_263 [9, 26, 32, 42, 48, 51, 62, 69, 75, 80, 85, 88, 98, 161, 175] ?_
        show gj_Do E om0 (gj_mt 253) [(.ref 81)] SI24 SJ24 _
        refine gj_Do.mono (q18.1 c19) (fun v_ SI26 SJ26 h_ => ?_)
        obtain ⟨rfl, q20⟩ := h_
        show gj_Goes E om0 mt_263 98 [some (.ref 81), some (.int x1), some (.int x2), some (.long x3), none, some (.long x5), none, some (.int x7)] [] SI26 SJ26 (QL Q)
        refine gj_goq gj_clT ok_263 [9, 26, 32, 42, 48, 51, 62, 69, 75, 80, 85, 88, 98, 161, 175] ?_
        show (x2 = (i3 (-1)) → gj_Goes E om0 mt_263 123 [some (.ref 81), some (.int x1), some (.int x2), some (.long x3), none, some (.long x5), none, some (.int x7)] [] SI26 SJ26 (QL Q)) ∧ (¬ x2 = (i3 (-1)) → (0 < (lg_cmp ((SJ26 81 43) * x5) (x3 * (SJ26 81 44))) → gj_Goes E om0 mt_263 123 [some (.ref 81), some (.int x1), some (.int x2), some (.long x3), none, some (.long x5), none, some (.int x7)] [] SI26 SJ26 (QL Q)) ∧ (¬ 0 < (lg_cmp ((SJ26 81 43) * x5) (x3 * (SJ26 81 44))) → gj_Goes E om0 mt_263 137 [some (.ref 81), some (.int x1), some (.int x2), some (.long x3), none, some (.long x5), none, some (.int x7)] [] SI26 SJ26 (QL Q)))
        refine ⟨fun c21 => ?_, fun c21 => ?_⟩
        · refine gj_goq gj_clT ok_263 [9, 26, 32, 42, 48, 51, 62, 69, 75, 80, 85, 88, 98, 161, 175] ?_
          show gj_Goes E om0 mt_263 26 [some (.ref 81), some (.int x1), some (.int x7), some (.long (SJ26 81 43)), none, some (.long (SJ26 81 44)), none, some (.int (x7 + (i3 1)))] [] SI26 SJ26 (QL Q)
          exact (q20.1 c21)
        · refine ⟨fun c22 => ?_, fun c22 => ?_⟩
          · refine gj_goq gj_clT ok_263 [9, 26, 32, 42, 48, 51, 62, 69, 75, 80, 85, 88, 98, 161, 175] ?_
            show gj_Goes E om0 mt_263 26 [some (.ref 81), some (.int x1), some (.int x7), some (.long (SJ26 81 43)), none, some (.long (SJ26 81 44)), none, some (.int (x7 + (i3 1)))] [] SI26 SJ26 (QL Q)
            exact ((q20.2 c21).1 (lgc_gt.mp c22))
          · refine gj_goq gj_clT ok_263 [9, 26, 32, 42, 48, 51, 62, 69, 75, 80, 85, 88, 98, 161, 175] ?_
            show gj_Goes E om0 mt_263 26 [some (.ref 81), some (.int x1), some (.int x2), some (.long x3), none, some (.long x5), none, some (.int (x7 + (i3 1)))] [] SI26 SJ26 (QL Q)
            exact ((q20.2 c21).2 (fun z_ => c22 (lgc_gt.mpr z_)))
      · refine gj_goq gj_clT ok_263 [9, 26, 32, 42, 48, 51, 62, 69, 75, 80, 85, 88, 98, 161, 175] ?_
        show gj_Goes E om0 mt_263 26 [some (.ref 81), some (.int x1), some (.int x2), some (.long x3), none, some (.long x5), none, some (.int (x7 + (i3 1)))] [] SI24 SJ24 (QL Q)
        exact (q18.2 c19)
    · refine gj_goq gj_clT ok_263 [9, 26, 32, 42, 48, 51, 62, 69, 75, 80, 85, 88, 98, 161, 175] ?_
      show gj_Goes E om0 mt_263 26 [some (.ref 81), some (.int x1), some (.int x2), some (.long x3), none, some (.long x5), none, some (.int (x7 + (i3 1)))] [] SI12 SJ12 (QL Q)
      exact (q11.2 c12)
set_option maxRecDepth 20000 in
/-- GraspJudgeModel.two -/
theorem st_264 {E : gj_E} {Q : Int64 → gj_I → gj_J → Prop} (a1 : Int32) (SI : gj_I) (SJ : gj_J) (h : DoI E 155 [(.long (a1).toInt64), (.long (i6 0)), (.long (i6 4))] SI SJ (fun r1 SI2 SJ2 => (¬ r1 = 0 → DoI E 176 [(.ref 81)] SI2 SJ2 (fun r3 SI4 SJ4 => GoL E mt_264 44 [some (.ref 81), some (.int a1), some (.int (i3 0)), some (.int (i3 (-2))), some (.int (i3 (-2))), some (.long (i6 (-2))), none, some (.long (i6 (-2))), none, some (.int r3), some (.int (i3 0)), none] SI4 SJ4 Q)) ∧ (r1 = 0 → Q (i6 (-9000000000000000000)) SI2 SJ2))) : DoL E 264 [(.ref 81), (.int a1)] SI SJ Q := by
  refine gj_start (M := mt_264) ok_264 (Nat.le_of_ble_eq_true rfl) ?_
  refine gj_goq gj_clT ok_264 [9, 39, 44, 57, 76, 82, 86, 93, 99, 103, 108, 111, 121] ?_
  show gj_Do E om0 (gj_mt 155) [(.long (a1).toInt64), (.long (i6 0)), (.long (i6 4))] SI SJ _
  refine gj_Do.mono h (fun v_ SI2 SJ2 h_ => ?_)
  obtain ⟨r1, rfl, q1⟩ := h_
  show gj_Goes E om0 mt_264 9 [some (.ref 81), some (.int a1), none, none, none, none, none, none, none, none, none, none] [(.int r1)] SI2 SJ2 (QL Q)
  refine gj_goq gj_clT ok_264 [9, 39, 44, 57, 76, 82, 86, 93, 99, 103, 108, 111, 121] ?_
  show (¬ r1 = 0 → gj_Goes E om0 mt_264 16 [some (.ref 81), some (.int a1), none, none, none, none, none, none, none, none, none, none] [] SI2 SJ2 (QL Q)) ∧ (r1 = 0 → QL Q (some (.long (i6 (-9000000000000000000)))) SI2 SJ2)
  refine ⟨fun c2 => ?_, fun c2 => ?_⟩
  · refine gj_goq gj_clT ok_264 [9, 39, 44, 57, 76, 82, 86, 93, 99, 103, 108, 111, 121] ?_
    show gj_Do E om0 (gj_mt 176) [(.ref 81)] SI2 SJ2 _
    refine gj_Do.mono (q1.1 c2) (fun v_ SI4 SJ4 h_ => ?_)
    obtain ⟨r3, rfl, q3⟩ := h_
    show gj_Goes E om0 mt_264 39 [some (.ref 81), some (.int a1), some (.int (i3 0)), some (.int (i3 (-2))), some (.int (i3 (-2))), some (.long (i6 (-2))), none, some (.long (i6 (-2))), none, none, none, none] [(.int r3)] SI4 SJ4 (QL Q)
    refine gj_goq gj_clT ok_264 [9, 39, 44, 57, 76, 82, 86, 93, 99, 103, 108, 111, 121] ?_
    show gj_Goes E om0 mt_264 44 [some (.ref 81), some (.int a1), some (.int (i3 0)), some (.int (i3 (-2))), some (.int (i3 (-2))), some (.long (i6 (-2))), none, some (.long (i6 (-2))), none, some (.int r3), some (.int (i3 0)), none] [] SI4 SJ4 (QL Q)
    exact q3
  · exact ⟨_, rfl, (q1.2 c2)⟩
set_option maxRecDepth 20000 in
theorem lp_264_44 {E : gj_E} {Q : Int64 → gj_I → gj_J → Prop} (x1 : Int32) (x2 : Int32) (x3 : Int32) (x4 : Int32) (x5 : Int64) (x7 : Int64) (x9 : Int32) (x10 : Int32) (SI : gj_I) (SJ : gj_J) (h : (x9 ≤ x10 → (¬ x1 = 0 → (¬ x1 = (i3 1) → (¬ x1 = (i3 2) → (¬ x1 = (i3 3) → Q x7 SI SJ) ∧ (x1 = (i3 3) → Q x5 SI SJ)) ∧ (x1 = (i3 2) → Q (x4).toInt64 SI SJ)) ∧ (x1 = (i3 1) → Q (x3).toInt64 SI SJ)) ∧ (x1 = 0 → Q (x2).toInt64 SI SJ)) ∧ (¬ x9 ≤ x10 → GoL E mt_264 57 [some (.ref 81), some (.int x1), some (.int x2), some (.int x3), some (.int x4), some (.long x5), none, some (.long x7), none, some (.int x9), some (.int x10), some (.int (x10 + (i3 1)))] SI SJ Q)) : GoL E mt_264 44 [some (.ref 81), some (.int x1), some (.int x2), some (.int x3), some (.int x4), some (.long x5), none, some (.long x7), none, some (.int x9), some (.int x10), none] SI SJ Q := by
  refine gj_goq gj_clT ok_264 [9, 39, 44, 57, 76, 82, 86, 93, 99, 103, 108, 111, 121] ?_
  show (x9 ≤ x10 → gj_Goes E om0 mt_264 181 [some (.ref 81), some (.int x1), some (.int x2), some (.int x3), some (.int x4), some (.long x5), none, some (.long x7), none, some (.int x9), some (.int x10), none] [] SI SJ (QL Q)) ∧ (¬ x9 ≤ x10 → gj_Goes E om0 mt_264 57 [some (.ref 81), some (.int x1), some (.int x2), some (.int x3), some (.int x4), some (.long x5), none, some (.long x7), none, some (.int x9), some (.int x10), some (.int (x10 + (i3 1)))] [] SI SJ (QL Q))
  refine ⟨fun c1 => ?_, fun c1 => ?_⟩
  · refine gj_goq gj_clT ok_264 [9, 39, 44, 57, 76, 82, 86, 93, 99, 103, 108, 111, 121] ?_
    show (¬ x1 = 0 → gj_Goes E om0 mt_264 190 [some (.ref 81), some (.int x1), some (.int x2), some (.int x3), some (.int x4), some (.long x5), none, some (.long x7), none, some (.int x9), some (.int x10), none] [] SI SJ (QL Q)) ∧ (x1 = 0 → gj_Goes E om0 mt_264 223 [some (.ref 81), some (.int x1), some (.int x2), some (.int x3), some (.int x4), some (.long x5), none, some (.long x7), none, some (.int x9), some (.int x10), none] [(.long (x2).toInt64)] SI SJ (QL Q))
    refine ⟨fun c2 => ?_, fun c2 => ?_⟩
    · refine gj_goq gj_clT ok_264 [9, 39, 44, 57, 76, 82, 86, 93, 99, 103, 108, 111, 121] ?_
      show (¬ x1 = (i3 1) → gj_Goes E om0 mt_264 200 [some (.ref 81), some (.int x1), some (.int x2), some (.int x3), some (.int x4), some (.long x5), none, some (.long x7), none, some (.int x9), some (.int x10), none] [] SI SJ (QL Q)) ∧ (x1 = (i3 1) → gj_Goes E om0 mt_264 223 [some (.ref 81), some (.int x1), some (.int x2), some (.int x3), some (.int x4), some (.long x5), none, some (.long x7), none, some (.int x9), some (.int x10), none] [(.long (x3).toInt64)] SI SJ (QL Q))
      refine ⟨fun c3 => ?_, fun c3 => ?_⟩
      · refine gj_goq gj_clT ok_264 [9, 39, 44, 57, 76, 82, 86, 93, 99, 103, 108, 111, 121] ?_
        show (¬ x1 = (i3 2) → gj_Goes E om0 mt_264 211 [some (.ref 81), some (.int x1), some (.int x2), some (.int x3), some (.int x4), some (.long x5), none, some (.long x7), none, some (.int x9), some (.int x10), none] [] SI SJ (QL Q)) ∧ (x1 = (i3 2) → gj_Goes E om0 mt_264 223 [some (.ref 81), some (.int x1), some (.int x2), some (.int x3), some (.int x4), some (.long x5), none, some (.long x7), none, some (.int x9), some (.int x10), none] [(.long (x4).toInt64)] SI SJ (QL Q))
        refine ⟨fun c4 => ?_, fun c4 => ?_⟩
        · refine gj_goq gj_clT ok_264 [9, 39, 44, 57, 76, 82, 86, 93, 99, 103, 108, 111, 121] ?_
          show (¬ x1 = (i3 3) → gj_Goes E om0 mt_264 221 [some (.ref 81), some (.int x1), some (.int x2), some (.int x3), some (.int x4), some (.long x5), none, some (.long x7), none, some (.int x9), some (.int x10), none] [] SI SJ (QL Q)) ∧ (x1 = (i3 3) → gj_Goes E om0 mt_264 223 [some (.ref 81), some (.int x1), some (.int x2), some (.int x3), some (.int x4), some (.long x5), none, some (.long x7), none, some (.int x9), some (.int x10), none] [(.long x5)] SI SJ (QL Q))
          refine ⟨fun c5 => ?_, fun c5 => ?_⟩
          · refine gj_goq gj_clT ok_264 [9, 39, 44, 57, 76, 82, 86, 93, 99, 103, 108, 111, 121] ?_
            show QL Q (some (.long x7)) SI SJ
            exact ⟨_, rfl, (((((h.1 c1).1 c2).1 c3).1 c4).1 c5)⟩
          · refine gj_goq gj_clT ok_264 [9, 39, 44, 57, 76, 82, 86, 93, 99, 103, 108, 111, 121] ?_
            show QL Q (some (.long x5)) SI SJ
            exact ⟨_, rfl, (((((h.1 c1).1 c2).1 c3).1 c4).2 c5)⟩
        · refine gj_goq gj_clT ok_264 [9, 39, 44, 57, 76, 82, 86, 93, 99, 103, 108, 111, 121] ?_
          show QL Q (some (.long (x4).toInt64)) SI SJ
          exact ⟨_, rfl, ((((h.1 c1).1 c2).1 c3).2 c4)⟩
      · refine gj_goq gj_clT ok_264 [9, 39, 44, 57, 76, 82, 86, 93, 99, 103, 108, 111, 121] ?_
        show QL Q (some (.long (x3).toInt64)) SI SJ
        exact ⟨_, rfl, (((h.1 c1).1 c2).2 c3)⟩
    · refine gj_goq gj_clT ok_264 [9, 39, 44, 57, 76, 82, 86, 93, 99, 103, 108, 111, 121] ?_
      show QL Q (some (.long (x2).toInt64)) SI SJ
      exact ⟨_, rfl, ((h.1 c1).2 c2)⟩
  · exact (h.2 c1)
set_option maxRecDepth 20000 in
theorem lp_264_57 {E : gj_E} {Q : Int64 → gj_I → gj_J → Prop} (x1 : Int32) (x2 : Int32) (x3 : Int32) (x4 : Int32) (x5 : Int64) (x7 : Int64) (x9 : Int32) (x10 : Int32) (x11 : Int32) (SI : gj_I) (SJ : gj_J) (h : (x9 ≤ x11 → GoL E mt_264 44 [some (.ref 81), some (.int x1), some (.int x2), some (.int x3), some (.int x4), some (.long x5), none, some (.long x7), none, some (.int x9), some (.int (x10 + (i3 1))), none] SI SJ Q) ∧ (¬ x9 ≤ x11 → DoI E 177 [(.ref 81), (.int x10)] (gj_u2 SI 81 8 (i3 0)) SJ (fun r1 SI2 SJ2 => DoI E 178 [(.ref 81), (.int x10)] SI2 SJ2 (fun r3 SI4 SJ4 => DoV E 183 [(.ref 81), (.int r1), (.int r3), (.int (i3 0))] SI4 SJ4 (fun SI6 SJ6 => DoI E 177 [(.ref 81), (.int x11)] SI6 SJ6 (fun r7 SI8 SJ8 => DoI E 178 [(.ref 81), (.int x11)] SI8 SJ8 (fun r9 SI10 SJ10 => DoV E 183 [(.ref 81), (.int r7), (.int r9), (.int (i3 1))] SI10 SJ10 (fun SI12 SJ12 => DoI E 185 [(.ref 81)] SI12 SJ12 (fun r13 SI14 SJ14 => DoI E 194 [(.ref 81), (.int r13)] SI14 SJ14 (fun r15 SI16 SJ16 => (¬ r15 = 0 → DoV E 253 [(.ref 81)] SI16 SJ16 (fun SI18 SJ18 => (x3 < 0 → GoL E mt_264 57 [some (.ref 81), some (.int x1), some (.int (x2 + (i3 1))), some (.int x10), some (.int x11), some (.long (SJ18 81 43)), none, some (.long (SJ18 81 44)), none, some (.int x9), some (.int x10), some (.int (x11 + (i3 1)))] SI18 SJ18 Q) ∧ (¬ x3 < 0 → (((SJ18 81 43) * x7) > (x5 * (SJ18 81 44)) → GoL E mt_264 57 [some (.ref 81), some (.int x1), some (.int (x2 + (i3 1))), some (.int x10), some (.int x11), some (.long (SJ18 81 43)), none, some (.long (SJ18 81 44)), none, some (.int x9), some (.int x10), some (.int (x11 + (i3 1)))] SI18 SJ18 Q) ∧ (¬ ((SJ18 81 43) * x7) > (x5 * (SJ18 81 44)) → GoL E mt_264 57 [some (.ref 81), some (.int x1), some (.int (x2 + (i3 1))), some (.int x3), some (.int x4), some (.long x5), none, some (.long x7), none, some (.int x9), some (.int x10), some (.int (x11 + (i3 1)))] SI18 SJ18 Q)))) ∧ (r15 = 0 → GoL E mt_264 57 [some (.ref 81), some (.int x1), some (.int x2), some (.int x3), some (.int x4), some (.long x5), none, some (.long x7), none, some (.int x9), some (.int x10), some (.int (x11 + (i3 1)))] SI16 SJ16 Q))))))))))) : GoL E mt_264 57 [some (.ref 81), some (.int x1), some (.int x2), some (.int x3), some (.int x4), some (.long x5), none, some (.long x7), none, some (.int x9), some (.int x10), some (.int x11)] SI SJ Q := by
  refine gj_goq gj_clT ok_264 [9, 39, 44, 57, 76, 82, 86, 93, 99, 103, 108, 111, 121] ?_
  show (x9 ≤ x11 → gj_Goes E om0 mt_264 175 [some (.ref 81), some (.int x1), some (.int x2), some (.int x3), some (.int x4), some (.long x5), none, some (.long x7), none, some (.int x9), some (.int x10), some (.int x11)] [] SI SJ (QL Q)) ∧ (¬ x9 ≤ x11 → gj_Do E om0 (gj_mt 177) [(.ref 81), (.int x10)] (gj_u2 SI 81 8 (i3 0)) SJ _)
  refine ⟨fun c1 => ?_, fun c1 => ?_⟩
  · refine gj_goq gj_clT ok_264 [9, 39, 44, 57, 76, 82, 86, 93, 99, 103, 108, 111, 121] ?_
    show gj_Goes E om0 mt_264 44 [some (.ref 81), some (.int x1), some (.int x2), some (.int x3), some (.int x4), some (.long x5), none, some (.long x7), none, some (.int x9), some (.int (x10 + (i3 1))), some (.int x11)] [] SI SJ (QL Q)
    exact gj_fh (h.1 c1) (And.intro (Or.inr rfl) (And.intro (Or.inr rfl) (And.intro (Or.inr rfl) (And.intro (Or.inr rfl) (And.intro (Or.inr rfl) (And.intro (Or.inr rfl) (And.intro (Or.inl rfl) (And.intro (Or.inr rfl) (And.intro (Or.inl rfl) (And.intro (Or.inr rfl) (And.intro (Or.inr rfl) (And.intro (Or.inl rfl) trivial))))))))))))
  · refine gj_Do.mono (h.2 c1) (fun v_ SI2 SJ2 h_ => ?_)
    obtain ⟨r1, rfl, q2⟩ := h_
    show gj_Goes E om0 mt_264 76 [some (.ref 81), some (.int x1), some (.int x2), some (.int x3), some (.int x4), some (.long x5), none, some (.long x7), none, some (.int x9), some (.int x10), some (.int x11)] [(.int r1), (.ref 81)] SI2 SJ2 (QL Q)
    refine gj_goq gj_clT ok_264 [9, 39, 44, 57, 76, 82, 86, 93, 99, 103, 108, 111, 121] ?_
    show gj_Do E om0 (gj_mt 178) [(.ref 81), (.int x10)] SI2 SJ2 _
    refine gj_Do.mono q2 (fun v_ SI4 SJ4 h_ => ?_)
    obtain ⟨r3, rfl, q3⟩ := h_
    show gj_Goes E om0 mt_264 82 [some (.ref 81), some (.int x1), some (.int x2), some (.int x3), some (.int x4), some (.long x5), none, some (.long x7), none, some (.int x9), some (.int x10), some (.int x11)] [(.int r3), (.int r1), (.ref 81)] SI4 SJ4 (QL Q)
    refine gj_goq gj_clT ok_264 [9, 39, 44, 57, 76, 82, 86, 93, 99, 103, 108, 111, 121] ?_
    show gj_Do E om0 (gj_mt 183) [(.ref 81), (.int r1), (.int r3), (.int (i3 0))] SI4 SJ4 _
    refine gj_Do.mono q3 (fun v_ SI6 SJ6 h_ => ?_)
    obtain ⟨rfl, q4⟩ := h_
    show gj_Goes E om0 mt_264 86 [some (.ref 81), some (.int x1), some (.int x2), some (.int x3), some (.int x4), some (.long x5), none, some (.long x7), none, some (.int x9), some (.int x10), some (.int x11)] [] SI6 SJ6 (QL Q)
    refine gj_goq gj_clT ok_264 [9, 39, 44, 57, 76, 82, 86, 93, 99, 103, 108, 111, 121] ?_
    show gj_Do E om0 (gj_mt 177) [(.ref 81), (.int x11)] SI6 SJ6 _
    refine gj_Do.mono q4 (fun v_ SI8 SJ8 h_ => ?_)
    obtain ⟨r7, rfl, q5⟩ := h_
    show gj_Goes E om0 mt_264 93 [some (.ref 81), some (.int x1), some (.int x2), some (.int x3), some (.int x4), some (.long x5), none, some (.long x7), none, some (.int x9), some (.int x10), some (.int x11)] [(.int r7), (.ref 81)] SI8 SJ8 (QL Q)
    refine gj_goq gj_clT ok_264 [9, 39, 44, 57, 76, 82, 86, 93, 99, 103, 108, 111, 121] ?_
    show gj_Do E om0 (gj_mt 178) [(.ref 81), (.int x11)] SI8 SJ8 _
    refine gj_Do.mono q5 (fun v_ SI10 SJ10 h_ => ?_)
    obtain ⟨r9, rfl, q6⟩ := h_
    show gj_Goes E om0 mt_264 99 [some (.ref 81), some (.int x1), some (.int x2), some (.int x3), some (.int x4), some (.long x5), none, some (.long x7), none, some (.int x9), some (.int x10), some (.int x11)] [(.int r9), (.int r7), (.ref 81)] SI10 SJ10 (QL Q)
    refine gj_goq gj_clT ok_264 [9, 39, 44, 57, 76, 82, 86, 93, 99, 103, 108, 111, 121] ?_
    show gj_Do E om0 (gj_mt 183) [(.ref 81), (.int r7), (.int r9), (.int (i3 1))] SI10 SJ10 _
    refine gj_Do.mono q6 (fun v_ SI12 SJ12 h_ => ?_)
    obtain ⟨rfl, q7⟩ := h_
    show gj_Goes E om0 mt_264 103 [some (.ref 81), some (.int x1), some (.int x2), some (.int x3), some (.int x4), some (.long x5), none, some (.long x7), none, some (.int x9), some (.int x10), some (.int x11)] [] SI12 SJ12 (QL Q)
    refine gj_goq gj_clT ok_264 [9, 39, 44, 57, 76, 82, 86, 93, 99, 103, 108, 111, 121] ?_
    show gj_Do E om0 (gj_mt 185) [(.ref 81)] SI12 SJ12 _
    refine gj_Do.mono q7 (fun v_ SI14 SJ14 h_ => ?_)
    obtain ⟨r13, rfl, q8⟩ := h_
    show gj_Goes E om0 mt_264 108 [some (.ref 81), some (.int x1), some (.int x2), some (.int x3), some (.int x4), some (.long x5), none, some (.long x7), none, some (.int x9), some (.int x10), some (.int x11)] [(.int r13), (.ref 81)] SI14 SJ14 (QL Q)
    refine gj_goq gj_clT ok_264 [9, 39, 44, 57, 76, 82, 86, 93, 99, 103, 108, 111, 121] ?_
    show gj_Do E om0 (gj_mt 194) [(.ref 81), (.int r13)] SI14 SJ14 _
    refine gj_Do.mono q8 (fun v_ SI16 SJ16 h_ => ?_)
    obtain ⟨r15, rfl, q9⟩ := h_
    show gj_Goes E om0 mt_264 111 [some (.ref 81), some (.int x1), some (.int x2), some (.int x3), some (.int x4), some (.long x5), none, some (.long x7), none, some (.int x9), some (.int x10), some (.int x11)] [(.int r15)] SI16 SJ16 (QL Q)
    refine gj_goq gj_clT ok_264 [9, 39, 44, 57, 76, 82, 86, 93, 99, 103, 108, 111, 121] ?_
    show (¬ r15 = 0 → gj_Goes E om0 mt_264 117 [some (.ref 81), some (.int x1), some (.int x2), some (.int x3), some (.int x4), some (.long x5), none, some (.long x7), none, some (.int x9), some (.int x10), some (.int x11)] [] SI16 SJ16 (QL Q)) ∧ (r15 = 0 → gj_Goes E om0 mt_264 169 [some (.ref 81), some (.int x1), some (.int x2), some (.int x3), some (.int x4), some (.long x5), none, some (.long x7), none, some (.int x9), some (.int x10), some (.int x11)] [] SI16 SJ16 (QL Q))
    refine ⟨fun c10 => ?_, fun c10 => ?_⟩
    · refine gj_goq gj_clT ok_264 [9, 39, 44, 57, 76, 82, 86, 93, 99, 103, 108, 111, 121] ?_
      show gj_Do E om0 (gj_mt 253) [(.ref 81)] SI16 SJ16 _
      refine gj_Do.mono (q9.1 c10) (fun v_ SI18 SJ18 h_ => ?_)
      obtain ⟨rfl, q11⟩ := h_
      show gj_Goes E om0 mt_264 121 [some (.ref 81), some (.int x1), some (.int x2), some (.int x3), some (.int x4), some (.long x5), none, some (.long x7), none, some (.int x9), some (.int x10), some (.int x11)] [] SI18 SJ18 (QL Q)
      refine gj_goq gj_clT ok_264 [9, 39, 44, 57, 76, 82, 86, 93, 99, 103, 108, 111, 121] ?_
      show (x3 < 0 → gj_Goes E om0 mt_264 150 [some (.ref 81), some (.int x1), some (.int (x2 + (i3 1))), some (.int x3), some (.int x4), some (.long x5), none, some (.long x7), none, some (.int x9), some (.int x10), some (.int x11)] [] SI18 SJ18 (QL Q)) ∧ (¬ x3 < 0 → (0 < (lg_cmp ((SJ18 81 43) * x7) (x5 * (SJ18 81 44))) → gj_Goes E om0 mt_264 150 [some (.ref 81), some (.int x1), some (.int (x2 + (i3 1))), some (.int x3), some (.int x4), some (.long x5), none, some (.long x7), none, some (.int x9), some (.int x10), some (.int x11)] [] SI18 SJ18 (QL Q)) ∧ (¬ 0 < (lg_cmp ((SJ18 81 43) * x7) (x5 * (SJ18 81 44))) → gj_Goes E om0 mt_264 169 [some (.ref 81), some (.int x1), some (.int (x2 + (i3 1))), some (.int x3), some (.int x4), some (.long x5), none, some (.long x7), none, some (.int x9), some (.int x10), some (.int x11)] [] SI18 SJ18 (QL Q)))
      refine ⟨fun c12 => ?_, fun c12 => ?_⟩
      · refine gj_goq gj_clT ok_264 [9, 39, 44, 57, 76, 82, 86, 93, 99, 103, 108, 111, 121] ?_
        show gj_Goes E om0 mt_264 57 [some (.ref 81), some (.int x1), some (.int (x2 + (i3 1))), some (.int x10), some (.int x11), some (.long (SJ18 81 43)), none, some (.long (SJ18 81 44)), none, some (.int x9), some (.int x10), some (.int (x11 + (i3 1)))] [] SI18 SJ18 (QL Q)
        exact (q11.1 c12)
      · refine ⟨fun c13 => ?_, fun c13 => ?_⟩
        · refine gj_goq gj_clT ok_264 [9, 39, 44, 57, 76, 82, 86, 93, 99, 103, 108, 111, 121] ?_
          show gj_Goes E om0 mt_264 57 [some (.ref 81), some (.int x1), some (.int (x2 + (i3 1))), some (.int x10), some (.int x11), some (.long (SJ18 81 43)), none, some (.long (SJ18 81 44)), none, some (.int x9), some (.int x10), some (.int (x11 + (i3 1)))] [] SI18 SJ18 (QL Q)
          exact ((q11.2 c12).1 (lgc_gt.mp c13))
        · refine gj_goq gj_clT ok_264 [9, 39, 44, 57, 76, 82, 86, 93, 99, 103, 108, 111, 121] ?_
          show gj_Goes E om0 mt_264 57 [some (.ref 81), some (.int x1), some (.int (x2 + (i3 1))), some (.int x3), some (.int x4), some (.long x5), none, some (.long x7), none, some (.int x9), some (.int x10), some (.int (x11 + (i3 1)))] [] SI18 SJ18 (QL Q)
          exact ((q11.2 c12).2 (fun z_ => c13 (lgc_gt.mpr z_)))
    · refine gj_goq gj_clT ok_264 [9, 39, 44, 57, 76, 82, 86, 93, 99, 103, 108, 111, 121] ?_
      show gj_Goes E om0 mt_264 57 [some (.ref 81), some (.int x1), some (.int x2), some (.int x3), some (.int x4), some (.long x5), none, some (.long x7), none, some (.int x9), some (.int x10), some (.int (x11 + (i3 1)))] [] SI16 SJ16 (QL Q)
      exact (q9.2 c10)
set_option maxRecDepth 20000 in
/-- GraspJudgeModel.isFirmAt -/
theorem st_265 {E : gj_E} {Q : Int32 → gj_I → gj_J → Prop} (a1 : Int32) (a2 : Int32) (SI : gj_I) (SJ : gj_J) (h : vp_in ((i3 24) + a1) 135 ∧ (DoI E 195 [(.ref 81)] (gj_u2 SI 82 (gj_n ((i3 24) + a1)) a2) SJ (fun r1 SI2 SJ2 => (r1 = 0 ∨ r1 = 1) ∧ (Q r1 (gj_u2 SI2 82 (gj_n ((i3 24) + a1)) (SI 82 (gj_n ((i3 24) + a1)))) SJ2)))) : DoI E 265 [(.ref 81), (.int a1), (.int a2)] SI SJ Q := by
  refine gj_start (M := mt_265) ok_265 (Nat.le_of_ble_eq_true rfl) ?_
  refine gj_goq gj_clT ok_265 [24] ?_
  show vp_in ((i3 24) + a1) 135 ∧ (vp_in ((i3 24) + a1) 135 ∧ (gj_Do E om0 (gj_mt 195) [(.ref 81)] (gj_u2 SI 82 (gj_n ((i3 24) + a1)) a2) SJ _))
  have k1 := h.1
  refine ⟨k1, ?_⟩
  refine ⟨k1, ?_⟩
  refine gj_Do.mono h.2 (fun v_ SI2 SJ2 h_ => ?_)
  obtain ⟨r1, rfl, q2⟩ := h_
  show gj_Goes E om0 mt_265 24 [some (.ref 81), some (.int a1), some (.int a2), some (.int (SI 82 (gj_n ((i3 24) + a1)))), none] [(.int r1)] SI2 SJ2 (QI Q)
  refine gj_goq gj_clT ok_265 [24] ?_
  show vp_in ((i3 24) + a1) 135 ∧ ((r1 = 0 ∨ r1 = 1) ∧ (QI Q (some (.int r1)) (gj_u2 SI2 82 (gj_n ((i3 24) + a1)) (SI 82 (gj_n ((i3 24) + a1)))) SJ2))
  refine ⟨k1, ?_⟩
  have k3 := q2.1
  refine ⟨k3, ?_⟩
  exact ⟨_, rfl, q2.2⟩
set_option maxRecDepth 20000 in
/-- GraspJudgeModel.slide -/
theorem st_266 {E : gj_E} {Q : Int32 → gj_I → gj_J → Prop} (a1 : Int32) (a2 : Int32) (SI : gj_I) (SJ : gj_J) (h : DoI E 181 [(.ref 81), (.int a1)] SI SJ (fun r1 SI2 SJ2 => (r1 = 0 → Q (i3 (-1)) SI2 SJ2) ∧ (¬ r1 = 0 → DoI E 155 [(.long (a2).toInt64), (.long (i6 0)), (.long (i6 1))] SI2 SJ2 (fun r3 SI4 SJ4 => (¬ r3 = 0 → DoI E 195 [(.ref 81)] SI4 SJ4 (fun r5 SI6 SJ6 => (¬ r5 = 0 → vp_in ((i3 18) + a1) 135 ∧ ((¬ a2 = 0 → vp_in ((i3 24) + a1) 135 ∧ (GoI E mt_266 62 [some (.ref 81), some (.int a1), none, some (.int (SI6 82 (gj_n ((i3 18) + a1)))), some (.int (i3 1)), some (.int (SI6 82 (gj_n ((i3 24) + a1))))] SI6 SJ6 Q)) ∧ (a2 = 0 → vp_in ((i3 24) + a1) 135 ∧ (GoI E mt_266 62 [some (.ref 81), some (.int a1), none, some (.int (SI6 82 (gj_n ((i3 18) + a1)))), some (.int (i3 (-1))), some (.int (SI6 82 (gj_n ((i3 24) + a1))))] SI6 SJ6 Q)))) ∧ (r5 = 0 → Q (i3 (-2)) SI6 SJ6))) ∧ (r3 = 0 → Q (i3 (-1)) SI4 SJ4))))) : DoI E 266 [(.ref 81), (.int a1), (.int a2)] SI SJ Q := by
  refine gj_start (M := mt_266) ok_266 (Nat.le_of_ble_eq_true rfl) ?_
  refine gj_goq gj_clT ok_266 [5, 15, 24, 62, 74, 80, 93, 107] ?_
  show gj_Do E om0 (gj_mt 181) [(.ref 81), (.int a1)] SI SJ _
  refine gj_Do.mono h (fun v_ SI2 SJ2 h_ => ?_)
  obtain ⟨r1, rfl, q1⟩ := h_
  show gj_Goes E om0 mt_266 5 [some (.ref 81), some (.int a1), some (.int a2), none, none, none] [(.int r1)] SI2 SJ2 (QI Q)
  refine gj_goq gj_clT ok_266 [5, 15, 24, 62, 74, 80, 93, 107] ?_
  show (r1 = 0 → gj_Goes E om0 mt_266 18 [some (.ref 81), some (.int a1), some (.int a2), none, none, none] [] SI2 SJ2 (QI Q)) ∧ (¬ r1 = 0 → gj_Do E om0 (gj_mt 155) [(.long (a2).toInt64), (.long (i6 0)), (.long (i6 1))] SI2 SJ2 _)
  refine ⟨fun c2 => ?_, fun c2 => ?_⟩
  · refine gj_goq gj_clT ok_266 [5, 15, 24, 62, 74, 80, 93, 107] ?_
    show QI Q (some (.int (i3 (-1)))) SI2 SJ2
    exact ⟨_, rfl, (q1.1 c2)⟩
  · refine gj_Do.mono (q1.2 c2) (fun v_ SI4 SJ4 h_ => ?_)
    obtain ⟨r3, rfl, q3⟩ := h_
    show gj_Goes E om0 mt_266 15 [some (.ref 81), some (.int a1), some (.int a2), none, none, none] [(.int r3)] SI4 SJ4 (QI Q)
    refine gj_goq gj_clT ok_266 [5, 15, 24, 62, 74, 80, 93, 107] ?_
    show (¬ r3 = 0 → gj_Goes E om0 mt_266 20 [some (.ref 81), some (.int a1), some (.int a2), none, none, none] [] SI4 SJ4 (QI Q)) ∧ (r3 = 0 → QI Q (some (.int (i3 (-1)))) SI4 SJ4)
    refine ⟨fun c4 => ?_, fun c4 => ?_⟩
    · refine gj_goq gj_clT ok_266 [5, 15, 24, 62, 74, 80, 93, 107] ?_
      show gj_Do E om0 (gj_mt 195) [(.ref 81)] SI4 SJ4 _
      refine gj_Do.mono (q3.1 c4) (fun v_ SI6 SJ6 h_ => ?_)
      obtain ⟨r5, rfl, q5⟩ := h_
      show gj_Goes E om0 mt_266 24 [some (.ref 81), some (.int a1), some (.int a2), none, none, none] [(.int r5)] SI6 SJ6 (QI Q)
      refine gj_goq gj_clT ok_266 [5, 15, 24, 62, 74, 80, 93, 107] ?_
      show (¬ r5 = 0 → gj_Goes E om0 mt_266 30 [some (.ref 81), some (.int a1), some (.int a2), none, none, none] [] SI6 SJ6 (QI Q)) ∧ (r5 = 0 → QI Q (some (.int (i3 (-2)))) SI6 SJ6)
      refine ⟨fun c6 => ?_, fun c6 => ?_⟩
      · refine gj_goq gj_clT ok_266 [5, 15, 24, 62, 74, 80, 93, 107] ?_
        show vp_in ((i3 18) + a1) 135 ∧ ((¬ a2 = 0 → gj_Goes E om0 mt_266 48 [some (.ref 81), some (.int a1), some (.int a2), some (.int (SI6 82 (gj_n ((i3 18) + a1)))), none, none] [] SI6 SJ6 (QI Q)) ∧ (a2 = 0 → gj_Goes E om0 mt_266 49 [some (.ref 81), some (.int a1), some (.int a2), some (.int (SI6 82 (gj_n ((i3 18) + a1)))), none, none] [(.int (i3 (-1)))] SI6 SJ6 (QI Q)))
        have k7 := (q5.1 c6).1
        refine ⟨k7, ?_⟩
        refine ⟨fun c8 => ?_, fun c8 => ?_⟩
        · refine gj_goq gj_clT ok_266 [5, 15, 24, 62, 74, 80, 93, 107] ?_
          show vp_in ((i3 24) + a1) 135 ∧ (gj_Goes E om0 mt_266 62 [some (.ref 81), some (.int a1), some (.int a2), some (.int (SI6 82 (gj_n ((i3 18) + a1)))), some (.int (i3 1)), some (.int (SI6 82 (gj_n ((i3 24) + a1))))] [] SI6 SJ6 (QI Q))
          have k9 := ((q5.1 c6).2.1 c8).1
          refine ⟨k9, ?_⟩
          exact gj_fh ((q5.1 c6).2.1 c8).2 (And.intro (Or.inr rfl) (And.intro (Or.inr rfl) (And.intro (Or.inl rfl) (And.intro (Or.inr rfl) (And.intro (Or.inr rfl) (And.intro (Or.inr rfl) trivial))))))
        · refine gj_goq gj_clT ok_266 [5, 15, 24, 62, 74, 80, 93, 107] ?_
          show vp_in ((i3 24) + a1) 135 ∧ (gj_Goes E om0 mt_266 62 [some (.ref 81), some (.int a1), some (.int a2), some (.int (SI6 82 (gj_n ((i3 18) + a1)))), some (.int (i3 (-1))), some (.int (SI6 82 (gj_n ((i3 24) + a1))))] [] SI6 SJ6 (QI Q))
          have k10 := ((q5.1 c6).2.2 c8).1
          refine ⟨k10, ?_⟩
          exact gj_fh ((q5.1 c6).2.2 c8).2 (And.intro (Or.inr rfl) (And.intro (Or.inr rfl) (And.intro (Or.inl rfl) (And.intro (Or.inr rfl) (And.intro (Or.inr rfl) (And.intro (Or.inr rfl) trivial))))))
      · exact ⟨_, rfl, (q5.2 c6)⟩
    · exact ⟨_, rfl, (q3.2 c4)⟩
set_option maxRecDepth 20000 in
theorem lp_266_62 {E : gj_E} {Q : Int32 → gj_I → gj_J → Prop} (x1 : Int32) (x3 : Int32) (x4 : Int32) (x5 : Int32) (SI : gj_I) (SJ : gj_J) (h : DoI E 165 [(.ref 81), (.int x3)] SI SJ (fun r1 SI2 SJ2 => DoI E 155 [(.long (x5 + x4).toInt64), (.long (i6 1)), (.long (r1 - (i3 1)).toInt64)] SI2 SJ2 (fun r3 SI4 SJ4 => (r3 = 0 → Q x5 SI4 SJ4) ∧ (¬ r3 = 0 → DoI E 180 [(.ref 81), (.int x3), (.int (x5 + x4))] SI4 SJ4 (fun r5 SI6 SJ6 => (¬ r5 = (i3 (-1)) → Q x5 SI6 SJ6) ∧ (r5 = (i3 (-1)) → DoI E 265 [(.ref 81), (.int x1), (.int (x5 + x4))] SI6 SJ6 (fun r7 SI8 SJ8 => (r7 = 0 → Q x5 SI8 SJ8) ∧ (¬ r7 = 0 → GoI E mt_266 62 [some (.ref 81), some (.int x1), none, some (.int x3), some (.int x4), some (.int (x5 + x4))] SI8 SJ8 Q)))))))) : GoI E mt_266 62 [some (.ref 81), some (.int x1), none, some (.int x3), some (.int x4), some (.int x5)] SI SJ Q := by
  refine gj_goq gj_clT ok_266 [5, 15, 24, 62, 74, 80, 93, 107] ?_
  show gj_Do E om0 (gj_mt 165) [(.ref 81), (.int x3)] SI SJ _
  refine gj_Do.mono h (fun v_ SI2 SJ2 h_ => ?_)
  obtain ⟨r1, rfl, q1⟩ := h_
  show gj_Goes E om0 mt_266 74 [some (.ref 81), some (.int x1), none, some (.int x3), some (.int x4), some (.int x5)] [(.int r1), (.long (i6 1)), (.long (x5 + x4).toInt64)] SI2 SJ2 (QI Q)
  refine gj_goq gj_clT ok_266 [5, 15, 24, 62, 74, 80, 93, 107] ?_
  show gj_Do E om0 (gj_mt 155) [(.long (x5 + x4).toInt64), (.long (i6 1)), (.long (r1 - (i3 1)).toInt64)] SI2 SJ2 _
  refine gj_Do.mono q1 (fun v_ SI4 SJ4 h_ => ?_)
  obtain ⟨r3, rfl, q2⟩ := h_
  show gj_Goes E om0 mt_266 80 [some (.ref 81), some (.int x1), none, some (.int x3), some (.int x4), some (.int x5)] [(.int r3)] SI4 SJ4 (QI Q)
  refine gj_goq gj_clT ok_266 [5, 15, 24, 62, 74, 80, 93, 107] ?_
  show (r3 = 0 → gj_Goes E om0 mt_266 120 [some (.ref 81), some (.int x1), none, some (.int x3), some (.int x4), some (.int x5)] [] SI4 SJ4 (QI Q)) ∧ (¬ r3 = 0 → gj_Do E om0 (gj_mt 180) [(.ref 81), (.int x3), (.int (x5 + x4))] SI4 SJ4 _)
  refine ⟨fun c3 => ?_, fun c3 => ?_⟩
  · refine gj_goq gj_clT ok_266 [5, 15, 24, 62, 74, 80, 93, 107] ?_
    show QI Q (some (.int x5)) SI4 SJ4
    exact ⟨_, rfl, (q2.1 c3)⟩
  · refine gj_Do.mono (q2.2 c3) (fun v_ SI6 SJ6 h_ => ?_)
    obtain ⟨r5, rfl, q4⟩ := h_
    show gj_Goes E om0 mt_266 93 [some (.ref 81), some (.int x1), none, some (.int x3), some (.int x4), some (.int x5)] [(.int r5)] SI6 SJ6 (QI Q)
    refine gj_goq gj_clT ok_266 [5, 15, 24, 62, 74, 80, 93, 107] ?_
    show (¬ r5 = (i3 (-1)) → gj_Goes E om0 mt_266 120 [some (.ref 81), some (.int x1), none, some (.int x3), some (.int x4), some (.int x5)] [] SI6 SJ6 (QI Q)) ∧ (r5 = (i3 (-1)) → gj_Do E om0 (gj_mt 265) [(.ref 81), (.int x1), (.int (x5 + x4))] SI6 SJ6 _)
    refine ⟨fun c5 => ?_, fun c5 => ?_⟩
    · refine gj_goq gj_clT ok_266 [5, 15, 24, 62, 74, 80, 93, 107] ?_
      show QI Q (some (.int x5)) SI6 SJ6
      exact ⟨_, rfl, (q4.1 c5)⟩
    · refine gj_Do.mono (q4.2 c5) (fun v_ SI8 SJ8 h_ => ?_)
      obtain ⟨r7, rfl, q6⟩ := h_
      show gj_Goes E om0 mt_266 107 [some (.ref 81), some (.int x1), none, some (.int x3), some (.int x4), some (.int x5)] [(.int r7)] SI8 SJ8 (QI Q)
      refine gj_goq gj_clT ok_266 [5, 15, 24, 62, 74, 80, 93, 107] ?_
      show (r7 = 0 → gj_Goes E om0 mt_266 120 [some (.ref 81), some (.int x1), none, some (.int x3), some (.int x4), some (.int x5)] [] SI8 SJ8 (QI Q)) ∧ (¬ r7 = 0 → gj_Goes E om0 mt_266 62 [some (.ref 81), some (.int x1), none, some (.int x3), some (.int x4), some (.int (x5 + x4))] [] SI8 SJ8 (QI Q))
      refine ⟨fun c7 => ?_, fun c7 => ?_⟩
      · refine gj_goq gj_clT ok_266 [5, 15, 24, 62, 74, 80, 93, 107] ?_
        show QI Q (some (.int x5)) SI8 SJ8
        exact ⟨_, rfl, (q6.1 c7)⟩
      · exact (q6.2 c7)
set_option maxRecDepth 20000 in
/-- GraspJudgeModel.rough -/
theorem st_267 {E : gj_E} {Q : Int32 → gj_I → gj_J → Prop} (a1 : Int32) (SI : gj_I) (SJ : gj_J) (h : DoI E 155 [(.long (a1).toInt64), (.long (i6 0)), (.long (i6 1))] SI SJ (fun r1 SI2 SJ2 => (¬ r1 = 0 → GoI E mt_267 37 [some (.ref 81), some (.int a1), some (.int (SI2 82 30)), some (.int (SI2 82 31)), some (.int (i3 (-1))), some (.int (i3 1)), some (.int (i3 0)), none] SI2 SJ2 Q) ∧ (r1 = 0 → Q (i3 (-1)) SI2 SJ2))) : DoI E 267 [(.ref 81), (.int a1)] SI SJ Q := by
  refine gj_start (M := mt_267) ok_267 (Nat.le_of_ble_eq_true rfl) ?_
  refine gj_goq gj_clT ok_267 [7, 37, 46, 93, 153] ?_
  show gj_Do E om0 (gj_mt 155) [(.long (a1).toInt64), (.long (i6 0)), (.long (i6 1))] SI SJ _
  refine gj_Do.mono h (fun v_ SI2 SJ2 h_ => ?_)
  obtain ⟨r1, rfl, q1⟩ := h_
  show gj_Goes E om0 mt_267 7 [some (.ref 81), some (.int a1), none, none, none, none, none, none] [(.int r1)] SI2 SJ2 (QI Q)
  refine gj_goq gj_clT ok_267 [7, 37, 46, 93, 153] ?_
  show (¬ r1 = 0 → gj_Goes E om0 mt_267 12 [some (.ref 81), some (.int a1), none, none, none, none, none, none] [] SI2 SJ2 (QI Q)) ∧ (r1 = 0 → QI Q (some (.int (i3 (-1)))) SI2 SJ2)
  refine ⟨fun c2 => ?_, fun c2 => ?_⟩
  · refine gj_goq gj_clT ok_267 [7, 37, 46, 93, 153] ?_
    show vp_in (i3 30) 135 ∧ (vp_in (i3 31) 135 ∧ (gj_Goes E om0 mt_267 37 [some (.ref 81), some (.int a1), some (.int (SI2 82 30)), some (.int (SI2 82 31)), some (.int (i3 (-1))), some (.int (i3 1)), some (.int (i3 0)), none] [] SI2 SJ2 (QI Q)))
    refine ⟨(gj_vin (by decide)), ?_⟩
    refine ⟨(gj_vin (by decide)), ?_⟩
    exact (q1.1 c2)
  · exact ⟨_, rfl, (q1.2 c2)⟩
set_option maxRecDepth 20000 in
theorem lp_267_37 {E : gj_E} {Q : Int32 → gj_I → gj_J → Prop} (x1 : Int32) (x2 : Int32) (x3 : Int32) (x4 : Int32) (x5 : Int32) (x6 : Int32) (SI : gj_I) (SJ : gj_J) (h : ((i3 4) ≤ x6 → (¬ x4 = (i3 (-1)) → DoL E 161 [(.long (x4).toInt64), (.long (x5).toInt64)] (gj_u2 (gj_u2 SI 82 30 x2) 82 31 x3) SJ (fun r1 SI2 SJ2 => (¬ x1 = 0 → ¬ (r1).toInt32 = 0 ∧ (Q (x5 / (r1).toInt32) SI2 SJ2)) ∧ (x1 = 0 → ¬ (r1).toInt32 = 0 ∧ (Q (x4 / (r1).toInt32) SI2 SJ2)))) ∧ (x4 = (i3 (-1)) → Q (i3 (-2)) (gj_u2 (gj_u2 SI 82 30 x2) 82 31 x3) SJ)) ∧ (¬ (i3 4) ≤ x6 → GoI E mt_267 46 [some (.ref 81), some (.int x1), some (.int x2), some (.int x3), some (.int x4), some (.int x5), some (.int x6), some (.int (i3 1))] SI SJ Q)) : GoI E mt_267 37 [some (.ref 81), some (.int x1), some (.int x2), some (.int x3), some (.int x4), some (.int x5), some (.int x6), none] SI SJ Q := by
  refine gj_goq gj_clT ok_267 [7, 37, 46, 93, 153] ?_
  show ((i3 4) ≤ x6 → gj_Goes E om0 mt_267 119 [some (.ref 81), some (.int x1), some (.int x2), some (.int x3), some (.int x4), some (.int x5), some (.int x6), none] [] SI SJ (QI Q)) ∧ (¬ (i3 4) ≤ x6 → gj_Goes E om0 mt_267 46 [some (.ref 81), some (.int x1), some (.int x2), some (.int x3), some (.int x4), some (.int x5), some (.int x6), some (.int (i3 1))] [] SI SJ (QI Q))
  refine ⟨fun c1 => ?_, fun c1 => ?_⟩
  · refine gj_goq gj_clT ok_267 [7, 37, 46, 93, 153] ?_
    show vp_in (i3 30) 135 ∧ (vp_in (i3 31) 135 ∧ ((¬ x4 = (i3 (-1)) → gj_Goes E om0 mt_267 144 [some (.ref 81), some (.int x1), some (.int x2), some (.int x3), some (.int x4), some (.int x5), some (.int x6), none] [] (gj_u2 (gj_u2 SI 82 30 x2) 82 31 x3) SJ (QI Q)) ∧ (x4 = (i3 (-1)) → QI Q (some (.int (i3 (-2)))) (gj_u2 (gj_u2 SI 82 30 x2) 82 31 x3) SJ)))
    refine ⟨(gj_vin (by decide)), ?_⟩
    refine ⟨(gj_vin (by decide)), ?_⟩
    refine ⟨fun c2 => ?_, fun c2 => ?_⟩
    · refine gj_goq gj_clT ok_267 [7, 37, 46, 93, 153] ?_
      show gj_Do E om0 (gj_mt 161) [(.long (x4).toInt64), (.long (x5).toInt64)] (gj_u2 (gj_u2 SI 82 30 x2) 82 31 x3) SJ _
      refine gj_Do.mono ((h.1 c1).1 c2) (fun v_ SI2 SJ2 h_ => ?_)
      obtain ⟨r1, rfl, q3⟩ := h_
      show gj_Goes E om0 mt_267 153 [some (.ref 81), some (.int x1), some (.int x2), some (.int x3), some (.int x4), some (.int x5), some (.int x6), none] [(.long r1)] SI2 SJ2 (QI Q)
      refine gj_goq gj_clT ok_267 [7, 37, 46, 93, 153] ?_
      show (¬ x1 = 0 → gj_Goes E om0 mt_267 168 [some (.ref 81), some (.int x1), some (.int x2), some (.int x3), some (.int x4), some (.int x5), some (.int (r1).toInt32), none] [] SI2 SJ2 (QI Q)) ∧ (x1 = 0 → ¬ (r1).toInt32 = 0 ∧ (gj_Goes E om0 mt_267 173 [some (.ref 81), some (.int x1), some (.int x2), some (.int x3), some (.int x4), some (.int x5), some (.int (r1).toInt32), none] [(.int (x4 / (r1).toInt32))] SI2 SJ2 (QI Q)))
      refine ⟨fun c4 => ?_, fun c4 => ?_⟩
      · refine gj_goq gj_clT ok_267 [7, 37, 46, 93, 153] ?_
        show ¬ (r1).toInt32 = 0 ∧ (QI Q (some (.int (x5 / (r1).toInt32))) SI2 SJ2)
        have k5 := (q3.1 c4).1
        refine ⟨k5, ?_⟩
        exact ⟨_, rfl, (q3.1 c4).2⟩
      · have k6 := (q3.2 c4).1
        refine ⟨k6, ?_⟩
        refine gj_goq gj_clT ok_267 [7, 37, 46, 93, 153] ?_
        show QI Q (some (.int (x4 / (r1).toInt32))) SI2 SJ2
        exact ⟨_, rfl, (q3.2 c4).2⟩
    · exact ⟨_, rfl, ((h.1 c1).2 c2)⟩
  · exact (h.2 c1)
set_option maxRecDepth 20000 in
theorem lp_267_46 {E : gj_E} {Q : Int32 → gj_I → gj_J → Prop} (x1 : Int32) (x2 : Int32) (x3 : Int32) (x4 : Int32) (x5 : Int32) (x6 : Int32) (x7 : Int32) (SI : gj_I) (SJ : gj_J) (h : ((i3 4) ≤ x7 → GoI E mt_267 37 [some (.ref 81), some (.int x1), some (.int x2), some (.int x3), some (.int x4), some (.int x5), some (.int (x6 + (i3 1))), none] SI SJ Q) ∧ (¬ (i3 4) ≤ x7 → (x4 = (i3 (-1)) → DoI E 195 [(.ref 81)] (gj_u2 (gj_u2 SI 82 30 x6) 82 31 x7) SJ (fun r1 SI2 SJ2 => (¬ r1 = 0 → GoI E mt_267 46 [some (.ref 81), some (.int x1), some (.int x2), some (.int x3), some (.int x6), some (.int x7), some (.int x6), some (.int (x7 + (i3 1)))] SI2 SJ2 Q) ∧ (r1 = 0 → GoI E mt_267 46 [some (.ref 81), some (.int x1), some (.int x2), some (.int x3), some (.int x4), some (.int x5), some (.int x6), some (.int (x7 + (i3 1)))] SI2 SJ2 Q))) ∧ (¬ x4 = (i3 (-1)) → ((x4 * x7) ≤ (x6 * x5) → GoI E mt_267 46 [some (.ref 81), some (.int x1), some (.int x2), some (.int x3), some (.int x4), some (.int x5), some (.int x6), some (.int (x7 + (i3 1)))] (gj_u2 (gj_u2 SI 82 30 x6) 82 31 x7) SJ Q) ∧ (¬ (x4 * x7) ≤ (x6 * x5) → DoI E 195 [(.ref 81)] (gj_u2 (gj_u2 SI 82 30 x6) 82 31 x7) SJ (fun r3 SI4 SJ4 => (¬ r3 = 0 → GoI E mt_267 46 [some (.ref 81), some (.int x1), some (.int x2), some (.int x3), some (.int x6), some (.int x7), some (.int x6), some (.int (x7 + (i3 1)))] SI4 SJ4 Q) ∧ (r3 = 0 → GoI E mt_267 46 [some (.ref 81), some (.int x1), some (.int x2), some (.int x3), some (.int x4), some (.int x5), some (.int x6), some (.int (x7 + (i3 1)))] SI4 SJ4 Q)))))) : GoI E mt_267 46 [some (.ref 81), some (.int x1), some (.int x2), some (.int x3), some (.int x4), some (.int x5), some (.int x6), some (.int x7)] SI SJ Q := by
  refine gj_goq gj_clT ok_267 [7, 37, 46, 93, 153] ?_
  show ((i3 4) ≤ x7 → gj_Goes E om0 mt_267 113 [some (.ref 81), some (.int x1), some (.int x2), some (.int x3), some (.int x4), some (.int x5), some (.int x6), some (.int x7)] [] SI SJ (QI Q)) ∧ (¬ (i3 4) ≤ x7 → vp_in (i3 30) 135 ∧ (vp_in (i3 31) 135 ∧ ((x4 = (i3 (-1)) → gj_Goes E om0 mt_267 89 [some (.ref 81), some (.int x1), some (.int x2), some (.int x3), some (.int x4), some (.int x5), some (.int x6), some (.int x7)] [] (gj_u2 (gj_u2 SI 82 30 x6) 82 31 x7) SJ (QI Q)) ∧ (¬ x4 = (i3 (-1)) → ((x4 * x7) ≤ (x6 * x5) → gj_Goes E om0 mt_267 107 [some (.ref 81), some (.int x1), some (.int x2), some (.int x3), some (.int x4), some (.int x5), some (.int x6), some (.int x7)] [] (gj_u2 (gj_u2 SI 82 30 x6) 82 31 x7) SJ (QI Q)) ∧ (¬ (x4 * x7) ≤ (x6 * x5) → gj_Do E om0 (gj_mt 195) [(.ref 81)] (gj_u2 (gj_u2 SI 82 30 x6) 82 31 x7) SJ _)))))
  refine ⟨fun c1 => ?_, fun c1 => ?_⟩
  · refine gj_goq gj_clT ok_267 [7, 37, 46, 93, 153] ?_
    show gj_Goes E om0 mt_267 37 [some (.ref 81), some (.int x1), some (.int x2), some (.int x3), some (.int x4), some (.int x5), some (.int (x6 + (i3 1))), some (.int x7)] [] SI SJ (QI Q)
    exact gj_fh (h.1 c1) (And.intro (Or.inr rfl) (And.intro (Or.inr rfl) (And.intro (Or.inr rfl) (And.intro (Or.inr rfl) (And.intro (Or.inr rfl) (And.intro (Or.inr rfl) (And.intro (Or.inr rfl) (And.intro (Or.inl rfl) trivial))))))))
  · refine ⟨(gj_vin (by decide)), ?_⟩
    refine ⟨(gj_vin (by decide)), ?_⟩
    refine ⟨fun c2 => ?_, fun c2 => ?_⟩
    · refine gj_goq gj_clT ok_267 [7, 37, 46, 93, 153] ?_
      show gj_Do E om0 (gj_mt 195) [(.ref 81)] (gj_u2 (gj_u2 SI 82 30 x6) 82 31 x7) SJ _
      refine gj_Do.mono ((h.2 c1).1 c2) (fun v_ SI2 SJ2 h_ => ?_)
      obtain ⟨r1, rfl, q3⟩ := h_
      show gj_Goes E om0 mt_267 93 [some (.ref 81), some (.int x1), some (.int x2), some (.int x3), some (.int x4), some (.int x5), some (.int x6), some (.int x7)] [(.int r1)] SI2 SJ2 (QI Q)
      refine gj_goq gj_clT ok_267 [7, 37, 46, 93, 153] ?_
      show (¬ r1 = 0 → gj_Goes E om0 mt_267 99 [some (.ref 81), some (.int x1), some (.int x2), some (.int x3), some (.int x4), some (.int x5), some (.int x6), some (.int x7)] [] SI2 SJ2 (QI Q)) ∧ (r1 = 0 → gj_Goes E om0 mt_267 107 [some (.ref 81), some (.int x1), some (.int x2), some (.int x3), some (.int x4), some (.int x5), some (.int x6), some (.int x7)] [] SI2 SJ2 (QI Q))
      refine ⟨fun c4 => ?_, fun c4 => ?_⟩
      · refine gj_goq gj_clT ok_267 [7, 37, 46, 93, 153] ?_
        show gj_Goes E om0 mt_267 46 [some (.ref 81), some (.int x1), some (.int x2), some (.int x3), some (.int x6), some (.int x7), some (.int x6), some (.int (x7 + (i3 1)))] [] SI2 SJ2 (QI Q)
        exact (q3.1 c4)
      · refine gj_goq gj_clT ok_267 [7, 37, 46, 93, 153] ?_
        show gj_Goes E om0 mt_267 46 [some (.ref 81), some (.int x1), some (.int x2), some (.int x3), some (.int x4), some (.int x5), some (.int x6), some (.int (x7 + (i3 1)))] [] SI2 SJ2 (QI Q)
        exact (q3.2 c4)
    · refine ⟨fun c5 => ?_, fun c5 => ?_⟩
      · refine gj_goq gj_clT ok_267 [7, 37, 46, 93, 153] ?_
        show gj_Goes E om0 mt_267 46 [some (.ref 81), some (.int x1), some (.int x2), some (.int x3), some (.int x4), some (.int x5), some (.int x6), some (.int (x7 + (i3 1)))] [] (gj_u2 (gj_u2 SI 82 30 x6) 82 31 x7) SJ (QI Q)
        exact (((h.2 c1).2 c2).1 c5)
      · refine gj_Do.mono (((h.2 c1).2 c2).2 c5) (fun v_ SI4 SJ4 h_ => ?_)
        obtain ⟨r3, rfl, q6⟩ := h_
        show gj_Goes E om0 mt_267 93 [some (.ref 81), some (.int x1), some (.int x2), some (.int x3), some (.int x4), some (.int x5), some (.int x6), some (.int x7)] [(.int r3)] SI4 SJ4 (QI Q)
        refine gj_goq gj_clT ok_267 [7, 37, 46, 93, 153] ?_
        show (¬ r3 = 0 → gj_Goes E om0 mt_267 99 [some (.ref 81), some (.int x1), some (.int x2), some (.int x3), some (.int x4), some (.int x5), some (.int x6), some (.int x7)] [] SI4 SJ4 (QI Q)) ∧ (r3 = 0 → gj_Goes E om0 mt_267 107 [some (.ref 81), some (.int x1), some (.int x2), some (.int x3), some (.int x4), some (.int x5), some (.int x6), some (.int x7)] [] SI4 SJ4 (QI Q))
        refine ⟨fun c7 => ?_, fun c7 => ?_⟩
        · refine gj_goq gj_clT ok_267 [7, 37, 46, 93, 153] ?_
          show gj_Goes E om0 mt_267 46 [some (.ref 81), some (.int x1), some (.int x2), some (.int x3), some (.int x6), some (.int x7), some (.int x6), some (.int (x7 + (i3 1)))] [] SI4 SJ4 (QI Q)
          exact (q6.1 c7)
        · refine gj_goq gj_clT ok_267 [7, 37, 46, 93, 153] ?_
          show gj_Goes E om0 mt_267 46 [some (.ref 81), some (.int x1), some (.int x2), some (.int x3), some (.int x4), some (.int x5), some (.int x6), some (.int (x7 + (i3 1)))] [] SI4 SJ4 (QI Q)
          exact (q6.2 c7)
set_option maxRecDepth 20000 in
/-- GraspJudgeModel.sees -/
theorem st_268 {E : gj_E} {Q : Int32 → gj_I → gj_J → Prop} (a1 : Int32) (a2 : Int32) (SI : gj_I) (SJ : gj_J) (h : DoI E 177 [(.ref 81), (.int a1)] SI SJ (fun r1 SI2 SJ2 => DoI E 177 [(.ref 81), (.int a2)] SI2 SJ2 (fun r3 SI4 SJ4 => DoI E 178 [(.ref 81), (.int a2)] SI4 SJ4 (fun r5 SI6 SJ6 => DoI E 168 [(.ref 81), (.int r3), (.int r5)] SI6 SJ6 (fun r7 SI8 SJ8 => DoI E 178 [(.ref 81), (.int a1)] SI8 SJ8 (fun r9 SI10 SJ10 => DoI E 168 [(.ref 81), (.int r1), (.int r9)] SI10 SJ10 (fun r11 SI12 SJ12 => DoI E 177 [(.ref 81), (.int a2)] SI12 SJ12 (fun r13 SI14 SJ14 => DoI E 178 [(.ref 81), (.int a2)] SI14 SJ14 (fun r15 SI16 SJ16 => DoI E 169 [(.ref 81), (.int r13), (.int r15)] SI16 SJ16 (fun r17 SI18 SJ18 => DoI E 178 [(.ref 81), (.int a1)] SI18 SJ18 (fun r19 SI20 SJ20 => DoI E 169 [(.ref 81), (.int r1), (.int r19)] SI20 SJ20 (fun r21 SI22 SJ22 => DoI E 167 [(.ref 81), (.int r1)] SI22 SJ22 (fun r23 SI24 SJ24 => DoI E 166 [(.ref 81), (.int r1)] SI24 SJ24 (fun r25 SI26 SJ26 => DoI E 166 [(.ref 81), (.int r1)] SI26 SJ26 (fun r27 SI28 SJ28 => DoI E 167 [(.ref 81), (.int r1)] SI28 SJ28 (fun r29 SI30 SJ30 => ((((-(r7 - r11).toInt64) * (r23).toInt64) + ((r17 - r21).toInt64 * (r25).toInt64)) < (i6 0) → Q (i3 0) SI30 SJ30) ∧ (¬ (((-(r7 - r11).toInt64) * (r23).toInt64) + ((r17 - r21).toInt64 * (r25).toInt64)) < (i6 0) → DoL E 158 [(.long (((r7 - r11).toInt64 * (r27).toInt64) + ((r17 - r21).toInt64 * (r29).toInt64)))] SI30 SJ30 (fun r31 SI32 SJ32 => (((SI30 82 31).toInt64 * r31) > ((SI32 82 30).toInt64 * (((-(r7 - r11).toInt64) * (r23).toInt64) + ((r17 - r21).toInt64 * (r25).toInt64))) → Q (i3 0) SI32 SJ32) ∧ (¬ ((SI30 82 31).toInt64 * r31) > ((SI32 82 30).toInt64 * (((-(r7 - r11).toInt64) * (r23).toInt64) + ((r17 - r21).toInt64 * (r25).toInt64))) → Q (i3 1) SI32 SJ32))))))))))))))))))) : DoI E 268 [(.ref 81), (.int a1), (.int a2)] SI SJ Q := by
  refine gj_start (M := mt_268) ok_268 (Nat.le_of_ble_eq_true rfl) ?_
  refine gj_goq gj_clT ok_268 [5, 12, 17, 20, 27, 30, 40, 45, 48, 55, 58, 70, 79, 91, 100, 125] ?_
  show gj_Do E om0 (gj_mt 177) [(.ref 81), (.int a1)] SI SJ _
  refine gj_Do.mono h (fun v_ SI2 SJ2 h_ => ?_)
  obtain ⟨r1, rfl, q1⟩ := h_
  show gj_Goes E om0 mt_268 5 [some (.ref 81), some (.int a1), some (.int a2), none, none, none, none, none, none, none, none, none] [(.int r1)] SI2 SJ2 (QI Q)
  refine gj_goq gj_clT ok_268 [5, 12, 17, 20, 27, 30, 40, 45, 48, 55, 58, 70, 79, 91, 100, 125] ?_
  show gj_Do E om0 (gj_mt 177) [(.ref 81), (.int a2)] SI2 SJ2 _
  refine gj_Do.mono q1 (fun v_ SI4 SJ4 h_ => ?_)
  obtain ⟨r3, rfl, q2⟩ := h_
  show gj_Goes E om0 mt_268 12 [some (.ref 81), some (.int a1), some (.int a2), some (.int r1), none, none, none, none, none, none, none, none] [(.int r3), (.ref 81)] SI4 SJ4 (QI Q)
  refine gj_goq gj_clT ok_268 [5, 12, 17, 20, 27, 30, 40, 45, 48, 55, 58, 70, 79, 91, 100, 125] ?_
  show gj_Do E om0 (gj_mt 178) [(.ref 81), (.int a2)] SI4 SJ4 _
  refine gj_Do.mono q2 (fun v_ SI6 SJ6 h_ => ?_)
  obtain ⟨r5, rfl, q3⟩ := h_
  show gj_Goes E om0 mt_268 17 [some (.ref 81), some (.int a1), some (.int a2), some (.int r1), none, none, none, none, none, none, none, none] [(.int r5), (.int r3), (.ref 81)] SI6 SJ6 (QI Q)
  refine gj_goq gj_clT ok_268 [5, 12, 17, 20, 27, 30, 40, 45, 48, 55, 58, 70, 79, 91, 100, 125] ?_
  show gj_Do E om0 (gj_mt 168) [(.ref 81), (.int r3), (.int r5)] SI6 SJ6 _
  refine gj_Do.mono q3 (fun v_ SI8 SJ8 h_ => ?_)
  obtain ⟨r7, rfl, q4⟩ := h_
  show gj_Goes E om0 mt_268 20 [some (.ref 81), some (.int a1), some (.int a2), some (.int r1), none, none, none, none, none, none, none, none] [(.int r7)] SI8 SJ8 (QI Q)
  refine gj_goq gj_clT ok_268 [5, 12, 17, 20, 27, 30, 40, 45, 48, 55, 58, 70, 79, 91, 100, 125] ?_
  show gj_Do E om0 (gj_mt 178) [(.ref 81), (.int a1)] SI8 SJ8 _
  refine gj_Do.mono q4 (fun v_ SI10 SJ10 h_ => ?_)
  obtain ⟨r9, rfl, q5⟩ := h_
  show gj_Goes E om0 mt_268 27 [some (.ref 81), some (.int a1), some (.int a2), some (.int r1), none, none, none, none, none, none, none, none] [(.int r9), (.int r1), (.ref 81), (.int r7)] SI10 SJ10 (QI Q)
  refine gj_goq gj_clT ok_268 [5, 12, 17, 20, 27, 30, 40, 45, 48, 55, 58, 70, 79, 91, 100, 125] ?_
  show gj_Do E om0 (gj_mt 168) [(.ref 81), (.int r1), (.int r9)] SI10 SJ10 _
  refine gj_Do.mono q5 (fun v_ SI12 SJ12 h_ => ?_)
  obtain ⟨r11, rfl, q6⟩ := h_
  show gj_Goes E om0 mt_268 30 [some (.ref 81), some (.int a1), some (.int a2), some (.int r1), none, none, none, none, none, none, none, none] [(.int r11), (.int r7)] SI12 SJ12 (QI Q)
  refine gj_goq gj_clT ok_268 [5, 12, 17, 20, 27, 30, 40, 45, 48, 55, 58, 70, 79, 91, 100, 125] ?_
  show gj_Do E om0 (gj_mt 177) [(.ref 81), (.int a2)] SI12 SJ12 _
  refine gj_Do.mono q6 (fun v_ SI14 SJ14 h_ => ?_)
  obtain ⟨r13, rfl, q7⟩ := h_
  show gj_Goes E om0 mt_268 40 [some (.ref 81), some (.int a1), some (.int a2), some (.int r1), some (.long (r7 - r11).toInt64), none, none, none, none, none, none, none] [(.int r13), (.ref 81)] SI14 SJ14 (QI Q)
  refine gj_goq gj_clT ok_268 [5, 12, 17, 20, 27, 30, 40, 45, 48, 55, 58, 70, 79, 91, 100, 125] ?_
  show gj_Do E om0 (gj_mt 178) [(.ref 81), (.int a2)] SI14 SJ14 _
  refine gj_Do.mono q7 (fun v_ SI16 SJ16 h_ => ?_)
  obtain ⟨r15, rfl, q8⟩ := h_
  show gj_Goes E om0 mt_268 45 [some (.ref 81), some (.int a1), some (.int a2), some (.int r1), some (.long (r7 - r11).toInt64), none, none, none, none, none, none, none] [(.int r15), (.int r13), (.ref 81)] SI16 SJ16 (QI Q)
  refine gj_goq gj_clT ok_268 [5, 12, 17, 20, 27, 30, 40, 45, 48, 55, 58, 70, 79, 91, 100, 125] ?_
  show gj_Do E om0 (gj_mt 169) [(.ref 81), (.int r13), (.int r15)] SI16 SJ16 _
  refine gj_Do.mono q8 (fun v_ SI18 SJ18 h_ => ?_)
  obtain ⟨r17, rfl, q9⟩ := h_
  show gj_Goes E om0 mt_268 48 [some (.ref 81), some (.int a1), some (.int a2), some (.int r1), some (.long (r7 - r11).toInt64), none, none, none, none, none, none, none] [(.int r17)] SI18 SJ18 (QI Q)
  refine gj_goq gj_clT ok_268 [5, 12, 17, 20, 27, 30, 40, 45, 48, 55, 58, 70, 79, 91, 100, 125] ?_
  show gj_Do E om0 (gj_mt 178) [(.ref 81), (.int a1)] SI18 SJ18 _
  refine gj_Do.mono q9 (fun v_ SI20 SJ20 h_ => ?_)
  obtain ⟨r19, rfl, q10⟩ := h_
  show gj_Goes E om0 mt_268 55 [some (.ref 81), some (.int a1), some (.int a2), some (.int r1), some (.long (r7 - r11).toInt64), none, none, none, none, none, none, none] [(.int r19), (.int r1), (.ref 81), (.int r17)] SI20 SJ20 (QI Q)
  refine gj_goq gj_clT ok_268 [5, 12, 17, 20, 27, 30, 40, 45, 48, 55, 58, 70, 79, 91, 100, 125] ?_
  show gj_Do E om0 (gj_mt 169) [(.ref 81), (.int r1), (.int r19)] SI20 SJ20 _
  refine gj_Do.mono q10 (fun v_ SI22 SJ22 h_ => ?_)
  obtain ⟨r21, rfl, q11⟩ := h_
  show gj_Goes E om0 mt_268 58 [some (.ref 81), some (.int a1), some (.int a2), some (.int r1), some (.long (r7 - r11).toInt64), none, none, none, none, none, none, none] [(.int r21), (.int r17)] SI22 SJ22 (QI Q)
  refine gj_goq gj_clT ok_268 [5, 12, 17, 20, 27, 30, 40, 45, 48, 55, 58, 70, 79, 91, 100, 125] ?_
  show gj_Do E om0 (gj_mt 167) [(.ref 81), (.int r1)] SI22 SJ22 _
  refine gj_Do.mono q11 (fun v_ SI24 SJ24 h_ => ?_)
  obtain ⟨r23, rfl, q12⟩ := h_
  show gj_Goes E om0 mt_268 70 [some (.ref 81), some (.int a1), some (.int a2), some (.int r1), some (.long (r7 - r11).toInt64), none, some (.long (r17 - r21).toInt64), none, none, none, none, none] [(.int r23), (.long (-(r7 - r11).toInt64))] SI24 SJ24 (QI Q)
  refine gj_goq gj_clT ok_268 [5, 12, 17, 20, 27, 30, 40, 45, 48, 55, 58, 70, 79, 91, 100, 125] ?_
  show gj_Do E om0 (gj_mt 166) [(.ref 81), (.int r1)] SI24 SJ24 _
  refine gj_Do.mono q12 (fun v_ SI26 SJ26 h_ => ?_)
  obtain ⟨r25, rfl, q13⟩ := h_
  show gj_Goes E om0 mt_268 79 [some (.ref 81), some (.int a1), some (.int a2), some (.int r1), some (.long (r7 - r11).toInt64), none, some (.long (r17 - r21).toInt64), none, none, none, none, none] [(.int r25), (.long (r17 - r21).toInt64), (.long ((-(r7 - r11).toInt64) * (r23).toInt64))] SI26 SJ26 (QI Q)
  refine gj_goq gj_clT ok_268 [5, 12, 17, 20, 27, 30, 40, 45, 48, 55, 58, 70, 79, 91, 100, 125] ?_
  show gj_Do E om0 (gj_mt 166) [(.ref 81), (.int r1)] SI26 SJ26 _
  refine gj_Do.mono q13 (fun v_ SI28 SJ28 h_ => ?_)
  obtain ⟨r27, rfl, q14⟩ := h_
  show gj_Goes E om0 mt_268 91 [some (.ref 81), some (.int a1), some (.int a2), some (.int r1), some (.long (r7 - r11).toInt64), none, some (.long (r17 - r21).toInt64), none, some (.long (((-(r7 - r11).toInt64) * (r23).toInt64) + ((r17 - r21).toInt64 * (r25).toInt64))), none, none, none] [(.int r27), (.long (r7 - r11).toInt64)] SI28 SJ28 (QI Q)
  refine gj_goq gj_clT ok_268 [5, 12, 17, 20, 27, 30, 40, 45, 48, 55, 58, 70, 79, 91, 100, 125] ?_
  show gj_Do E om0 (gj_mt 167) [(.ref 81), (.int r1)] SI28 SJ28 _
  refine gj_Do.mono q14 (fun v_ SI30 SJ30 h_ => ?_)
  obtain ⟨r29, rfl, q15⟩ := h_
  show gj_Goes E om0 mt_268 100 [some (.ref 81), some (.int a1), some (.int a2), some (.int r1), some (.long (r7 - r11).toInt64), none, some (.long (r17 - r21).toInt64), none, some (.long (((-(r7 - r11).toInt64) * (r23).toInt64) + ((r17 - r21).toInt64 * (r25).toInt64))), none, none, none] [(.int r29), (.long (r17 - r21).toInt64), (.long ((r7 - r11).toInt64 * (r27).toInt64))] SI30 SJ30 (QI Q)
  refine gj_goq gj_clT ok_268 [5, 12, 17, 20, 27, 30, 40, 45, 48, 55, 58, 70, 79, 91, 100, 125] ?_
  show ((lg_cmp (((-(r7 - r11).toInt64) * (r23).toInt64) + ((r17 - r21).toInt64 * (r25).toInt64)) (i6 0)) < 0 → gj_Goes E om0 mt_268 145 [some (.ref 81), some (.int a1), some (.int a2), some (.int r1), some (.long (r7 - r11).toInt64), none, some (.long (r17 - r21).toInt64), none, some (.long (((-(r7 - r11).toInt64) * (r23).toInt64) + ((r17 - r21).toInt64 * (r25).toInt64))), none, some (.long (((r7 - r11).toInt64 * (r27).toInt64) + ((r17 - r21).toInt64 * (r29).toInt64))), none] [] SI30 SJ30 (QI Q)) ∧ (¬ (lg_cmp (((-(r7 - r11).toInt64) * (r23).toInt64) + ((r17 - r21).toInt64 * (r25).toInt64)) (i6 0)) < 0 → vp_in (i3 31) 135 ∧ (gj_Do E om0 (gj_mt 158) [(.long (((r7 - r11).toInt64 * (r27).toInt64) + ((r17 - r21).toInt64 * (r29).toInt64)))] SI30 SJ30 _))
  refine ⟨fun c16 => ?_, fun c16 => ?_⟩
  · refine gj_goq gj_clT ok_268 [5, 12, 17, 20, 27, 30, 40, 45, 48, 55, 58, 70, 79, 91, 100, 125] ?_
    show ((i3 0) = 0 ∨ (i3 0) = 1) ∧ (QI Q (some (.int (i3 0))) SI30 SJ30)
    refine ⟨(Or.inl rfl), ?_⟩
    exact ⟨_, rfl, (q15.1 (lgc_lt.mp c16))⟩
  · refine ⟨(gj_vin (by decide)), ?_⟩
    refine gj_Do.mono (q15.2 (fun z_ => c16 (lgc_lt.mpr z_))) (fun v_ SI32 SJ32 h_ => ?_)
    obtain ⟨r31, rfl, q17⟩ := h_
    show gj_Goes E om0 mt_268 125 [some (.ref 81), some (.int a1), some (.int a2), some (.int r1), some (.long (r7 - r11).toInt64), none, some (.long (r17 - r21).toInt64), none, some (.long (((-(r7 - r11).toInt64) * (r23).toInt64) + ((r17 - r21).toInt64 * (r25).toInt64))), none, some (.long (((r7 - r11).toInt64 * (r27).toInt64) + ((r17 - r21).toInt64 * (r29).toInt64))), none] [(.long r31), (.long (SI30 82 31).toInt64)] SI32 SJ32 (QI Q)
    refine gj_goq gj_clT ok_268 [5, 12, 17, 20, 27, 30, 40, 45, 48, 55, 58, 70, 79, 91, 100, 125] ?_
    show vp_in (i3 30) 135 ∧ ((0 < (lg_cmp ((SI30 82 31).toInt64 * r31) ((SI32 82 30).toInt64 * (((-(r7 - r11).toInt64) * (r23).toInt64) + ((r17 - r21).toInt64 * (r25).toInt64)))) → gj_Goes E om0 mt_268 145 [some (.ref 81), some (.int a1), some (.int a2), some (.int r1), some (.long (r7 - r11).toInt64), none, some (.long (r17 - r21).toInt64), none, some (.long (((-(r7 - r11).toInt64) * (r23).toInt64) + ((r17 - r21).toInt64 * (r25).toInt64))), none, some (.long (((r7 - r11).toInt64 * (r27).toInt64) + ((r17 - r21).toInt64 * (r29).toInt64))), none] [] SI32 SJ32 (QI Q)) ∧ (¬ 0 < (lg_cmp ((SI30 82 31).toInt64 * r31) ((SI32 82 30).toInt64 * (((-(r7 - r11).toInt64) * (r23).toInt64) + ((r17 - r21).toInt64 * (r25).toInt64)))) → gj_Goes E om0 mt_268 146 [some (.ref 81), some (.int a1), some (.int a2), some (.int r1), some (.long (r7 - r11).toInt64), none, some (.long (r17 - r21).toInt64), none, some (.long (((-(r7 - r11).toInt64) * (r23).toInt64) + ((r17 - r21).toInt64 * (r25).toInt64))), none, some (.long (((r7 - r11).toInt64 * (r27).toInt64) + ((r17 - r21).toInt64 * (r29).toInt64))), none] [(.int (i3 1))] SI32 SJ32 (QI Q)))
    refine ⟨(gj_vin (by decide)), ?_⟩
    refine ⟨fun c18 => ?_, fun c18 => ?_⟩
    · refine gj_goq gj_clT ok_268 [5, 12, 17, 20, 27, 30, 40, 45, 48, 55, 58, 70, 79, 91, 100, 125] ?_
      show ((i3 0) = 0 ∨ (i3 0) = 1) ∧ (QI Q (some (.int (i3 0))) SI32 SJ32)
      refine ⟨(Or.inl rfl), ?_⟩
      exact ⟨_, rfl, (q17.1 (lgc_gt.mp c18))⟩
    · refine gj_goq gj_clT ok_268 [5, 12, 17, 20, 27, 30, 40, 45, 48, 55, 58, 70, 79, 91, 100, 125] ?_
      show ((i3 1) = 0 ∨ (i3 1) = 1) ∧ (QI Q (some (.int (i3 1))) SI32 SJ32)
      refine ⟨(Or.inr rfl), ?_⟩
      exact ⟨_, rfl, (q17.2 (fun z_ => c18 (lgc_gt.mpr z_)))⟩
set_option maxRecDepth 20000 in
/-- GraspJudgeModel.areOpposite -/
theorem st_269 {E : gj_E} {Q : Int32 → gj_I → gj_J → Prop} (a1 : Int32) (a2 : Int32) (SI : gj_I) (SJ : gj_J) (h : (a1 = a2 → Q (i3 0) SI SJ) ∧ (¬ a1 = a2 → DoI E 268 [(.ref 81), (.int a1), (.int a2)] SI SJ (fun r1 SI2 SJ2 => (r1 = 0 → Q (i3 0) SI2 SJ2) ∧ (¬ r1 = 0 → DoI E 268 [(.ref 81), (.int a2), (.int a1)] SI2 SJ2 (fun r3 SI4 SJ4 => (r3 = 0 → Q (i3 0) SI4 SJ4) ∧ (¬ r3 = 0 → Q (i3 1) SI4 SJ4)))))) : DoI E 269 [(.ref 81), (.int a1), (.int a2)] SI SJ Q := by
  refine gj_start (M := mt_269) ok_269 (Nat.le_of_ble_eq_true rfl) ?_
  refine gj_goq gj_clT ok_269 [11, 20] ?_
  show (a1 = a2 → gj_Goes E om0 mt_269 27 [some (.ref 81), some (.int a1), some (.int a2)] [] SI SJ (QI Q)) ∧ (¬ a1 = a2 → gj_Do E om0 (gj_mt 268) [(.ref 81), (.int a1), (.int a2)] SI SJ _)
  refine ⟨fun c1 => ?_, fun c1 => ?_⟩
  · refine gj_goq gj_clT ok_269 [11, 20] ?_
    show ((i3 0) = 0 ∨ (i3 0) = 1) ∧ (QI Q (some (.int (i3 0))) SI SJ)
    refine ⟨(Or.inl rfl), ?_⟩
    exact ⟨_, rfl, (h.1 c1)⟩
  · refine gj_Do.mono (h.2 c1) (fun v_ SI2 SJ2 h_ => ?_)
    obtain ⟨r1, rfl, q2⟩ := h_
    show gj_Goes E om0 mt_269 11 [some (.ref 81), some (.int a1), some (.int a2)] [(.int r1)] SI2 SJ2 (QI Q)
    refine gj_goq gj_clT ok_269 [11, 20] ?_
    show (r1 = 0 → gj_Goes E om0 mt_269 27 [some (.ref 81), some (.int a1), some (.int a2)] [] SI2 SJ2 (QI Q)) ∧ (¬ r1 = 0 → gj_Do E om0 (gj_mt 268) [(.ref 81), (.int a2), (.int a1)] SI2 SJ2 _)
    refine ⟨fun c3 => ?_, fun c3 => ?_⟩
    · refine gj_goq gj_clT ok_269 [11, 20] ?_
      show ((i3 0) = 0 ∨ (i3 0) = 1) ∧ (QI Q (some (.int (i3 0))) SI2 SJ2)
      refine ⟨(Or.inl rfl), ?_⟩
      exact ⟨_, rfl, (q2.1 c3)⟩
    · refine gj_Do.mono (q2.2 c3) (fun v_ SI4 SJ4 h_ => ?_)
      obtain ⟨r3, rfl, q4⟩ := h_
      show gj_Goes E om0 mt_269 20 [some (.ref 81), some (.int a1), some (.int a2)] [(.int r3)] SI4 SJ4 (QI Q)
      refine gj_goq gj_clT ok_269 [11, 20] ?_
      show (r3 = 0 → gj_Goes E om0 mt_269 27 [some (.ref 81), some (.int a1), some (.int a2)] [] SI4 SJ4 (QI Q)) ∧ (¬ r3 = 0 → gj_Goes E om0 mt_269 28 [some (.ref 81), some (.int a1), some (.int a2)] [(.int (i3 1))] SI4 SJ4 (QI Q))
      refine ⟨fun c5 => ?_, fun c5 => ?_⟩
      · refine gj_goq gj_clT ok_269 [11, 20] ?_
        show ((i3 0) = 0 ∨ (i3 0) = 1) ∧ (QI Q (some (.int (i3 0))) SI4 SJ4)
        refine ⟨(Or.inl rfl), ?_⟩
        exact ⟨_, rfl, (q4.1 c5)⟩
      · refine gj_goq gj_clT ok_269 [11, 20] ?_
        show ((i3 1) = 0 ∨ (i3 1) = 1) ∧ (QI Q (some (.int (i3 1))) SI4 SJ4)
        refine ⟨(Or.inr rfl), ?_⟩
        exact ⟨_, rfl, (q4.2 c5)⟩
set_option maxRecDepth 20000 in
/-- GraspJudgeModel.opposite -/
theorem st_270 {E : gj_E} {Q : Int32 → gj_I → gj_J → Prop} (a1 : Int32) (a2 : Int32) (SI : gj_I) (SJ : gj_J) (h : DoI E 179 [(.ref 81), (.int a1)] SI SJ (fun r1 SI2 SJ2 => (r1 = 0 → Q (i3 (-1)) SI2 SJ2) ∧ (¬ r1 = 0 → DoI E 179 [(.ref 81), (.int a2)] SI2 SJ2 (fun r3 SI4 SJ4 => (¬ r3 = 0 → DoI E 269 [(.ref 81), (.int a1), (.int a2)] SI4 SJ4 (fun r5 SI6 SJ6 => (r5 = 0 → Q (i3 0) SI6 SJ6) ∧ (¬ r5 = 0 → Q (i3 1) SI6 SJ6))) ∧ (r3 = 0 → Q (i3 (-1)) SI4 SJ4))))) : DoI E 270 [(.ref 81), (.int a1), (.int a2)] SI SJ Q := by
  refine gj_start (M := mt_270) ok_270 (Nat.le_of_ble_eq_true rfl) ?_
  refine gj_goq gj_clT ok_270 [5, 13, 24] ?_
  show gj_Do E om0 (gj_mt 179) [(.ref 81), (.int a1)] SI SJ _
  refine gj_Do.mono h (fun v_ SI2 SJ2 h_ => ?_)
  obtain ⟨r1, rfl, q1⟩ := h_
  show gj_Goes E om0 mt_270 5 [some (.ref 81), some (.int a1), some (.int a2)] [(.int r1)] SI2 SJ2 (QI Q)
  refine gj_goq gj_clT ok_270 [5, 13, 24] ?_
  show (r1 = 0 → gj_Goes E om0 mt_270 16 [some (.ref 81), some (.int a1), some (.int a2)] [] SI2 SJ2 (QI Q)) ∧ (¬ r1 = 0 → gj_Do E om0 (gj_mt 179) [(.ref 81), (.int a2)] SI2 SJ2 _)
  refine ⟨fun c2 => ?_, fun c2 => ?_⟩
  · refine gj_goq gj_clT ok_270 [5, 13, 24] ?_
    show QI Q (some (.int (i3 (-1)))) SI2 SJ2
    exact ⟨_, rfl, (q1.1 c2)⟩
  · refine gj_Do.mono (q1.2 c2) (fun v_ SI4 SJ4 h_ => ?_)
    obtain ⟨r3, rfl, q3⟩ := h_
    show gj_Goes E om0 mt_270 13 [some (.ref 81), some (.int a1), some (.int a2)] [(.int r3)] SI4 SJ4 (QI Q)
    refine gj_goq gj_clT ok_270 [5, 13, 24] ?_
    show (¬ r3 = 0 → gj_Goes E om0 mt_270 18 [some (.ref 81), some (.int a1), some (.int a2)] [] SI4 SJ4 (QI Q)) ∧ (r3 = 0 → QI Q (some (.int (i3 (-1)))) SI4 SJ4)
    refine ⟨fun c4 => ?_, fun c4 => ?_⟩
    · refine gj_goq gj_clT ok_270 [5, 13, 24] ?_
      show gj_Do E om0 (gj_mt 269) [(.ref 81), (.int a1), (.int a2)] SI4 SJ4 _
      refine gj_Do.mono (q3.1 c4) (fun v_ SI6 SJ6 h_ => ?_)
      obtain ⟨r5, rfl, q5⟩ := h_
      show gj_Goes E om0 mt_270 24 [some (.ref 81), some (.int a1), some (.int a2)] [(.int r5)] SI6 SJ6 (QI Q)
      refine gj_goq gj_clT ok_270 [5, 13, 24] ?_
      show (r5 = 0 → gj_Goes E om0 mt_270 31 [some (.ref 81), some (.int a1), some (.int a2)] [] SI6 SJ6 (QI Q)) ∧ (¬ r5 = 0 → gj_Goes E om0 mt_270 32 [some (.ref 81), some (.int a1), some (.int a2)] [(.int (i3 1))] SI6 SJ6 (QI Q))
      refine ⟨fun c6 => ?_, fun c6 => ?_⟩
      · refine gj_goq gj_clT ok_270 [5, 13, 24] ?_
        show QI Q (some (.int (i3 0))) SI6 SJ6
        exact ⟨_, rfl, (q5.1 c6)⟩
      · refine gj_goq gj_clT ok_270 [5, 13, 24] ?_
        show QI Q (some (.int (i3 1))) SI6 SJ6
        exact ⟨_, rfl, (q5.2 c6)⟩
    · exact ⟨_, rfl, (q3.2 c4)⟩
set_option maxRecDepth 20000 in
/-- GraspJudgeModel.oppositeMany -/
theorem st_271 {E : gj_E} {Q : Int32 → gj_I → gj_J → Prop} (a1 : Int32) (SI : gj_I) (SJ : gj_J) (h : GoI E mt_271 4 [some (.ref 81), some (.int a1), some (.int (i3 0)), some (.int (i3 0))] SI SJ Q) : DoI E 271 [(.ref 81), (.int a1)] SI SJ Q := by
  refine gj_start (M := mt_271) ok_271 (Nat.le_of_ble_eq_true rfl) ?_
  refine gj_goq gj_clT ok_271 [4, 9, 18] ?_
  show gj_Goes E om0 mt_271 4 [some (.ref 81), some (.int a1), some (.int (i3 0)), some (.int (i3 0))] [] SI SJ (QI Q)
  exact h
set_option maxRecDepth 20000 in
theorem lp_271_4 {E : gj_E} {Q : Int32 → gj_I → gj_J → Prop} (x1 : Int32) (x2 : Int32) (x3 : Int32) (SI : gj_I) (SJ : gj_J) (h : DoI E 176 [(.ref 81)] SI SJ (fun r1 SI2 SJ2 => (r1 ≤ x3 → Q x2 SI2 SJ2) ∧ (¬ r1 ≤ x3 → DoI E 269 [(.ref 81), (.int x1), (.int x3)] SI2 SJ2 (fun r3 SI4 SJ4 => (r3 = 0 → GoI E mt_271 4 [some (.ref 81), some (.int x1), some (.int x2), some (.int (x3 + (i3 1)))] SI4 SJ4 Q) ∧ (¬ r3 = 0 → GoI E mt_271 4 [some (.ref 81), some (.int x1), some (.int (x2 + (i3 1))), some (.int (x3 + (i3 1)))] SI4 SJ4 Q))))) : GoI E mt_271 4 [some (.ref 81), some (.int x1), some (.int x2), some (.int x3)] SI SJ Q := by
  refine gj_goq gj_clT ok_271 [4, 9, 18] ?_
  show gj_Do E om0 (gj_mt 176) [(.ref 81)] SI SJ _
  refine gj_Do.mono h (fun v_ SI2 SJ2 h_ => ?_)
  obtain ⟨r1, rfl, q1⟩ := h_
  show gj_Goes E om0 mt_271 9 [some (.ref 81), some (.int x1), some (.int x2), some (.int x3)] [(.int r1), (.int x3)] SI2 SJ2 (QI Q)
  refine gj_goq gj_clT ok_271 [4, 9, 18] ?_
  show (r1 ≤ x3 → gj_Goes E om0 mt_271 31 [some (.ref 81), some (.int x1), some (.int x2), some (.int x3)] [] SI2 SJ2 (QI Q)) ∧ (¬ r1 ≤ x3 → gj_Do E om0 (gj_mt 269) [(.ref 81), (.int x1), (.int x3)] SI2 SJ2 _)
  refine ⟨fun c2 => ?_, fun c2 => ?_⟩
  · refine gj_goq gj_clT ok_271 [4, 9, 18] ?_
    show QI Q (some (.int x2)) SI2 SJ2
    exact ⟨_, rfl, (q1.1 c2)⟩
  · refine gj_Do.mono (q1.2 c2) (fun v_ SI4 SJ4 h_ => ?_)
    obtain ⟨r3, rfl, q3⟩ := h_
    show gj_Goes E om0 mt_271 18 [some (.ref 81), some (.int x1), some (.int x2), some (.int x3)] [(.int r3)] SI4 SJ4 (QI Q)
    refine gj_goq gj_clT ok_271 [4, 9, 18] ?_
    show (r3 = 0 → gj_Goes E om0 mt_271 25 [some (.ref 81), some (.int x1), some (.int x2), some (.int x3)] [] SI4 SJ4 (QI Q)) ∧ (¬ r3 = 0 → gj_Goes E om0 mt_271 4 [some (.ref 81), some (.int x1), some (.int (x2 + (i3 1))), some (.int (x3 + (i3 1)))] [] SI4 SJ4 (QI Q))
    refine ⟨fun c4 => ?_, fun c4 => ?_⟩
    · refine gj_goq gj_clT ok_271 [4, 9, 18] ?_
      show gj_Goes E om0 mt_271 4 [some (.ref 81), some (.int x1), some (.int x2), some (.int (x3 + (i3 1)))] [] SI4 SJ4 (QI Q)
      exact (q3.1 c4)
    · exact (q3.2 c4)
set_option maxRecDepth 20000 in
/-- GraspJudgeModel.oppositeFirst -/
theorem st_272 {E : gj_E} {Q : Int32 → gj_I → gj_J → Prop} (a1 : Int32) (SI : gj_I) (SJ : gj_J) (h : GoI E mt_272 2 [some (.ref 81), some (.int a1), some (.int (i3 0))] SI SJ Q) : DoI E 272 [(.ref 81), (.int a1)] SI SJ Q := by
  refine gj_start (M := mt_272) ok_272 (Nat.le_of_ble_eq_true rfl) ?_
  refine gj_goq gj_clT ok_272 [2, 7, 16] ?_
  show gj_Goes E om0 mt_272 2 [some (.ref 81), some (.int a1), some (.int (i3 0))] [] SI SJ (QI Q)
  exact h
set_option maxRecDepth 20000 in
theorem lp_272_2 {E : gj_E} {Q : Int32 → gj_I → gj_J → Prop} (x1 : Int32) (x2 : Int32) (SI : gj_I) (SJ : gj_J) (h : DoI E 176 [(.ref 81)] SI SJ (fun r1 SI2 SJ2 => (r1 ≤ x2 → Q (i3 (-2)) SI2 SJ2) ∧ (¬ r1 ≤ x2 → DoI E 269 [(.ref 81), (.int x1), (.int x2)] SI2 SJ2 (fun r3 SI4 SJ4 => (r3 = 0 → GoI E mt_272 2 [some (.ref 81), some (.int x1), some (.int (x2 + (i3 1)))] SI4 SJ4 Q) ∧ (¬ r3 = 0 → Q x2 SI4 SJ4))))) : GoI E mt_272 2 [some (.ref 81), some (.int x1), some (.int x2)] SI SJ Q := by
  refine gj_goq gj_clT ok_272 [2, 7, 16] ?_
  show gj_Do E om0 (gj_mt 176) [(.ref 81)] SI SJ _
  refine gj_Do.mono h (fun v_ SI2 SJ2 h_ => ?_)
  obtain ⟨r1, rfl, q1⟩ := h_
  show gj_Goes E om0 mt_272 7 [some (.ref 81), some (.int x1), some (.int x2)] [(.int r1), (.int x2)] SI2 SJ2 (QI Q)
  refine gj_goq gj_clT ok_272 [2, 7, 16] ?_
  show (r1 ≤ x2 → gj_Goes E om0 mt_272 27 [some (.ref 81), some (.int x1), some (.int x2)] [] SI2 SJ2 (QI Q)) ∧ (¬ r1 ≤ x2 → gj_Do E om0 (gj_mt 269) [(.ref 81), (.int x1), (.int x2)] SI2 SJ2 _)
  refine ⟨fun c2 => ?_, fun c2 => ?_⟩
  · refine gj_goq gj_clT ok_272 [2, 7, 16] ?_
    show QI Q (some (.int (i3 (-2)))) SI2 SJ2
    exact ⟨_, rfl, (q1.1 c2)⟩
  · refine gj_Do.mono (q1.2 c2) (fun v_ SI4 SJ4 h_ => ?_)
    obtain ⟨r3, rfl, q3⟩ := h_
    show gj_Goes E om0 mt_272 16 [some (.ref 81), some (.int x1), some (.int x2)] [(.int r3)] SI4 SJ4 (QI Q)
    refine gj_goq gj_clT ok_272 [2, 7, 16] ?_
    show (r3 = 0 → gj_Goes E om0 mt_272 21 [some (.ref 81), some (.int x1), some (.int x2)] [] SI4 SJ4 (QI Q)) ∧ (¬ r3 = 0 → QI Q (some (.int x2)) SI4 SJ4)
    refine ⟨fun c4 => ?_, fun c4 => ?_⟩
    · refine gj_goq gj_clT ok_272 [2, 7, 16] ?_
      show gj_Goes E om0 mt_272 2 [some (.ref 81), some (.int x1), some (.int (x2 + (i3 1)))] [] SI4 SJ4 (QI Q)
      exact (q3.1 c4)
    · exact ⟨_, rfl, (q3.2 c4)⟩
set_option maxRecDepth 20000 in
/-- GraspJudgeModel.opposites -/
theorem st_273 {E : gj_E} {Q : Int32 → gj_I → gj_J → Prop} (SI : gj_I) (SJ : gj_J) (h : GoI E mt_273 4 [some (.ref 81), some (.int (i3 0)), some (.int (i3 0))] SI SJ Q) : DoI E 273 [(.ref 81)] SI SJ Q := by
  refine gj_start (M := mt_273) ok_273 (Nat.le_of_ble_eq_true rfl) ?_
  refine gj_goq gj_clT ok_273 [4, 9, 18] ?_
  show gj_Goes E om0 mt_273 4 [some (.ref 81), some (.int (i3 0)), some (.int (i3 0))] [] SI SJ (QI Q)
  exact h
set_option maxRecDepth 20000 in
theorem lp_273_4 {E : gj_E} {Q : Int32 → gj_I → gj_J → Prop} (x1 : Int32) (x2 : Int32) (SI : gj_I) (SJ : gj_J) (h : DoI E 176 [(.ref 81)] SI SJ (fun r1 SI2 SJ2 => (r1 ≤ x2 → Q (x1 / (i3 2)) SI2 SJ2) ∧ (¬ r1 ≤ x2 → DoI E 271 [(.ref 81), (.int x2)] SI2 SJ2 (fun r3 SI4 SJ4 => GoI E mt_273 4 [some (.ref 81), some (.int (x1 + r3)), some (.int (x2 + (i3 1)))] SI4 SJ4 Q)))) : GoI E mt_273 4 [some (.ref 81), some (.int x1), some (.int x2)] SI SJ Q := by
  refine gj_goq gj_clT ok_273 [4, 9, 18] ?_
  show gj_Do E om0 (gj_mt 176) [(.ref 81)] SI SJ _
  refine gj_Do.mono h (fun v_ SI2 SJ2 h_ => ?_)
  obtain ⟨r1, rfl, q1⟩ := h_
  show gj_Goes E om0 mt_273 9 [some (.ref 81), some (.int x1), some (.int x2)] [(.int r1), (.int x2)] SI2 SJ2 (QI Q)
  refine gj_goq gj_clT ok_273 [4, 9, 18] ?_
  show (r1 ≤ x2 → gj_Goes E om0 mt_273 26 [some (.ref 81), some (.int x1), some (.int x2)] [] SI2 SJ2 (QI Q)) ∧ (¬ r1 ≤ x2 → gj_Do E om0 (gj_mt 271) [(.ref 81), (.int x2)] SI2 SJ2 _)
  refine ⟨fun c2 => ?_, fun c2 => ?_⟩
  · refine gj_goq gj_clT ok_273 [4, 9, 18] ?_
    show ¬ (i3 2) = 0 ∧ (QI Q (some (.int (x1 / (i3 2)))) SI2 SJ2)
    refine ⟨(by decide), ?_⟩
    exact ⟨_, rfl, (q1.1 c2)⟩
  · refine gj_Do.mono (q1.2 c2) (fun v_ SI4 SJ4 h_ => ?_)
    obtain ⟨r3, rfl, q3⟩ := h_
    show gj_Goes E om0 mt_273 18 [some (.ref 81), some (.int x1), some (.int x2)] [(.int r3), (.int x1)] SI4 SJ4 (QI Q)
    refine gj_goq gj_clT ok_273 [4, 9, 18] ?_
    show gj_Goes E om0 mt_273 4 [some (.ref 81), some (.int (x1 + r3)), some (.int (x2 + (i3 1)))] [] SI4 SJ4 (QI Q)
    exact q3
set_option maxRecDepth 20000 in
/-- GraspJudgeModel.count -/
theorem st_274 {E : gj_E} {Q : Int32 → gj_I → gj_J → Prop} (a1 : Int32) (SI : gj_I) (SJ : gj_J) (h : DoV E 184 [(.ref 81)] SI SJ (fun SI2 SJ2 => (a1 = (i3 0) → DoI E 162 [(.ref 81)] SI2 SJ2 (fun r3 SI4 SJ4 => Q r3 SI4 SJ4)) ∧ (a1 = (i3 1) → DoL E 174 [(.ref 81)] SI2 SJ2 (fun r5 SI6 SJ6 => Q (r5).toInt32 SI6 SJ6)) ∧ (a1 = (i3 2) → Q (SI2 82 17) SI2 SJ2) ∧ (a1 = (i3 3) → Q (SI2 81 8) SI2 SJ2) ∧ (a1 = (i3 4) → DoI E 185 [(.ref 81)] SI2 SJ2 (fun r7 SI8 SJ8 => DoI E 193 [(.ref 81), (.int r7)] SI8 SJ8 (fun r9 SI10 SJ10 => Q r9 SI10 SJ10))) ∧ (a1 = (i3 5) → DoI E 185 [(.ref 81)] SI2 SJ2 (fun r11 SI12 SJ12 => DoI E 194 [(.ref 81), (.int r11)] SI12 SJ12 (fun r13 SI14 SJ14 => (r13 = 0 → Q (i3 0) SI14 SJ14) ∧ (¬ r13 = 0 → Q (i3 1) SI14 SJ14)))) ∧ (a1 = (i3 6) → DoI E 176 [(.ref 81)] SI2 SJ2 (fun r15 SI16 SJ16 => Q r15 SI16 SJ16)) ∧ (a1 = (i3 7) → Q (SI2 82 30) SI2 SJ2) ∧ (a1 = (i3 8) → Q (SI2 82 31) SI2 SJ2) ∧ (a1 = (i3 9) → Q (SI2 82 32) SI2 SJ2) ∧ (a1 = (i3 10) → Q (SI2 82 33) SI2 SJ2) ∧ (a1 = (i3 11) → DoI E 260 [(.ref 81)] SI2 SJ2 (fun r17 SI18 SJ18 => Q r17 SI18 SJ18)) ∧ (a1 = (i3 12) → DoI E 261 [(.ref 81)] SI2 SJ2 (fun r19 SI20 SJ20 => (0 ≤ r19 → DoI E 261 [(.ref 81)] SI20 SJ20 (fun r21 SI22 SJ22 => DoI E 160 [(.int r21)] SI22 SJ22 (fun r23 SI24 SJ24 => Q r23 SI24 SJ24))) ∧ (¬ 0 ≤ r19 → Q (i3 (-2)) SI20 SJ20))) ∧ (a1 = (i3 13) → DoI E 261 [(.ref 81)] SI2 SJ2 (fun r25 SI26 SJ26 => Q r25 SI26 SJ26)) ∧ (a1 = (i3 14) → Q (SI2 81 13) SI2 SJ2) ∧ (a1 = (i3 15) → Q (SI2 82 34) SI2 SJ2) ∧ (a1 = (i3 16) → DoI E 273 [(.ref 81)] SI2 SJ2 (fun r27 SI28 SJ28 => Q r27 SI28 SJ28)) ∧ (a1.toInt < 0 ∨ 16 < a1.toInt → Q (i3 (-1)) SI2 SJ2))) : DoI E 274 [(.ref 81), (.int a1)] SI SJ Q := by
  refine gj_start (M := mt_274) ok_274 (Nat.le_of_ble_eq_true rfl) ?_
  refine gj_goq gj_clT ok_274 [4, 92, 97, 117, 120, 126, 129, 142, 179, 184, 196, 199, 204, 222] ?_
  show gj_Do E om0 (gj_mt 184) [(.ref 81)] SI SJ _
  refine gj_Do.mono h (fun v_ SI2 SJ2 h_ => ?_)
  obtain ⟨rfl, q1⟩ := h_
  show gj_Goes E om0 mt_274 4 [some (.ref 81), some (.int a1)] [] SI2 SJ2 (QI Q)
  refine gj_goq gj_clT ok_274 [4, 92, 97, 117, 120, 126, 129, 142, 179, 184, 196, 199, 204, 222] ?_
  show ((a1 = Int32.ofInt (0) → gj_Goes E om0 mt_274 88 [some (.ref 81), some (.int a1)] [] SI2 SJ2 (QI Q)) ∧ (a1 = Int32.ofInt (1) → gj_Goes E om0 mt_274 93 [some (.ref 81), some (.int a1)] [] SI2 SJ2 (QI Q)) ∧ (a1 = Int32.ofInt (2) → gj_Goes E om0 mt_274 99 [some (.ref 81), some (.int a1)] [] SI2 SJ2 (QI Q)) ∧ (a1 = Int32.ofInt (3) → gj_Goes E om0 mt_274 107 [some (.ref 81), some (.int a1)] [] SI2 SJ2 (QI Q)) ∧ (a1 = Int32.ofInt (4) → gj_Goes E om0 mt_274 112 [some (.ref 81), some (.int a1)] [] SI2 SJ2 (QI Q)) ∧ (a1 = Int32.ofInt (5) → gj_Goes E om0 mt_274 121 [some (.ref 81), some (.int a1)] [] SI2 SJ2 (QI Q)) ∧ (a1 = Int32.ofInt (6) → gj_Goes E om0 mt_274 138 [some (.ref 81), some (.int a1)] [] SI2 SJ2 (QI Q)) ∧ (a1 = Int32.ofInt (7) → gj_Goes E om0 mt_274 143 [some (.ref 81), some (.int a1)] [] SI2 SJ2 (QI Q)) ∧ (a1 = Int32.ofInt (8) → gj_Goes E om0 mt_274 151 [some (.ref 81), some (.int a1)] [] SI2 SJ2 (QI Q)) ∧ (a1 = Int32.ofInt (9) → gj_Goes E om0 mt_274 159 [some (.ref 81), some (.int a1)] [] SI2 SJ2 (QI Q)) ∧ (a1 = Int32.ofInt (10) → gj_Goes E om0 mt_274 167 [some (.ref 81), some (.int a1)] [] SI2 SJ2 (QI Q)) ∧ (a1 = Int32.ofInt (11) → gj_Goes E om0 mt_274 175 [some (.ref 81), some (.int a1)] [] SI2 SJ2 (QI Q)) ∧ (a1 = Int32.ofInt (12) → gj_Goes E om0 mt_274 180 [some (.ref 81), some (.int a1)] [] SI2 SJ2 (QI Q)) ∧ (a1 = Int32.ofInt (13) → gj_Goes E om0 mt_274 200 [some (.ref 81), some (.int a1)] [] SI2 SJ2 (QI Q)) ∧ (a1 = Int32.ofInt (14) → gj_Goes E om0 mt_274 205 [some (.ref 81), some (.int a1)] [] SI2 SJ2 (QI Q)) ∧ (a1 = Int32.ofInt (15) → gj_Goes E om0 mt_274 210 [some (.ref 81), some (.int a1)] [] SI2 SJ2 (QI Q)) ∧ (a1 = Int32.ofInt (16) → gj_Goes E om0 mt_274 218 [some (.ref 81), some (.int a1)] [] SI2 SJ2 (QI Q)) ∧ True) ∧ (a1.toInt < 0 ∨ 16 < a1.toInt → gj_Goes E om0 mt_274 223 [some (.ref 81), some (.int a1)] [] SI2 SJ2 (QI Q))
  refine ⟨⟨fun c2 => ?_, ⟨fun c2 => ?_, ⟨fun c2 => ?_, ⟨fun c2 => ?_, ⟨fun c2 => ?_, ⟨fun c2 => ?_, ⟨fun c2 => ?_, ⟨fun c2 => ?_, ⟨fun c2 => ?_, ⟨fun c2 => ?_, ⟨fun c2 => ?_, ⟨fun c2 => ?_, ⟨fun c2 => ?_, ⟨fun c2 => ?_, ⟨fun c2 => ?_, ⟨fun c2 => ?_, ⟨fun c2 => ?_, trivial⟩⟩⟩⟩⟩⟩⟩⟩⟩⟩⟩⟩⟩⟩⟩⟩⟩, fun c2 => ?_⟩
  · refine gj_goq gj_clT ok_274 [4, 92, 97, 117, 120, 126, 129, 142, 179, 184, 196, 199, 204, 222] ?_
    show gj_Do E om0 (gj_mt 162) [(.ref 81)] SI2 SJ2 _
    refine gj_Do.mono (q1.1 c2) (fun v_ SI4 SJ4 h_ => ?_)
    obtain ⟨r3, rfl, q3⟩ := h_
    show gj_Goes E om0 mt_274 92 [some (.ref 81), some (.int a1)] [(.int r3)] SI4 SJ4 (QI Q)
    refine gj_goq gj_clT ok_274 [4, 92, 97, 117, 120, 126, 129, 142, 179, 184, 196, 199, 204, 222] ?_
    show QI Q (some (.int r3)) SI4 SJ4
    exact ⟨_, rfl, q3⟩
  · refine gj_goq gj_clT ok_274 [4, 92, 97, 117, 120, 126, 129, 142, 179, 184, 196, 199, 204, 222] ?_
    show gj_Do E om0 (gj_mt 174) [(.ref 81)] SI2 SJ2 _
    refine gj_Do.mono (q1.2.1 c2) (fun v_ SI6 SJ6 h_ => ?_)
    obtain ⟨r5, rfl, q4⟩ := h_
    show gj_Goes E om0 mt_274 97 [some (.ref 81), some (.int a1)] [(.long r5)] SI6 SJ6 (QI Q)
    refine gj_goq gj_clT ok_274 [4, 92, 97, 117, 120, 126, 129, 142, 179, 184, 196, 199, 204, 222] ?_
    show QI Q (some (.int (r5).toInt32)) SI6 SJ6
    exact ⟨_, rfl, q4⟩
  · refine gj_goq gj_clT ok_274 [4, 92, 97, 117, 120, 126, 129, 142, 179, 184, 196, 199, 204, 222] ?_
    show vp_in (i3 17) 135 ∧ (QI Q (some (.int (SI2 82 17))) SI2 SJ2)
    refine ⟨(gj_vin (by decide)), ?_⟩
    exact ⟨_, rfl, (q1.2.2.1 c2)⟩
  · refine gj_goq gj_clT ok_274 [4, 92, 97, 117, 120, 126, 129, 142, 179, 184, 196, 199, 204, 222] ?_
    show QI Q (some (.int (SI2 81 8))) SI2 SJ2
    exact ⟨_, rfl, (q1.2.2.2.1 c2)⟩
  · refine gj_goq gj_clT ok_274 [4, 92, 97, 117, 120, 126, 129, 142, 179, 184, 196, 199, 204, 222] ?_
    show gj_Do E om0 (gj_mt 185) [(.ref 81)] SI2 SJ2 _
    refine gj_Do.mono (q1.2.2.2.2.1 c2) (fun v_ SI8 SJ8 h_ => ?_)
    obtain ⟨r7, rfl, q5⟩ := h_
    show gj_Goes E om0 mt_274 117 [some (.ref 81), some (.int a1)] [(.int r7), (.ref 81)] SI8 SJ8 (QI Q)
    refine gj_goq gj_clT ok_274 [4, 92, 97, 117, 120, 126, 129, 142, 179, 184, 196, 199, 204, 222] ?_
    show gj_Do E om0 (gj_mt 193) [(.ref 81), (.int r7)] SI8 SJ8 _
    refine gj_Do.mono q5 (fun v_ SI10 SJ10 h_ => ?_)
    obtain ⟨r9, rfl, q6⟩ := h_
    show gj_Goes E om0 mt_274 120 [some (.ref 81), some (.int a1)] [(.int r9)] SI10 SJ10 (QI Q)
    refine gj_goq gj_clT ok_274 [4, 92, 97, 117, 120, 126, 129, 142, 179, 184, 196, 199, 204, 222] ?_
    show QI Q (some (.int r9)) SI10 SJ10
    exact ⟨_, rfl, q6⟩
  · refine gj_goq gj_clT ok_274 [4, 92, 97, 117, 120, 126, 129, 142, 179, 184, 196, 199, 204, 222] ?_
    show gj_Do E om0 (gj_mt 185) [(.ref 81)] SI2 SJ2 _
    refine gj_Do.mono (q1.2.2.2.2.2.1 c2) (fun v_ SI12 SJ12 h_ => ?_)
    obtain ⟨r11, rfl, q7⟩ := h_
    show gj_Goes E om0 mt_274 126 [some (.ref 81), some (.int a1)] [(.int r11), (.ref 81)] SI12 SJ12 (QI Q)
    refine gj_goq gj_clT ok_274 [4, 92, 97, 117, 120, 126, 129, 142, 179, 184, 196, 199, 204, 222] ?_
    show gj_Do E om0 (gj_mt 194) [(.ref 81), (.int r11)] SI12 SJ12 _
    refine gj_Do.mono q7 (fun v_ SI14 SJ14 h_ => ?_)
    obtain ⟨r13, rfl, q8⟩ := h_
    show gj_Goes E om0 mt_274 129 [some (.ref 81), some (.int a1)] [(.int r13)] SI14 SJ14 (QI Q)
    refine gj_goq gj_clT ok_274 [4, 92, 97, 117, 120, 126, 129, 142, 179, 184, 196, 199, 204, 222] ?_
    show (r13 = 0 → gj_Goes E om0 mt_274 136 [some (.ref 81), some (.int a1)] [] SI14 SJ14 (QI Q)) ∧ (¬ r13 = 0 → gj_Goes E om0 mt_274 137 [some (.ref 81), some (.int a1)] [(.int (i3 1))] SI14 SJ14 (QI Q))
    refine ⟨fun c9 => ?_, fun c9 => ?_⟩
    · refine gj_goq gj_clT ok_274 [4, 92, 97, 117, 120, 126, 129, 142, 179, 184, 196, 199, 204, 222] ?_
      show QI Q (some (.int (i3 0))) SI14 SJ14
      exact ⟨_, rfl, (q8.1 c9)⟩
    · refine gj_goq gj_clT ok_274 [4, 92, 97, 117, 120, 126, 129, 142, 179, 184, 196, 199, 204, 222] ?_
      show QI Q (some (.int (i3 1))) SI14 SJ14
      exact ⟨_, rfl, (q8.2 c9)⟩
  · refine gj_goq gj_clT ok_274 [4, 92, 97, 117, 120, 126, 129, 142, 179, 184, 196, 199, 204, 222] ?_
    show gj_Do E om0 (gj_mt 176) [(.ref 81)] SI2 SJ2 _
    refine gj_Do.mono (q1.2.2.2.2.2.2.1 c2) (fun v_ SI16 SJ16 h_ => ?_)
    obtain ⟨r15, rfl, q10⟩ := h_
    show gj_Goes E om0 mt_274 142 [some (.ref 81), some (.int a1)] [(.int r15)] SI16 SJ16 (QI Q)
    refine gj_goq gj_clT ok_274 [4, 92, 97, 117, 120, 126, 129, 142, 179, 184, 196, 199, 204, 222] ?_
    show QI Q (some (.int r15)) SI16 SJ16
    exact ⟨_, rfl, q10⟩
  · refine gj_goq gj_clT ok_274 [4, 92, 97, 117, 120, 126, 129, 142, 179, 184, 196, 199, 204, 222] ?_
    show vp_in (i3 30) 135 ∧ (QI Q (some (.int (SI2 82 30))) SI2 SJ2)
    refine ⟨(gj_vin (by decide)), ?_⟩
    exact ⟨_, rfl, (q1.2.2.2.2.2.2.2.1 c2)⟩
  · refine gj_goq gj_clT ok_274 [4, 92, 97, 117, 120, 126, 129, 142, 179, 184, 196, 199, 204, 222] ?_
    show vp_in (i3 31) 135 ∧ (QI Q (some (.int (SI2 82 31))) SI2 SJ2)
    refine ⟨(gj_vin (by decide)), ?_⟩
    exact ⟨_, rfl, (q1.2.2.2.2.2.2.2.2.1 c2)⟩
  · refine gj_goq gj_clT ok_274 [4, 92, 97, 117, 120, 126, 129, 142, 179, 184, 196, 199, 204, 222] ?_
    show vp_in (i3 32) 135 ∧ (QI Q (some (.int (SI2 82 32))) SI2 SJ2)
    refine ⟨(gj_vin (by decide)), ?_⟩
    exact ⟨_, rfl, (q1.2.2.2.2.2.2.2.2.2.1 c2)⟩
  · refine gj_goq gj_clT ok_274 [4, 92, 97, 117, 120, 126, 129, 142, 179, 184, 196, 199, 204, 222] ?_
    show vp_in (i3 33) 135 ∧ (QI Q (some (.int (SI2 82 33))) SI2 SJ2)
    refine ⟨(gj_vin (by decide)), ?_⟩
    exact ⟨_, rfl, (q1.2.2.2.2.2.2.2.2.2.2.1 c2)⟩
  · refine gj_goq gj_clT ok_274 [4, 92, 97, 117, 120, 126, 129, 142, 179, 184, 196, 199, 204, 222] ?_
    show gj_Do E om0 (gj_mt 260) [(.ref 81)] SI2 SJ2 _
    refine gj_Do.mono (q1.2.2.2.2.2.2.2.2.2.2.2.1 c2) (fun v_ SI18 SJ18 h_ => ?_)
    obtain ⟨r17, rfl, q11⟩ := h_
    show gj_Goes E om0 mt_274 179 [some (.ref 81), some (.int a1)] [(.int r17)] SI18 SJ18 (QI Q)
    refine gj_goq gj_clT ok_274 [4, 92, 97, 117, 120, 126, 129, 142, 179, 184, 196, 199, 204, 222] ?_
    show QI Q (some (.int r17)) SI18 SJ18
    exact ⟨_, rfl, q11⟩
  · refine gj_goq gj_clT ok_274 [4, 92, 97, 117, 120, 126, 129, 142, 179, 184, 196, 199, 204, 222] ?_
    show gj_Do E om0 (gj_mt 261) [(.ref 81)] SI2 SJ2 _
    refine gj_Do.mono (q1.2.2.2.2.2.2.2.2.2.2.2.2.1 c2) (fun v_ SI20 SJ20 h_ => ?_)
    obtain ⟨r19, rfl, q12⟩ := h_
    show gj_Goes E om0 mt_274 184 [some (.ref 81), some (.int a1)] [(.int r19)] SI20 SJ20 (QI Q)
    refine gj_goq gj_clT ok_274 [4, 92, 97, 117, 120, 126, 129, 142, 179, 184, 196, 199, 204, 222] ?_
    show (0 ≤ r19 → gj_Goes E om0 mt_274 192 [some (.ref 81), some (.int a1)] [] SI20 SJ20 (QI Q)) ∧ (¬ 0 ≤ r19 → gj_Goes E om0 mt_274 199 [some (.ref 81), some (.int a1)] [(.int (i3 (-2)))] SI20 SJ20 (QI Q))
    refine ⟨fun c13 => ?_, fun c13 => ?_⟩
    · refine gj_goq gj_clT ok_274 [4, 92, 97, 117, 120, 126, 129, 142, 179, 184, 196, 199, 204, 222] ?_
      show gj_Do E om0 (gj_mt 261) [(.ref 81)] SI20 SJ20 _
      refine gj_Do.mono (q12.1 c13) (fun v_ SI22 SJ22 h_ => ?_)
      obtain ⟨r21, rfl, q14⟩ := h_
      show gj_Goes E om0 mt_274 196 [some (.ref 81), some (.int a1)] [(.int r21)] SI22 SJ22 (QI Q)
      refine gj_goq gj_clT ok_274 [4, 92, 97, 117, 120, 126, 129, 142, 179, 184, 196, 199, 204, 222] ?_
      show gj_Do E om0 (gj_mt 160) [(.int r21)] SI22 SJ22 _
      refine gj_Do.mono q14 (fun v_ SI24 SJ24 h_ => ?_)
      obtain ⟨r23, rfl, q15⟩ := h_
      show gj_Goes E om0 mt_274 199 [some (.ref 81), some (.int a1)] [(.int r23)] SI24 SJ24 (QI Q)
      refine gj_goq gj_clT ok_274 [4, 92, 97, 117, 120, 126, 129, 142, 179, 184, 196, 199, 204, 222] ?_
      show QI Q (some (.int r23)) SI24 SJ24
      exact ⟨_, rfl, q15⟩
    · refine gj_goq gj_clT ok_274 [4, 92, 97, 117, 120, 126, 129, 142, 179, 184, 196, 199, 204, 222] ?_
      show QI Q (some (.int (i3 (-2)))) SI20 SJ20
      exact ⟨_, rfl, (q12.2 c13)⟩
  · refine gj_goq gj_clT ok_274 [4, 92, 97, 117, 120, 126, 129, 142, 179, 184, 196, 199, 204, 222] ?_
    show gj_Do E om0 (gj_mt 261) [(.ref 81)] SI2 SJ2 _
    refine gj_Do.mono (q1.2.2.2.2.2.2.2.2.2.2.2.2.2.1 c2) (fun v_ SI26 SJ26 h_ => ?_)
    obtain ⟨r25, rfl, q16⟩ := h_
    show gj_Goes E om0 mt_274 204 [some (.ref 81), some (.int a1)] [(.int r25)] SI26 SJ26 (QI Q)
    refine gj_goq gj_clT ok_274 [4, 92, 97, 117, 120, 126, 129, 142, 179, 184, 196, 199, 204, 222] ?_
    show QI Q (some (.int r25)) SI26 SJ26
    exact ⟨_, rfl, q16⟩
  · refine gj_goq gj_clT ok_274 [4, 92, 97, 117, 120, 126, 129, 142, 179, 184, 196, 199, 204, 222] ?_
    show QI Q (some (.int (SI2 81 13))) SI2 SJ2
    exact ⟨_, rfl, (q1.2.2.2.2.2.2.2.2.2.2.2.2.2.2.1 c2)⟩
  · refine gj_goq gj_clT ok_274 [4, 92, 97, 117, 120, 126, 129, 142, 179, 184, 196, 199, 204, 222] ?_
    show vp_in (i3 34) 135 ∧ (QI Q (some (.int (SI2 82 34))) SI2 SJ2)
    refine ⟨(gj_vin (by decide)), ?_⟩
    exact ⟨_, rfl, (q1.2.2.2.2.2.2.2.2.2.2.2.2.2.2.2.1 c2)⟩
  · refine gj_goq gj_clT ok_274 [4, 92, 97, 117, 120, 126, 129, 142, 179, 184, 196, 199, 204, 222] ?_
    show gj_Do E om0 (gj_mt 273) [(.ref 81)] SI2 SJ2 _
    refine gj_Do.mono (q1.2.2.2.2.2.2.2.2.2.2.2.2.2.2.2.2.1 c2) (fun v_ SI28 SJ28 h_ => ?_)
    obtain ⟨r27, rfl, q17⟩ := h_
    show gj_Goes E om0 mt_274 222 [some (.ref 81), some (.int a1)] [(.int r27)] SI28 SJ28 (QI Q)
    refine gj_goq gj_clT ok_274 [4, 92, 97, 117, 120, 126, 129, 142, 179, 184, 196, 199, 204, 222] ?_
    show QI Q (some (.int r27)) SI28 SJ28
    exact ⟨_, rfl, q17⟩
  · refine gj_goq gj_clT ok_274 [4, 92, 97, 117, 120, 126, 129, 142, 179, 184, 196, 199, 204, 222] ?_
    show QI Q (some (.int (i3 (-1)))) SI2 SJ2
    exact ⟨_, rfl, (q1.2.2.2.2.2.2.2.2.2.2.2.2.2.2.2.2.2 c2)⟩
set_option maxRecDepth 20000 in
/-- GraspJudgeModel.corner -/
theorem st_275 {E : gj_E} {Q : Int32 → gj_I → gj_J → Prop} (a1 : Int32) (a2 : Int32) (SI : gj_I) (SJ : gj_J) (h : DoI E 162 [(.ref 81)] SI SJ (fun r1 SI2 SJ2 => DoI E 155 [(.long (a1).toInt64), (.long (i6 0)), (.long (r1 - (i3 1)).toInt64)] SI2 SJ2 (fun r3 SI4 SJ4 => (r3 = 0 → Q (i3 (-1)) SI4 SJ4) ∧ (¬ r3 = 0 → DoI E 155 [(.long (a2).toInt64), (.long (i6 0)), (.long (i6 1))] SI4 SJ4 (fun r5 SI6 SJ6 => (r5 = 0 → Q (i3 (-1)) SI6 SJ6) ∧ (¬ r5 = 0 → (¬ a2 = 0 → vp_in ((i3 9) + a1) 135 ∧ (Q (SI6 82 (gj_n ((i3 9) + a1))) SI6 SJ6)) ∧ (a2 = 0 → vp_in ((i3 1) + a1) 135 ∧ (Q (SI6 82 (gj_n ((i3 1) + a1))) SI6 SJ6)))))))) : DoI E 275 [(.ref 81), (.int a1), (.int a2)] SI SJ Q := by
  refine gj_start (M := mt_275) ok_275 (Nat.le_of_ble_eq_true rfl) ?_
  refine gj_goq gj_clT ok_275 [7, 13, 23] ?_
  show gj_Do E om0 (gj_mt 162) [(.ref 81)] SI SJ _
  refine gj_Do.mono h (fun v_ SI2 SJ2 h_ => ?_)
  obtain ⟨r1, rfl, q1⟩ := h_
  show gj_Goes E om0 mt_275 7 [some (.ref 81), some (.int a1), some (.int a2)] [(.int r1), (.long (i6 0)), (.long (a1).toInt64)] SI2 SJ2 (QI Q)
  refine gj_goq gj_clT ok_275 [7, 13, 23] ?_
  show gj_Do E om0 (gj_mt 155) [(.long (a1).toInt64), (.long (i6 0)), (.long (r1 - (i3 1)).toInt64)] SI2 SJ2 _
  refine gj_Do.mono q1 (fun v_ SI4 SJ4 h_ => ?_)
  obtain ⟨r3, rfl, q2⟩ := h_
  show gj_Goes E om0 mt_275 13 [some (.ref 81), some (.int a1), some (.int a2)] [(.int r3)] SI4 SJ4 (QI Q)
  refine gj_goq gj_clT ok_275 [7, 13, 23] ?_
  show (r3 = 0 → gj_Goes E om0 mt_275 46 [some (.ref 81), some (.int a1), some (.int a2)] [] SI4 SJ4 (QI Q)) ∧ (¬ r3 = 0 → gj_Do E om0 (gj_mt 155) [(.long (a2).toInt64), (.long (i6 0)), (.long (i6 1))] SI4 SJ4 _)
  refine ⟨fun c3 => ?_, fun c3 => ?_⟩
  · refine gj_goq gj_clT ok_275 [7, 13, 23] ?_
    show QI Q (some (.int (i3 (-1)))) SI4 SJ4
    exact ⟨_, rfl, (q2.1 c3)⟩
  · refine gj_Do.mono (q2.2 c3) (fun v_ SI6 SJ6 h_ => ?_)
    obtain ⟨r5, rfl, q4⟩ := h_
    show gj_Goes E om0 mt_275 23 [some (.ref 81), some (.int a1), some (.int a2)] [(.int r5)] SI6 SJ6 (QI Q)
    refine gj_goq gj_clT ok_275 [7, 13, 23] ?_
    show (r5 = 0 → gj_Goes E om0 mt_275 46 [some (.ref 81), some (.int a1), some (.int a2)] [] SI6 SJ6 (QI Q)) ∧ (¬ r5 = 0 → (¬ a2 = 0 → gj_Goes E om0 mt_275 38 [some (.ref 81), some (.int a1), some (.int a2)] [(.ref 82)] SI6 SJ6 (QI Q)) ∧ (a2 = 0 → gj_Goes E om0 mt_275 40 [some (.ref 81), some (.int a1), some (.int a2)] [(.int (i3 1)), (.ref 82)] SI6 SJ6 (QI Q)))
    refine ⟨fun c5 => ?_, fun c5 => ?_⟩
    · refine gj_goq gj_clT ok_275 [7, 13, 23] ?_
      show QI Q (some (.int (i3 (-1)))) SI6 SJ6
      exact ⟨_, rfl, (q4.1 c5)⟩
    · refine ⟨fun c6 => ?_, fun c6 => ?_⟩
      · refine gj_goq gj_clT ok_275 [7, 13, 23] ?_
        show vp_in ((i3 9) + a1) 135 ∧ (gj_Goes E om0 mt_275 47 [some (.ref 81), some (.int a1), some (.int a2)] [(.int (SI6 82 (gj_n ((i3 9) + a1))))] SI6 SJ6 (QI Q))
        have k7 := ((q4.2 c5).1 c6).1
        refine ⟨k7, ?_⟩
        refine gj_goq gj_clT ok_275 [7, 13, 23] ?_
        show QI Q (some (.int (SI6 82 (gj_n ((i3 9) + a1))))) SI6 SJ6
        exact ⟨_, rfl, ((q4.2 c5).1 c6).2⟩
      · refine gj_goq gj_clT ok_275 [7, 13, 23] ?_
        show vp_in ((i3 1) + a1) 135 ∧ (gj_Goes E om0 mt_275 47 [some (.ref 81), some (.int a1), some (.int a2)] [(.int (SI6 82 (gj_n ((i3 1) + a1))))] SI6 SJ6 (QI Q))
        have k8 := ((q4.2 c5).2 c6).1
        refine ⟨k8, ?_⟩
        refine gj_goq gj_clT ok_275 [7, 13, 23] ?_
        show QI Q (some (.int (SI6 82 (gj_n ((i3 1) + a1))))) SI6 SJ6
        exact ⟨_, rfl, ((q4.2 c5).2 c6).2⟩
set_option maxRecDepth 20000 in
/-- GraspJudgeModel.edge -/
theorem st_276 {E : gj_E} {Q : Int64 → gj_I → gj_J → Prop} (a1 : Int32) (a2 : Int32) (SI : gj_I) (SJ : gj_J) (h : DoI E 162 [(.ref 81)] SI SJ (fun r1 SI2 SJ2 => DoI E 155 [(.long (a1).toInt64), (.long (i6 0)), (.long (r1 - (i3 1)).toInt64)] SI2 SJ2 (fun r3 SI4 SJ4 => (¬ r3 = 0 → (a2 = (i3 0) → DoI E 166 [(.ref 81), (.int a1)] SI4 SJ4 (fun r5 SI6 SJ6 => Q (r5).toInt64 SI6 SJ6)) ∧ (a2 = (i3 1) → DoI E 167 [(.ref 81), (.int a1)] SI4 SJ4 (fun r7 SI8 SJ8 => Q (r7).toInt64 SI8 SJ8)) ∧ (a2 = (i3 2) → DoI E 167 [(.ref 81), (.int a1)] SI4 SJ4 (fun r9 SI10 SJ10 => Q (-r9).toInt64 SI10 SJ10)) ∧ (a2 = (i3 3) → DoI E 166 [(.ref 81), (.int a1)] SI4 SJ4 (fun r11 SI12 SJ12 => Q (r11).toInt64 SI12 SJ12)) ∧ (a2 = (i3 4) → DoI E 165 [(.ref 81), (.int a1)] SI4 SJ4 (fun r13 SI14 SJ14 => Q (r13).toInt64 SI14 SJ14)) ∧ (a2.toInt < 0 ∨ 4 < a2.toInt → Q (i6 (-9000000000000000000)) SI4 SJ4)) ∧ (r3 = 0 → Q (i6 (-9000000000000000000)) SI4 SJ4)))) : DoL E 276 [(.ref 81), (.int a1), (.int a2)] SI SJ Q := by
  refine gj_start (M := mt_276) ok_276 (Nat.le_of_ble_eq_true rfl) ?_
  refine gj_goq gj_clT ok_276 [7, 13, 61, 68, 75, 83, 90] ?_
  show gj_Do E om0 (gj_mt 162) [(.ref 81)] SI SJ _
  refine gj_Do.mono h (fun v_ SI2 SJ2 h_ => ?_)
  obtain ⟨r1, rfl, q1⟩ := h_
  show gj_Goes E om0 mt_276 7 [some (.ref 81), some (.int a1), some (.int a2)] [(.int r1), (.long (i6 0)), (.long (a1).toInt64)] SI2 SJ2 (QL Q)
  refine gj_goq gj_clT ok_276 [7, 13, 61, 68, 75, 83, 90] ?_
  show gj_Do E om0 (gj_mt 155) [(.long (a1).toInt64), (.long (i6 0)), (.long (r1 - (i3 1)).toInt64)] SI2 SJ2 _
  refine gj_Do.mono q1 (fun v_ SI4 SJ4 h_ => ?_)
  obtain ⟨r3, rfl, q2⟩ := h_
  show gj_Goes E om0 mt_276 13 [some (.ref 81), some (.int a1), some (.int a2)] [(.int r3)] SI4 SJ4 (QL Q)
  refine gj_goq gj_clT ok_276 [7, 13, 61, 68, 75, 83, 90] ?_
  show (¬ r3 = 0 → gj_Goes E om0 mt_276 20 [some (.ref 81), some (.int a1), some (.int a2)] [] SI4 SJ4 (QL Q)) ∧ (r3 = 0 → QL Q (some (.long (i6 (-9000000000000000000)))) SI4 SJ4)
  refine ⟨fun c3 => ?_, fun c3 => ?_⟩
  · refine gj_goq gj_clT ok_276 [7, 13, 61, 68, 75, 83, 90] ?_
    show ((a2 = Int32.ofInt (0) → gj_Goes E om0 mt_276 56 [some (.ref 81), some (.int a1), some (.int a2)] [] SI4 SJ4 (QL Q)) ∧ (a2 = Int32.ofInt (1) → gj_Goes E om0 mt_276 63 [some (.ref 81), some (.int a1), some (.int a2)] [] SI4 SJ4 (QL Q)) ∧ (a2 = Int32.ofInt (2) → gj_Goes E om0 mt_276 70 [some (.ref 81), some (.int a1), some (.int a2)] [] SI4 SJ4 (QL Q)) ∧ (a2 = Int32.ofInt (3) → gj_Goes E om0 mt_276 78 [some (.ref 81), some (.int a1), some (.int a2)] [] SI4 SJ4 (QL Q)) ∧ (a2 = Int32.ofInt (4) → gj_Goes E om0 mt_276 85 [some (.ref 81), some (.int a1), some (.int a2)] [] SI4 SJ4 (QL Q)) ∧ True) ∧ (a2.toInt < 0 ∨ 4 < a2.toInt → gj_Goes E om0 mt_276 92 [some (.ref 81), some (.int a1), some (.int a2)] [] SI4 SJ4 (QL Q))
    refine ⟨⟨fun c4 => ?_, ⟨fun c4 => ?_, ⟨fun c4 => ?_, ⟨fun c4 => ?_, ⟨fun c4 => ?_, trivial⟩⟩⟩⟩⟩, fun c4 => ?_⟩
    · refine gj_goq gj_clT ok_276 [7, 13, 61, 68, 75, 83, 90] ?_
      show gj_Do E om0 (gj_mt 166) [(.ref 81), (.int a1)] SI4 SJ4 _
      refine gj_Do.mono ((q2.1 c3).1 c4) (fun v_ SI6 SJ6 h_ => ?_)
      obtain ⟨r5, rfl, q5⟩ := h_
      show gj_Goes E om0 mt_276 61 [some (.ref 81), some (.int a1), some (.int a2)] [(.int r5)] SI6 SJ6 (QL Q)
      refine gj_goq gj_clT ok_276 [7, 13, 61, 68, 75, 83, 90] ?_
      show QL Q (some (.long (r5).toInt64)) SI6 SJ6
      exact ⟨_, rfl, q5⟩
    · refine gj_goq gj_clT ok_276 [7, 13, 61, 68, 75, 83, 90] ?_
      show gj_Do E om0 (gj_mt 167) [(.ref 81), (.int a1)] SI4 SJ4 _
      refine gj_Do.mono ((q2.1 c3).2.1 c4) (fun v_ SI8 SJ8 h_ => ?_)
      obtain ⟨r7, rfl, q6⟩ := h_
      show gj_Goes E om0 mt_276 68 [some (.ref 81), some (.int a1), some (.int a2)] [(.int r7)] SI8 SJ8 (QL Q)
      refine gj_goq gj_clT ok_276 [7, 13, 61, 68, 75, 83, 90] ?_
      show QL Q (some (.long (r7).toInt64)) SI8 SJ8
      exact ⟨_, rfl, q6⟩
    · refine gj_goq gj_clT ok_276 [7, 13, 61, 68, 75, 83, 90] ?_
      show gj_Do E om0 (gj_mt 167) [(.ref 81), (.int a1)] SI4 SJ4 _
      refine gj_Do.mono ((q2.1 c3).2.2.1 c4) (fun v_ SI10 SJ10 h_ => ?_)
      obtain ⟨r9, rfl, q7⟩ := h_
      show gj_Goes E om0 mt_276 75 [some (.ref 81), some (.int a1), some (.int a2)] [(.int r9)] SI10 SJ10 (QL Q)
      refine gj_goq gj_clT ok_276 [7, 13, 61, 68, 75, 83, 90] ?_
      show QL Q (some (.long (-r9).toInt64)) SI10 SJ10
      exact ⟨_, rfl, q7⟩
    · refine gj_goq gj_clT ok_276 [7, 13, 61, 68, 75, 83, 90] ?_
      show gj_Do E om0 (gj_mt 166) [(.ref 81), (.int a1)] SI4 SJ4 _
      refine gj_Do.mono ((q2.1 c3).2.2.2.1 c4) (fun v_ SI12 SJ12 h_ => ?_)
      obtain ⟨r11, rfl, q8⟩ := h_
      show gj_Goes E om0 mt_276 83 [some (.ref 81), some (.int a1), some (.int a2)] [(.int r11)] SI12 SJ12 (QL Q)
      refine gj_goq gj_clT ok_276 [7, 13, 61, 68, 75, 83, 90] ?_
      show QL Q (some (.long (r11).toInt64)) SI12 SJ12
      exact ⟨_, rfl, q8⟩
    · refine gj_goq gj_clT ok_276 [7, 13, 61, 68, 75, 83, 90] ?_
      show gj_Do E om0 (gj_mt 165) [(.ref 81), (.int a1)] SI4 SJ4 _
      refine gj_Do.mono ((q2.1 c3).2.2.2.2.1 c4) (fun v_ SI14 SJ14 h_ => ?_)
      obtain ⟨r13, rfl, q9⟩ := h_
      show gj_Goes E om0 mt_276 90 [some (.ref 81), some (.int a1), some (.int a2)] [(.int r13)] SI14 SJ14 (QL Q)
      refine gj_goq gj_clT ok_276 [7, 13, 61, 68, 75, 83, 90] ?_
      show QL Q (some (.long (r13).toInt64)) SI14 SJ14
      exact ⟨_, rfl, q9⟩
    · refine gj_goq gj_clT ok_276 [7, 13, 61, 68, 75, 83, 90] ?_
      show QL Q (some (.long (i6 (-9000000000000000000)))) SI4 SJ4
      exact ⟨_, rfl, ((q2.1 c3).2.2.2.2.2 c4)⟩
  · exact ⟨_, rfl, (q2.2 c3)⟩
set_option maxRecDepth 20000 in
/-- GraspJudgeModel.place -/
theorem st_277 {E : gj_E} {Q : Int32 → gj_I → gj_J → Prop} (a1 : Int32) (a2 : Int32) (SI : gj_I) (SJ : gj_J) (h : DoI E 179 [(.ref 81), (.int a1)] SI SJ (fun r1 SI2 SJ2 => (¬ r1 = 0 → DoI E 177 [(.ref 81), (.int a1)] SI2 SJ2 (fun r3 SI4 SJ4 => DoI E 178 [(.ref 81), (.int a1)] SI4 SJ4 (fun r5 SI6 SJ6 => (a2 = (i3 0) → Q r3 SI6 SJ6) ∧ (a2 = (i3 1) → Q r5 SI6 SJ6) ∧ (a2 = (i3 2) → DoI E 168 [(.ref 81), (.int r3), (.int r5)] SI6 SJ6 (fun r7 SI8 SJ8 => Q r7 SI8 SJ8)) ∧ (a2 = (i3 3) → DoI E 169 [(.ref 81), (.int r3), (.int r5)] SI6 SJ6 (fun r9 SI10 SJ10 => Q r9 SI10 SJ10)) ∧ (a2 = (i3 4) → DoI E 180 [(.ref 81), (.int r3), (.int r5)] SI6 SJ6 (fun r11 SI12 SJ12 => (¬ r11 = (i3 (-1)) → DoI E 180 [(.ref 81), (.int r3), (.int r5)] SI12 SJ12 (fun r13 SI14 SJ14 => Q r13 SI14 SJ14)) ∧ (r11 = (i3 (-1)) → Q (i3 (-2)) SI12 SJ12))) ∧ (a2 = (i3 5) → DoI E 271 [(.ref 81), (.int a1)] SI6 SJ6 (fun r15 SI16 SJ16 => Q r15 SI16 SJ16)) ∧ (a2 = (i3 6) → DoI E 272 [(.ref 81), (.int a1)] SI6 SJ6 (fun r17 SI18 SJ18 => Q r17 SI18 SJ18)) ∧ (a2.toInt < 0 ∨ 6 < a2.toInt → Q (i3 (-1)) SI6 SJ6)))) ∧ (r1 = 0 → Q (i3 (-1)) SI2 SJ2))) : DoI E 277 [(.ref 81), (.int a1), (.int a2)] SI SJ Q := by
  refine gj_start (M := mt_277) ok_277 (Nat.le_of_ble_eq_true rfl) ?_
  refine gj_goq gj_clT ok_277 [5, 15, 21, 80, 88, 96, 112, 118, 124] ?_
  show gj_Do E om0 (gj_mt 179) [(.ref 81), (.int a1)] SI SJ _
  refine gj_Do.mono h (fun v_ SI2 SJ2 h_ => ?_)
  obtain ⟨r1, rfl, q1⟩ := h_
  show gj_Goes E om0 mt_277 5 [some (.ref 81), some (.int a1), some (.int a2), none, none] [(.int r1)] SI2 SJ2 (QI Q)
  refine gj_goq gj_clT ok_277 [5, 15, 21, 80, 88, 96, 112, 118, 124] ?_
  show (¬ r1 = 0 → gj_Goes E om0 mt_277 10 [some (.ref 81), some (.int a1), some (.int a2), none, none] [] SI2 SJ2 (QI Q)) ∧ (r1 = 0 → QI Q (some (.int (i3 (-1)))) SI2 SJ2)
  refine ⟨fun c2 => ?_, fun c2 => ?_⟩
  · refine gj_goq gj_clT ok_277 [5, 15, 21, 80, 88, 96, 112, 118, 124] ?_
    show gj_Do E om0 (gj_mt 177) [(.ref 81), (.int a1)] SI2 SJ2 _
    refine gj_Do.mono (q1.1 c2) (fun v_ SI4 SJ4 h_ => ?_)
    obtain ⟨r3, rfl, q3⟩ := h_
    show gj_Goes E om0 mt_277 15 [some (.ref 81), some (.int a1), some (.int a2), none, none] [(.int r3)] SI4 SJ4 (QI Q)
    refine gj_goq gj_clT ok_277 [5, 15, 21, 80, 88, 96, 112, 118, 124] ?_
    show gj_Do E om0 (gj_mt 178) [(.ref 81), (.int a1)] SI4 SJ4 _
    refine gj_Do.mono q3 (fun v_ SI6 SJ6 h_ => ?_)
    obtain ⟨r5, rfl, q4⟩ := h_
    show gj_Goes E om0 mt_277 21 [some (.ref 81), some (.int a1), some (.int a2), some (.int r3), none] [(.int r5)] SI6 SJ6 (QI Q)
    refine gj_goq gj_clT ok_277 [5, 15, 21, 80, 88, 96, 112, 118, 124] ?_
    show ((a2 = Int32.ofInt (0) → gj_Goes E om0 mt_277 68 [some (.ref 81), some (.int a1), some (.int a2), some (.int r3), some (.int r5)] [] SI6 SJ6 (QI Q)) ∧ (a2 = Int32.ofInt (1) → gj_Goes E om0 mt_277 70 [some (.ref 81), some (.int a1), some (.int a2), some (.int r3), some (.int r5)] [] SI6 SJ6 (QI Q)) ∧ (a2 = Int32.ofInt (2) → gj_Goes E om0 mt_277 73 [some (.ref 81), some (.int a1), some (.int a2), some (.int r3), some (.int r5)] [] SI6 SJ6 (QI Q)) ∧ (a2 = Int32.ofInt (3) → gj_Goes E om0 mt_277 81 [some (.ref 81), some (.int a1), some (.int a2), some (.int r3), some (.int r5)] [] SI6 SJ6 (QI Q)) ∧ (a2 = Int32.ofInt (4) → gj_Goes E om0 mt_277 89 [some (.ref 81), some (.int a1), some (.int a2), some (.int r3), some (.int r5)] [] SI6 SJ6 (QI Q)) ∧ (a2 = Int32.ofInt (5) → gj_Goes E om0 mt_277 113 [some (.ref 81), some (.int a1), some (.int a2), some (.int r3), some (.int r5)] [] SI6 SJ6 (QI Q)) ∧ (a2 = Int32.ofInt (6) → gj_Goes E om0 mt_277 119 [some (.ref 81), some (.int a1), some (.int a2), some (.int r3), some (.int r5)] [] SI6 SJ6 (QI Q)) ∧ True) ∧ (a2.toInt < 0 ∨ 6 < a2.toInt → gj_Goes E om0 mt_277 125 [some (.ref 81), some (.int a1), some (.int a2), some (.int r3), some (.int r5)] [] SI6 SJ6 (QI Q))
    refine ⟨⟨fun c5 => ?_, ⟨fun c5 => ?_, ⟨fun c5 => ?_, ⟨fun c5 => ?_, ⟨fun c5 => ?_, ⟨fun c5 => ?_, ⟨fun c5 => ?_, trivial⟩⟩⟩⟩⟩⟩⟩, fun c5 => ?_⟩
    · refine gj_goq gj_clT ok_277 [5, 15, 21, 80, 88, 96, 112, 118, 124] ?_
      show QI Q (some (.int r3)) SI6 SJ6
      exact ⟨_, rfl, (q4.1 c5)⟩
    · refine gj_goq gj_clT ok_277 [5, 15, 21, 80, 88, 96, 112, 118, 124] ?_
      show QI Q (some (.int r5)) SI6 SJ6
      exact ⟨_, rfl, (q4.2.1 c5)⟩
    · refine gj_goq gj_clT ok_277 [5, 15, 21, 80, 88, 96, 112, 118, 124] ?_
      show gj_Do E om0 (gj_mt 168) [(.ref 81), (.int r3), (.int r5)] SI6 SJ6 _
      refine gj_Do.mono (q4.2.2.1 c5) (fun v_ SI8 SJ8 h_ => ?_)
      obtain ⟨r7, rfl, q6⟩ := h_
      show gj_Goes E om0 mt_277 80 [some (.ref 81), some (.int a1), some (.int a2), some (.int r3), some (.int r5)] [(.int r7)] SI8 SJ8 (QI Q)
      refine gj_goq gj_clT ok_277 [5, 15, 21, 80, 88, 96, 112, 118, 124] ?_
      show QI Q (some (.int r7)) SI8 SJ8
      exact ⟨_, rfl, q6⟩
    · refine gj_goq gj_clT ok_277 [5, 15, 21, 80, 88, 96, 112, 118, 124] ?_
      show gj_Do E om0 (gj_mt 169) [(.ref 81), (.int r3), (.int r5)] SI6 SJ6 _
      refine gj_Do.mono (q4.2.2.2.1 c5) (fun v_ SI10 SJ10 h_ => ?_)
      obtain ⟨r9, rfl, q7⟩ := h_
      show gj_Goes E om0 mt_277 88 [some (.ref 81), some (.int a1), some (.int a2), some (.int r3), some (.int r5)] [(.int r9)] SI10 SJ10 (QI Q)
      refine gj_goq gj_clT ok_277 [5, 15, 21, 80, 88, 96, 112, 118, 124] ?_
      show QI Q (some (.int r9)) SI10 SJ10
      exact ⟨_, rfl, q7⟩
    · refine gj_goq gj_clT ok_277 [5, 15, 21, 80, 88, 96, 112, 118, 124] ?_
      show gj_Do E om0 (gj_mt 180) [(.ref 81), (.int r3), (.int r5)] SI6 SJ6 _
      refine gj_Do.mono (q4.2.2.2.2.1 c5) (fun v_ SI12 SJ12 h_ => ?_)
      obtain ⟨r11, rfl, q8⟩ := h_
      show gj_Goes E om0 mt_277 96 [some (.ref 81), some (.int a1), some (.int a2), some (.int r3), some (.int r5)] [(.int r11)] SI12 SJ12 (QI Q)
      refine gj_goq gj_clT ok_277 [5, 15, 21, 80, 88, 96, 112, 118, 124] ?_
      show (¬ r11 = (i3 (-1)) → gj_Goes E om0 mt_277 105 [some (.ref 81), some (.int a1), some (.int a2), some (.int r3), some (.int r5)] [] SI12 SJ12 (QI Q)) ∧ (r11 = (i3 (-1)) → gj_Goes E om0 mt_277 112 [some (.ref 81), some (.int a1), some (.int a2), some (.int r3), some (.int r5)] [(.int (i3 (-2)))] SI12 SJ12 (QI Q))
      refine ⟨fun c9 => ?_, fun c9 => ?_⟩
      · refine gj_goq gj_clT ok_277 [5, 15, 21, 80, 88, 96, 112, 118, 124] ?_
        show gj_Do E om0 (gj_mt 180) [(.ref 81), (.int r3), (.int r5)] SI12 SJ12 _
        refine gj_Do.mono (q8.1 c9) (fun v_ SI14 SJ14 h_ => ?_)
        obtain ⟨r13, rfl, q10⟩ := h_
        show gj_Goes E om0 mt_277 112 [some (.ref 81), some (.int a1), some (.int a2), some (.int r3), some (.int r5)] [(.int r13)] SI14 SJ14 (QI Q)
        refine gj_goq gj_clT ok_277 [5, 15, 21, 80, 88, 96, 112, 118, 124] ?_
        show QI Q (some (.int r13)) SI14 SJ14
        exact ⟨_, rfl, q10⟩
      · refine gj_goq gj_clT ok_277 [5, 15, 21, 80, 88, 96, 112, 118, 124] ?_
        show QI Q (some (.int (i3 (-2)))) SI12 SJ12
        exact ⟨_, rfl, (q8.2 c9)⟩
    · refine gj_goq gj_clT ok_277 [5, 15, 21, 80, 88, 96, 112, 118, 124] ?_
      show gj_Do E om0 (gj_mt 271) [(.ref 81), (.int a1)] SI6 SJ6 _
      refine gj_Do.mono (q4.2.2.2.2.2.1 c5) (fun v_ SI16 SJ16 h_ => ?_)
      obtain ⟨r15, rfl, q11⟩ := h_
      show gj_Goes E om0 mt_277 118 [some (.ref 81), some (.int a1), some (.int a2), some (.int r3), some (.int r5)] [(.int r15)] SI16 SJ16 (QI Q)
      refine gj_goq gj_clT ok_277 [5, 15, 21, 80, 88, 96, 112, 118, 124] ?_
      show QI Q (some (.int r15)) SI16 SJ16
      exact ⟨_, rfl, q11⟩
    · refine gj_goq gj_clT ok_277 [5, 15, 21, 80, 88, 96, 112, 118, 124] ?_
      show gj_Do E om0 (gj_mt 272) [(.ref 81), (.int a1)] SI6 SJ6 _
      refine gj_Do.mono (q4.2.2.2.2.2.2.1 c5) (fun v_ SI18 SJ18 h_ => ?_)
      obtain ⟨r17, rfl, q12⟩ := h_
      show gj_Goes E om0 mt_277 124 [some (.ref 81), some (.int a1), some (.int a2), some (.int r3), some (.int r5)] [(.int r17)] SI18 SJ18 (QI Q)
      refine gj_goq gj_clT ok_277 [5, 15, 21, 80, 88, 96, 112, 118, 124] ?_
      show QI Q (some (.int r17)) SI18 SJ18
      exact ⟨_, rfl, q12⟩
    · refine gj_goq gj_clT ok_277 [5, 15, 21, 80, 88, 96, 112, 118, 124] ?_
      show QI Q (some (.int (i3 (-1)))) SI6 SJ6
      exact ⟨_, rfl, (q4.2.2.2.2.2.2.2 c5)⟩
  · exact ⟨_, rfl, (q1.2 c2)⟩
set_option maxRecDepth 20000 in
/-- GraspJudgeModel.inside -/
theorem st_278 {E : gj_E} {Q : Int32 → gj_I → gj_J → Prop} (a1 : Int32) (a2 : Int32) (SI : gj_I) (SJ : gj_J) (h : DoI E 155 [(.long (a1).toInt64), (.long (i6 (-20))), (.long (i6 20))] SI SJ (fun r1 SI2 SJ2 => (r1 = 0 → Q (i3 (-1)) SI2 SJ2) ∧ (¬ r1 = 0 → DoI E 155 [(.long (a2).toInt64), (.long (i6 (-20))), (.long (i6 20))] SI2 SJ2 (fun r3 SI4 SJ4 => (¬ r3 = 0 → GoI E mt_278 32 [some (.ref 81), some (.int a1), some (.int a2), some (.int (i3 0)), none, none, none, none, none] SI4 SJ4 Q) ∧ (r3 = 0 → Q (i3 (-1)) SI4 SJ4))))) : DoI E 278 [(.ref 81), (.int a1), (.int a2)] SI SJ Q := by
  refine gj_start (M := mt_278) ok_278 (Nat.le_of_ble_eq_true rfl) ?_
  refine gj_goq gj_clT ok_278 [11, 25, 32, 37, 47, 63, 69, 78, 97, 120] ?_
  show gj_Do E om0 (gj_mt 155) [(.long (a1).toInt64), (.long (i6 (-20))), (.long (i6 20))] SI SJ _
  refine gj_Do.mono h (fun v_ SI2 SJ2 h_ => ?_)
  obtain ⟨r1, rfl, q1⟩ := h_
  show gj_Goes E om0 mt_278 11 [some (.ref 81), some (.int a1), some (.int a2), none, none, none, none, none, none] [(.int r1)] SI2 SJ2 (QI Q)
  refine gj_goq gj_clT ok_278 [11, 25, 32, 37, 47, 63, 69, 78, 97, 120] ?_
  show (r1 = 0 → gj_Goes E om0 mt_278 28 [some (.ref 81), some (.int a1), some (.int a2), none, none, none, none, none, none] [] SI2 SJ2 (QI Q)) ∧ (¬ r1 = 0 → gj_Do E om0 (gj_mt 155) [(.long (a2).toInt64), (.long (i6 (-20))), (.long (i6 20))] SI2 SJ2 _)
  refine ⟨fun c2 => ?_, fun c2 => ?_⟩
  · refine gj_goq gj_clT ok_278 [11, 25, 32, 37, 47, 63, 69, 78, 97, 120] ?_
    show QI Q (some (.int (i3 (-1)))) SI2 SJ2
    exact ⟨_, rfl, (q1.1 c2)⟩
  · refine gj_Do.mono (q1.2 c2) (fun v_ SI4 SJ4 h_ => ?_)
    obtain ⟨r3, rfl, q3⟩ := h_
    show gj_Goes E om0 mt_278 25 [some (.ref 81), some (.int a1), some (.int a2), none, none, none, none, none, none] [(.int r3)] SI4 SJ4 (QI Q)
    refine gj_goq gj_clT ok_278 [11, 25, 32, 37, 47, 63, 69, 78, 97, 120] ?_
    show (¬ r3 = 0 → gj_Goes E om0 mt_278 30 [some (.ref 81), some (.int a1), some (.int a2), none, none, none, none, none, none] [] SI4 SJ4 (QI Q)) ∧ (r3 = 0 → QI Q (some (.int (i3 (-1)))) SI4 SJ4)
    refine ⟨fun c4 => ?_, fun c4 => ?_⟩
    · refine gj_goq gj_clT ok_278 [11, 25, 32, 37, 47, 63, 69, 78, 97, 120] ?_
      show gj_Goes E om0 mt_278 32 [some (.ref 81), some (.int a1), some (.int a2), some (.int (i3 0)), none, none, none, none, none] [] SI4 SJ4 (QI Q)
      exact (q3.1 c4)
    · exact ⟨_, rfl, (q3.2 c4)⟩
set_option maxRecDepth 20000 in
theorem lp_278_32 {E : gj_E} {Q : Int32 → gj_I → gj_J → Prop} (x1 : Int32) (x2 : Int32) (x3 : Int32) (SI : gj_I) (SJ : gj_J) (h : DoI E 162 [(.ref 81)] SI SJ (fun r1 SI2 SJ2 => (r1 ≤ x3 → GoI E mt_278 63 [some (.ref 81), some (.int x1), some (.int x2), some (.int (i3 0)), some (.int (i3 0)), none, none, none, none] SI2 SJ2 Q) ∧ (¬ r1 ≤ x3 → DoI E 172 [(.ref 81), (.int x3), (.int x1), (.int x2)] SI2 SJ2 (fun r3 SI4 SJ4 => (r3 = 0 → GoI E mt_278 32 [some (.ref 81), some (.int x1), some (.int x2), some (.int (x3 + (i3 1))), none, none, none, none, none] SI4 SJ4 Q) ∧ (¬ r3 = 0 → Q (i3 2) SI4 SJ4))))) : GoI E mt_278 32 [some (.ref 81), some (.int x1), some (.int x2), some (.int x3), none, none, none, none, none] SI SJ Q := by
  refine gj_goq gj_clT ok_278 [11, 25, 32, 37, 47, 63, 69, 78, 97, 120] ?_
  show gj_Do E om0 (gj_mt 162) [(.ref 81)] SI SJ _
  refine gj_Do.mono h (fun v_ SI2 SJ2 h_ => ?_)
  obtain ⟨r1, rfl, q1⟩ := h_
  show gj_Goes E om0 mt_278 37 [some (.ref 81), some (.int x1), some (.int x2), some (.int x3), none, none, none, none, none] [(.int r1), (.int x3)] SI2 SJ2 (QI Q)
  refine gj_goq gj_clT ok_278 [11, 25, 32, 37, 47, 63, 69, 78, 97, 120] ?_
  show (r1 ≤ x3 → gj_Goes E om0 mt_278 58 [some (.ref 81), some (.int x1), some (.int x2), some (.int x3), none, none, none, none, none] [] SI2 SJ2 (QI Q)) ∧ (¬ r1 ≤ x3 → gj_Do E om0 (gj_mt 172) [(.ref 81), (.int x3), (.int x1), (.int x2)] SI2 SJ2 _)
  refine ⟨fun c2 => ?_, fun c2 => ?_⟩
  · refine gj_goq gj_clT ok_278 [11, 25, 32, 37, 47, 63, 69, 78, 97, 120] ?_
    show gj_Goes E om0 mt_278 63 [some (.ref 81), some (.int x1), some (.int x2), some (.int (i3 0)), some (.int (i3 0)), none, none, none, none] [] SI2 SJ2 (QI Q)
    exact (q1.1 c2)
  · refine gj_Do.mono (q1.2 c2) (fun v_ SI4 SJ4 h_ => ?_)
    obtain ⟨r3, rfl, q3⟩ := h_
    show gj_Goes E om0 mt_278 47 [some (.ref 81), some (.int x1), some (.int x2), some (.int x3), none, none, none, none, none] [(.int r3)] SI4 SJ4 (QI Q)
    refine gj_goq gj_clT ok_278 [11, 25, 32, 37, 47, 63, 69, 78, 97, 120] ?_
    show (r3 = 0 → gj_Goes E om0 mt_278 52 [some (.ref 81), some (.int x1), some (.int x2), some (.int x3), none, none, none, none, none] [] SI4 SJ4 (QI Q)) ∧ (¬ r3 = 0 → QI Q (some (.int (i3 2))) SI4 SJ4)
    refine ⟨fun c4 => ?_, fun c4 => ?_⟩
    · refine gj_goq gj_clT ok_278 [11, 25, 32, 37, 47, 63, 69, 78, 97, 120] ?_
      show gj_Goes E om0 mt_278 32 [some (.ref 81), some (.int x1), some (.int x2), some (.int (x3 + (i3 1))), none, none, none, none, none] [] SI4 SJ4 (QI Q)
      exact (q3.1 c4)
    · exact ⟨_, rfl, (q3.2 c4)⟩
set_option maxRecDepth 20000 in
theorem lp_278_63 {E : gj_E} {Q : Int32 → gj_I → gj_J → Prop} (x1 : Int32) (x2 : Int32) (x3 : Int32) (x4 : Int32) (SI : gj_I) (SJ : gj_J) (h : DoI E 162 [(.ref 81)] SI SJ (fun r1 SI2 SJ2 => (r1 ≤ x4 → (¬ x3 = 0 → Q (i3 1) SI2 SJ2) ∧ (x3 = 0 → Q (i3 0) SI2 SJ2)) ∧ (¬ r1 ≤ x4 → DoI E 164 [(.ref 81), (.int x4)] SI2 SJ2 (fun r3 SI4 SJ4 => (x2 < r3 → DoI E 164 [(.ref 81), (.int (x4 + (i3 1)))] SI4 SJ4 (fun r5 SI6 SJ6 => (x2 < r5 → DoL E 170 [(.ref 81), (.int x4), (.int (x4 + (i3 1))), (.int x1), (.int x2)] SI6 SJ6 (fun r7 SI8 SJ8 => ((i3 0) = 0 → (¬ (i3 0) = 0 → GoI E mt_278 63 [some (.ref 81), some (.int x1), some (.int x2), some (.int x3), some (.int (x4 + (i3 1))), none, none, none, none] SI8 SJ8 Q) ∧ ((i3 0) = 0 → ((i3 0) = 0 → GoI E mt_278 63 [some (.ref 81), some (.int x1), some (.int x2), some (.int x3), some (.int (x4 + (i3 1))), none, none, none, none] SI8 SJ8 Q) ∧ (¬ (i3 0) = 0 → (r7 ≥ (i6 0) → GoI E mt_278 63 [some (.ref 81), some (.int x1), some (.int x2), some (.int x3), some (.int (x4 + (i3 1))), none, none, none, none] SI8 SJ8 Q) ∧ (¬ r7 ≥ (i6 0) → GoI E mt_278 63 [some (.ref 81), some (.int x1), some (.int x2), some (.int (x3 - (i3 1))), some (.int (x4 + (i3 1))), none, none, none, none] SI8 SJ8 Q)))) ∧ (¬ (i3 0) = 0 → (¬ (i3 0) = 0 → (¬ (i3 0) = 0 → GoI E mt_278 63 [some (.ref 81), some (.int x1), some (.int x2), some (.int x3), some (.int (x4 + (i3 1))), none, none, none, none] SI8 SJ8 Q) ∧ ((i3 0) = 0 → ((i3 0) = 0 → GoI E mt_278 63 [some (.ref 81), some (.int x1), some (.int x2), some (.int x3), some (.int (x4 + (i3 1))), none, none, none, none] SI8 SJ8 Q) ∧ (¬ (i3 0) = 0 → (r7 ≥ (i6 0) → GoI E mt_278 63 [some (.ref 81), some (.int x1), some (.int x2), some (.int x3), some (.int (x4 + (i3 1))), none, none, none, none] SI8 SJ8 Q) ∧ (¬ r7 ≥ (i6 0) → GoI E mt_278 63 [some (.ref 81), some (.int x1), some (.int x2), some (.int (x3 - (i3 1))), some (.int (x4 + (i3 1))), none, none, none, none] SI8 SJ8 Q)))) ∧ ((i3 0) = 0 → (r7 ≤ (i6 0) → (¬ (i3 0) = 0 → GoI E mt_278 63 [some (.ref 81), some (.int x1), some (.int x2), some (.int x3), some (.int (x4 + (i3 1))), none, none, none, none] SI8 SJ8 Q) ∧ ((i3 0) = 0 → ((i3 0) = 0 → GoI E mt_278 63 [some (.ref 81), some (.int x1), some (.int x2), some (.int x3), some (.int (x4 + (i3 1))), none, none, none, none] SI8 SJ8 Q) ∧ (¬ (i3 0) = 0 → (r7 ≥ (i6 0) → GoI E mt_278 63 [some (.ref 81), some (.int x1), some (.int x2), some (.int x3), some (.int (x4 + (i3 1))), none, none, none, none] SI8 SJ8 Q) ∧ (¬ r7 ≥ (i6 0) → GoI E mt_278 63 [some (.ref 81), some (.int x1), some (.int x2), some (.int (x3 - (i3 1))), some (.int (x4 + (i3 1))), none, none, none, none] SI8 SJ8 Q)))) ∧ (¬ r7 ≤ (i6 0) → (¬ (i3 0) = 0 → GoI E mt_278 63 [some (.ref 81), some (.int x1), some (.int x2), some (.int (x3 + (i3 1))), some (.int (x4 + (i3 1))), none, none, none, none] SI8 SJ8 Q) ∧ ((i3 0) = 0 → ((i3 0) = 0 → GoI E mt_278 63 [some (.ref 81), some (.int x1), some (.int x2), some (.int (x3 + (i3 1))), some (.int (x4 + (i3 1))), none, none, none, none] SI8 SJ8 Q) ∧ (¬ (i3 0) = 0 → (r7 ≥ (i6 0) → GoI E mt_278 63 [some (.ref 81), some (.int x1), some (.int x2), some (.int (x3 + (i3 1))), some (.int (x4 + (i3 1))), none, none, none, none] SI8 SJ8 Q) ∧ (¬ r7 ≥ (i6 0) → GoI E mt_278 63 [some (.ref 81), some (.int x1), some (.int x2), some (.int ((x3 + (i3 1)) - (i3 1))), some (.int (x4 + (i3 1))), none, none, none, none] SI8 SJ8 Q)))))))) ∧ (¬ x2 < r5 → DoL E 170 [(.ref 81), (.int x4), (.int (x4 + (i3 1))), (.int x1), (.int x2)] SI6 SJ6 (fun r9 SI10 SJ10 => ((i3 0) = 0 → (¬ (i3 0) = 0 → GoI E mt_278 63 [some (.ref 81), some (.int x1), some (.int x2), some (.int x3), some (.int (x4 + (i3 1))), none, none, none, none] SI10 SJ10 Q) ∧ ((i3 0) = 0 → ((i3 1) = 0 → GoI E mt_278 63 [some (.ref 81), some (.int x1), some (.int x2), some (.int x3), some (.int (x4 + (i3 1))), none, none, none, none] SI10 SJ10 Q) ∧ (¬ (i3 1) = 0 → (r9 ≥ (i6 0) → GoI E mt_278 63 [some (.ref 81), some (.int x1), some (.int x2), some (.int x3), some (.int (x4 + (i3 1))), none, none, none, none] SI10 SJ10 Q) ∧ (¬ r9 ≥ (i6 0) → GoI E mt_278 63 [some (.ref 81), some (.int x1), some (.int x2), some (.int (x3 - (i3 1))), some (.int (x4 + (i3 1))), none, none, none, none] SI10 SJ10 Q)))) ∧ (¬ (i3 0) = 0 → (¬ (i3 1) = 0 → (¬ (i3 0) = 0 → GoI E mt_278 63 [some (.ref 81), some (.int x1), some (.int x2), some (.int x3), some (.int (x4 + (i3 1))), none, none, none, none] SI10 SJ10 Q) ∧ ((i3 0) = 0 → ((i3 1) = 0 → GoI E mt_278 63 [some (.ref 81), some (.int x1), some (.int x2), some (.int x3), some (.int (x4 + (i3 1))), none, none, none, none] SI10 SJ10 Q) ∧ (¬ (i3 1) = 0 → (r9 ≥ (i6 0) → GoI E mt_278 63 [some (.ref 81), some (.int x1), some (.int x2), some (.int x3), some (.int (x4 + (i3 1))), none, none, none, none] SI10 SJ10 Q) ∧ (¬ r9 ≥ (i6 0) → GoI E mt_278 63 [some (.ref 81), some (.int x1), some (.int x2), some (.int (x3 - (i3 1))), some (.int (x4 + (i3 1))), none, none, none, none] SI10 SJ10 Q)))) ∧ ((i3 1) = 0 → (r9 ≤ (i6 0) → (¬ (i3 0) = 0 → GoI E mt_278 63 [some (.ref 81), some (.int x1), some (.int x2), some (.int x3), some (.int (x4 + (i3 1))), none, none, none, none] SI10 SJ10 Q) ∧ ((i3 0) = 0 → ((i3 1) = 0 → GoI E mt_278 63 [some (.ref 81), some (.int x1), some (.int x2), some (.int x3), some (.int (x4 + (i3 1))), none, none, none, none] SI10 SJ10 Q) ∧ (¬ (i3 1) = 0 → (r9 ≥ (i6 0) → GoI E mt_278 63 [some (.ref 81), some (.int x1), some (.int x2), some (.int x3), some (.int (x4 + (i3 1))), none, none, none, none] SI10 SJ10 Q) ∧ (¬ r9 ≥ (i6 0) → GoI E mt_278 63 [some (.ref 81), some (.int x1), some (.int x2), some (.int (x3 - (i3 1))), some (.int (x4 + (i3 1))), none, none, none, none] SI10 SJ10 Q)))) ∧ (¬ r9 ≤ (i6 0) → (¬ (i3 0) = 0 → GoI E mt_278 63 [some (.ref 81), some (.int x1), some (.int x2), some (.int (x3 + (i3 1))), some (.int (x4 + (i3 1))), none, none, none, none] SI10 SJ10 Q) ∧ ((i3 0) = 0 → ((i3 1) = 0 → GoI E mt_278 63 [some (.ref 81), some (.int x1), some (.int x2), some (.int (x3 + (i3 1))), some (.int (x4 + (i3 1))), none, none, none, none] SI10 SJ10 Q) ∧ (¬ (i3 1) = 0 → (r9 ≥ (i6 0) → GoI E mt_278 63 [some (.ref 81), some (.int x1), some (.int x2), some (.int (x3 + (i3 1))), some (.int (x4 + (i3 1))), none, none, none, none] SI10 SJ10 Q) ∧ (¬ r9 ≥ (i6 0) → GoI E mt_278 63 [some (.ref 81), some (.int x1), some (.int x2), some (.int ((x3 + (i3 1)) - (i3 1))), some (.int (x4 + (i3 1))), none, none, none, none] SI10 SJ10 Q)))))))))) ∧ (¬ x2 < r3 → DoI E 164 [(.ref 81), (.int (x4 + (i3 1)))] SI4 SJ4 (fun r11 SI12 SJ12 => (x2 < r11 → DoL E 170 [(.ref 81), (.int x4), (.int (x4 + (i3 1))), (.int x1), (.int x2)] SI12 SJ12 (fun r13 SI14 SJ14 => ((i3 1) = 0 → (¬ (i3 1) = 0 → GoI E mt_278 63 [some (.ref 81), some (.int x1), some (.int x2), some (.int x3), some (.int (x4 + (i3 1))), none, none, none, none] SI14 SJ14 Q) ∧ ((i3 1) = 0 → ((i3 0) = 0 → GoI E mt_278 63 [some (.ref 81), some (.int x1), some (.int x2), some (.int x3), some (.int (x4 + (i3 1))), none, none, none, none] SI14 SJ14 Q) ∧ (¬ (i3 0) = 0 → (r13 ≥ (i6 0) → GoI E mt_278 63 [some (.ref 81), some (.int x1), some (.int x2), some (.int x3), some (.int (x4 + (i3 1))), none, none, none, none] SI14 SJ14 Q) ∧ (¬ r13 ≥ (i6 0) → GoI E mt_278 63 [some (.ref 81), some (.int x1), some (.int x2), some (.int (x3 - (i3 1))), some (.int (x4 + (i3 1))), none, none, none, none] SI14 SJ14 Q)))) ∧ (¬ (i3 1) = 0 → (¬ (i3 0) = 0 → (¬ (i3 1) = 0 → GoI E mt_278 63 [some (.ref 81), some (.int x1), some (.int x2), some (.int x3), some (.int (x4 + (i3 1))), none, none, none, none] SI14 SJ14 Q) ∧ ((i3 1) = 0 → ((i3 0) = 0 → GoI E mt_278 63 [some (.ref 81), some (.int x1), some (.int x2), some (.int x3), some (.int (x4 + (i3 1))), none, none, none, none] SI14 SJ14 Q) ∧ (¬ (i3 0) = 0 → (r13 ≥ (i6 0) → GoI E mt_278 63 [some (.ref 81), some (.int x1), some (.int x2), some (.int x3), some (.int (x4 + (i3 1))), none, none, none, none] SI14 SJ14 Q) ∧ (¬ r13 ≥ (i6 0) → GoI E mt_278 63 [some (.ref 81), some (.int x1), some (.int x2), some (.int (x3 - (i3 1))), some (.int (x4 + (i3 1))), none, none, none, none] SI14 SJ14 Q)))) ∧ ((i3 0) = 0 → (r13 ≤ (i6 0) → (¬ (i3 1) = 0 → GoI E mt_278 63 [some (.ref 81), some (.int x1), some (.int x2), some (.int x3), some (.int (x4 + (i3 1))), none, none, none, none] SI14 SJ14 Q) ∧ ((i3 1) = 0 → ((i3 0) = 0 → GoI E mt_278 63 [some (.ref 81), some (.int x1), some (.int x2), some (.int x3), some (.int (x4 + (i3 1))), none, none, none, none] SI14 SJ14 Q) ∧ (¬ (i3 0) = 0 → (r13 ≥ (i6 0) → GoI E mt_278 63 [some (.ref 81), some (.int x1), some (.int x2), some (.int x3), some (.int (x4 + (i3 1))), none, none, none, none] SI14 SJ14 Q) ∧ (¬ r13 ≥ (i6 0) → GoI E mt_278 63 [some (.ref 81), some (.int x1), some (.int x2), some (.int (x3 - (i3 1))), some (.int (x4 + (i3 1))), none, none, none, none] SI14 SJ14 Q)))) ∧ (¬ r13 ≤ (i6 0) → (¬ (i3 1) = 0 → GoI E mt_278 63 [some (.ref 81), some (.int x1), some (.int x2), some (.int (x3 + (i3 1))), some (.int (x4 + (i3 1))), none, none, none, none] SI14 SJ14 Q) ∧ ((i3 1) = 0 → ((i3 0) = 0 → GoI E mt_278 63 [some (.ref 81), some (.int x1), some (.int x2), some (.int (x3 + (i3 1))), some (.int (x4 + (i3 1))), none, none, none, none] SI14 SJ14 Q) ∧ (¬ (i3 0) = 0 → (r13 ≥ (i6 0) → GoI E mt_278 63 [some (.ref 81), some (.int x1), some (.int x2), some (.int (x3 + (i3 1))), some (.int (x4 + (i3 1))), none, none, none, none] SI14 SJ14 Q) ∧ (¬ r13 ≥ (i6 0) → GoI E mt_278 63 [some (.ref 81), some (.int x1), some (.int x2), some (.int ((x3 + (i3 1)) - (i3 1))), some (.int (x4 + (i3 1))), none, none, none, none] SI14 SJ14 Q)))))))) ∧ (¬ x2 < r11 → DoL E 170 [(.ref 81), (.int x4), (.int (x4 + (i3 1))), (.int x1), (.int x2)] SI12 SJ12 (fun r15 SI16 SJ16 => ((i3 1) = 0 → (¬ (i3 1) = 0 → GoI E mt_278 63 [some (.ref 81), some (.int x1), some (.int x2), some (.int x3), some (.int (x4 + (i3 1))), none, none, none, none] SI16 SJ16 Q) ∧ ((i3 1) = 0 → ((i3 1) = 0 → GoI E mt_278 63 [some (.ref 81), some (.int x1), some (.int x2), some (.int x3), some (.int (x4 + (i3 1))), none, none, none, none] SI16 SJ16 Q) ∧ (¬ (i3 1) = 0 → (r15 ≥ (i6 0) → GoI E mt_278 63 [some (.ref 81), some (.int x1), some (.int x2), some (.int x3), some (.int (x4 + (i3 1))), none, none, none, none] SI16 SJ16 Q) ∧ (¬ r15 ≥ (i6 0) → GoI E mt_278 63 [some (.ref 81), some (.int x1), some (.int x2), some (.int (x3 - (i3 1))), some (.int (x4 + (i3 1))), none, none, none, none] SI16 SJ16 Q)))) ∧ (¬ (i3 1) = 0 → (¬ (i3 1) = 0 → (¬ (i3 1) = 0 → GoI E mt_278 63 [some (.ref 81), some (.int x1), some (.int x2), some (.int x3), some (.int (x4 + (i3 1))), none, none, none, none] SI16 SJ16 Q) ∧ ((i3 1) = 0 → ((i3 1) = 0 → GoI E mt_278 63 [some (.ref 81), some (.int x1), some (.int x2), some (.int x3), some (.int (x4 + (i3 1))), none, none, none, none] SI16 SJ16 Q) ∧ (¬ (i3 1) = 0 → (r15 ≥ (i6 0) → GoI E mt_278 63 [some (.ref 81), some (.int x1), some (.int x2), some (.int x3), some (.int (x4 + (i3 1))), none, none, none, none] SI16 SJ16 Q) ∧ (¬ r15 ≥ (i6 0) → GoI E mt_278 63 [some (.ref 81), some (.int x1), some (.int x2), some (.int (x3 - (i3 1))), some (.int (x4 + (i3 1))), none, none, none, none] SI16 SJ16 Q)))) ∧ ((i3 1) = 0 → (r15 ≤ (i6 0) → (¬ (i3 1) = 0 → GoI E mt_278 63 [some (.ref 81), some (.int x1), some (.int x2), some (.int x3), some (.int (x4 + (i3 1))), none, none, none, none] SI16 SJ16 Q) ∧ ((i3 1) = 0 → ((i3 1) = 0 → GoI E mt_278 63 [some (.ref 81), some (.int x1), some (.int x2), some (.int x3), some (.int (x4 + (i3 1))), none, none, none, none] SI16 SJ16 Q) ∧ (¬ (i3 1) = 0 → (r15 ≥ (i6 0) → GoI E mt_278 63 [some (.ref 81), some (.int x1), some (.int x2), some (.int x3), some (.int (x4 + (i3 1))), none, none, none, none] SI16 SJ16 Q) ∧ (¬ r15 ≥ (i6 0) → GoI E mt_278 63 [some (.ref 81), some (.int x1), some (.int x2), some (.int (x3 - (i3 1))), some (.int (x4 + (i3 1))), none, none, none, none] SI16 SJ16 Q)))) ∧ (¬ r15 ≤ (i6 0) → (¬ (i3 1) = 0 → GoI E mt_278 63 [some (.ref 81), some (.int x1), some (.int x2), some (.int (x3 + (i3 1))), some (.int (x4 + (i3 1))), none, none, none, none] SI16 SJ16 Q) ∧ ((i3 1) = 0 → ((i3 1) = 0 → GoI E mt_278 63 [some (.ref 81), some (.int x1), some (.int x2), some (.int (x3 + (i3 1))), some (.int (x4 + (i3 1))), none, none, none, none] SI16 SJ16 Q) ∧ (¬ (i3 1) = 0 → (r15 ≥ (i6 0) → GoI E mt_278 63 [some (.ref 81), some (.int x1), some (.int x2), some (.int (x3 + (i3 1))), some (.int (x4 + (i3 1))), none, none, none, none] SI16 SJ16 Q) ∧ (¬ r15 ≥ (i6 0) → GoI E mt_278 63 [some (.ref 81), some (.int x1), some (.int x2), some (.int ((x3 + (i3 1)) - (i3 1))), some (.int (x4 + (i3 1))), none, none, none, none] SI16 SJ16 Q)))))))))))))) : GoI E mt_278 63 [some (.ref 81), some (.int x1), some (.int x2), some (.int x3), some (.int x4), none, none, none, none] SI SJ Q := by
  refine gj_goq gj_clT ok_278 [11, 25, 32, 37, 47, 63, 69, 78, 97, 120] ?_
  show gj_Do E om0 (gj_mt 162) [(.ref 81)] SI SJ _
  refine gj_Do.mono h (fun v_ SI2 SJ2 h_ => ?_)
  obtain ⟨r1, rfl, q1⟩ := h_
  show gj_Goes E om0 mt_278 69 [some (.ref 81), some (.int x1), some (.int x2), some (.int x3), some (.int x4), none, none, none, none] [(.int r1), (.int x4)] SI2 SJ2 (QI Q)
  refine gj_goq gj_clT ok_278 [11, 25, 32, 37, 47, 63, 69, 78, 97, 120] ?_
  show (r1 ≤ x4 → gj_Goes E om0 mt_278 170 [some (.ref 81), some (.int x1), some (.int x2), some (.int x3), some (.int x4), none, none, none, none] [] SI2 SJ2 (QI Q)) ∧ (¬ r1 ≤ x4 → gj_Do E om0 (gj_mt 164) [(.ref 81), (.int x4)] SI2 SJ2 _)
  refine ⟨fun c2 => ?_, fun c2 => ?_⟩
  · refine gj_goq gj_clT ok_278 [11, 25, 32, 37, 47, 63, 69, 78, 97, 120] ?_
    show (¬ x3 = 0 → gj_Goes E om0 mt_278 178 [some (.ref 81), some (.int x1), some (.int x2), some (.int x3), some (.int x4), none, none, none, none] [] SI2 SJ2 (QI Q)) ∧ (x3 = 0 → gj_Goes E om0 mt_278 179 [some (.ref 81), some (.int x1), some (.int x2), some (.int x3), some (.int x4), none, none, none, none] [(.int (i3 0))] SI2 SJ2 (QI Q))
    refine ⟨fun c3 => ?_, fun c3 => ?_⟩
    · refine gj_goq gj_clT ok_278 [11, 25, 32, 37, 47, 63, 69, 78, 97, 120] ?_
      show QI Q (some (.int (i3 1))) SI2 SJ2
      exact ⟨_, rfl, ((q1.1 c2).1 c3)⟩
    · refine gj_goq gj_clT ok_278 [11, 25, 32, 37, 47, 63, 69, 78, 97, 120] ?_
      show QI Q (some (.int (i3 0))) SI2 SJ2
      exact ⟨_, rfl, ((q1.1 c2).2 c3)⟩
  · refine gj_Do.mono (q1.2 c2) (fun v_ SI4 SJ4 h_ => ?_)
    obtain ⟨r3, rfl, q4⟩ := h_
    show gj_Goes E om0 mt_278 78 [some (.ref 81), some (.int x1), some (.int x2), some (.int x3), some (.int x4), none, none, none, none] [(.int r3)] SI4 SJ4 (QI Q)
    refine gj_goq gj_clT ok_278 [11, 25, 32, 37, 47, 63, 69, 78, 97, 120] ?_
    show (x2 < r3 → gj_Goes E om0 mt_278 86 [some (.ref 81), some (.int x1), some (.int x2), some (.int x3), some (.int x4), none, none, none, none] [] SI4 SJ4 (QI Q)) ∧ (¬ x2 < r3 → gj_Goes E om0 mt_278 87 [some (.ref 81), some (.int x1), some (.int x2), some (.int x3), some (.int x4), none, none, none, none] [(.int (i3 1))] SI4 SJ4 (QI Q))
    refine ⟨fun c5 => ?_, fun c5 => ?_⟩
    · refine gj_goq gj_clT ok_278 [11, 25, 32, 37, 47, 63, 69, 78, 97, 120] ?_
      show gj_Do E om0 (gj_mt 164) [(.ref 81), (.int (x4 + (i3 1)))] SI4 SJ4 _
      refine gj_Do.mono (q4.1 c5) (fun v_ SI6 SJ6 h_ => ?_)
      obtain ⟨r5, rfl, q6⟩ := h_
      show gj_Goes E om0 mt_278 97 [some (.ref 81), some (.int x1), some (.int x2), some (.int x3), some (.int x4), some (.int (i3 0)), none, none, none] [(.int r5)] SI6 SJ6 (QI Q)
      refine gj_goq gj_clT ok_278 [11, 25, 32, 37, 47, 63, 69, 78, 97, 120] ?_
      show (x2 < r5 → gj_Goes E om0 mt_278 105 [some (.ref 81), some (.int x1), some (.int x2), some (.int x3), some (.int x4), some (.int (i3 0)), none, none, none] [] SI6 SJ6 (QI Q)) ∧ (¬ x2 < r5 → gj_Goes E om0 mt_278 106 [some (.ref 81), some (.int x1), some (.int x2), some (.int x3), some (.int x4), some (.int (i3 0)), none, none, none] [(.int (i3 1))] SI6 SJ6 (QI Q))
      refine ⟨fun c7 => ?_, fun c7 => ?_⟩
      · refine gj_goq gj_clT ok_278 [11, 25, 32, 37, 47, 63, 69, 78, 97, 120] ?_
        show gj_Do E om0 (gj_mt 170) [(.ref 81), (.int x4), (.int (x4 + (i3 1))), (.int x1), (.int x2)] SI6 SJ6 _
        refine gj_Do.mono (q6.1 c7) (fun v_ SI8 SJ8 h_ => ?_)
        obtain ⟨r7, rfl, q8⟩ := h_
        show gj_Goes E om0 mt_278 120 [some (.ref 81), some (.int x1), some (.int x2), some (.int x3), some (.int x4), some (.int (i3 0)), some (.int (i3 0)), none, none] [(.long r7)] SI8 SJ8 (QI Q)
        refine gj_goq gj_clT ok_278 [11, 25, 32, 37, 47, 63, 69, 78, 97, 120] ?_
        show ((i3 0) = 0 → gj_Goes E om0 mt_278 143 [some (.ref 81), some (.int x1), some (.int x2), some (.int x3), some (.int x4), some (.int (i3 0)), some (.int (i3 0)), some (.long r7), none] [] SI8 SJ8 (QI Q)) ∧ (¬ (i3 0) = 0 → (¬ (i3 0) = 0 → gj_Goes E om0 mt_278 143 [some (.ref 81), some (.int x1), some (.int x2), some (.int x3), some (.int x4), some (.int (i3 0)), some (.int (i3 0)), some (.long r7), none] [] SI8 SJ8 (QI Q)) ∧ ((i3 0) = 0 → ((lg_cmp r7 (i6 0)) ≤ 0 → gj_Goes E om0 mt_278 143 [some (.ref 81), some (.int x1), some (.int x2), some (.int x3), some (.int x4), some (.int (i3 0)), some (.int (i3 0)), some (.long r7), none] [] SI8 SJ8 (QI Q)) ∧ (¬ (lg_cmp r7 (i6 0)) ≤ 0 → (¬ (i3 0) = 0 → gj_Goes E om0 mt_278 164 [some (.ref 81), some (.int x1), some (.int x2), some (.int (x3 + (i3 1))), some (.int x4), some (.int (i3 0)), some (.int (i3 0)), some (.long r7), none] [] SI8 SJ8 (QI Q)) ∧ ((i3 0) = 0 → ((i3 0) = 0 → gj_Goes E om0 mt_278 164 [some (.ref 81), some (.int x1), some (.int x2), some (.int (x3 + (i3 1))), some (.int x4), some (.int (i3 0)), some (.int (i3 0)), some (.long r7), none] [] SI8 SJ8 (QI Q)) ∧ (¬ (i3 0) = 0 → (0 ≤ (lg_cmp r7 (i6 0)) → gj_Goes E om0 mt_278 164 [some (.ref 81), some (.int x1), some (.int x2), some (.int (x3 + (i3 1))), some (.int x4), some (.int (i3 0)), some (.int (i3 0)), some (.long r7), none] [] SI8 SJ8 (QI Q)) ∧ (¬ 0 ≤ (lg_cmp r7 (i6 0)) → gj_Goes E om0 mt_278 63 [some (.ref 81), some (.int x1), some (.int x2), some (.int ((x3 + (i3 1)) - (i3 1))), some (.int (x4 + (i3 1))), some (.int (i3 0)), some (.int (i3 0)), some (.long r7), none] [] SI8 SJ8 (QI Q)))))))
        refine ⟨fun c9 => ?_, fun c9 => ?_⟩
        · refine gj_goq gj_clT ok_278 [11, 25, 32, 37, 47, 63, 69, 78, 97, 120] ?_
          show (¬ (i3 0) = 0 → gj_Goes E om0 mt_278 164 [some (.ref 81), some (.int x1), some (.int x2), some (.int x3), some (.int x4), some (.int (i3 0)), some (.int (i3 0)), some (.long r7), none] [] SI8 SJ8 (QI Q)) ∧ ((i3 0) = 0 → ((i3 0) = 0 → gj_Goes E om0 mt_278 164 [some (.ref 81), some (.int x1), some (.int x2), some (.int x3), some (.int x4), some (.int (i3 0)), some (.int (i3 0)), some (.long r7), none] [] SI8 SJ8 (QI Q)) ∧ (¬ (i3 0) = 0 → (0 ≤ (lg_cmp r7 (i6 0)) → gj_Goes E om0 mt_278 164 [some (.ref 81), some (.int x1), some (.int x2), some (.int x3), some (.int x4), some (.int (i3 0)), some (.int (i3 0)), some (.long r7), none] [] SI8 SJ8 (QI Q)) ∧ (¬ 0 ≤ (lg_cmp r7 (i6 0)) → gj_Goes E om0 mt_278 63 [some (.ref 81), some (.int x1), some (.int x2), some (.int (x3 - (i3 1))), some (.int (x4 + (i3 1))), some (.int (i3 0)), some (.int (i3 0)), some (.long r7), none] [] SI8 SJ8 (QI Q))))
          refine ⟨fun c10 => ?_, fun c10 => ?_⟩
          · refine gj_goq gj_clT ok_278 [11, 25, 32, 37, 47, 63, 69, 78, 97, 120] ?_
            show gj_Goes E om0 mt_278 63 [some (.ref 81), some (.int x1), some (.int x2), some (.int x3), some (.int (x4 + (i3 1))), some (.int (i3 0)), some (.int (i3 0)), some (.long r7), none] [] SI8 SJ8 (QI Q)
            exact gj_fh ((q8.1 c9).1 c10) (And.intro (Or.inr rfl) (And.intro (Or.inr rfl) (And.intro (Or.inr rfl) (And.intro (Or.inr rfl) (And.intro (Or.inr rfl) (And.intro (Or.inl rfl) (And.intro (Or.inl rfl) (And.intro (Or.inl rfl) (And.intro (Or.inl rfl) trivial)))))))))
          · refine ⟨fun c11 => ?_, fun c11 => ?_⟩
            · refine gj_goq gj_clT ok_278 [11, 25, 32, 37, 47, 63, 69, 78, 97, 120] ?_
              show gj_Goes E om0 mt_278 63 [some (.ref 81), some (.int x1), some (.int x2), some (.int x3), some (.int (x4 + (i3 1))), some (.int (i3 0)), some (.int (i3 0)), some (.long r7), none] [] SI8 SJ8 (QI Q)
              exact gj_fh (((q8.1 c9).2 c10).1 c11) (And.intro (Or.inr rfl) (And.intro (Or.inr rfl) (And.intro (Or.inr rfl) (And.intro (Or.inr rfl) (And.intro (Or.inr rfl) (And.intro (Or.inl rfl) (And.intro (Or.inl rfl) (And.intro (Or.inl rfl) (And.intro (Or.inl rfl) trivial)))))))))
            · refine ⟨fun c12 => ?_, fun c12 => ?_⟩
              · refine gj_goq gj_clT ok_278 [11, 25, 32, 37, 47, 63, 69, 78, 97, 120] ?_
                show gj_Goes E om0 mt_278 63 [some (.ref 81), some (.int x1), some (.int x2), some (.int x3), some (.int (x4 + (i3 1))), some (.int (i3 0)), some (.int (i3 0)), some (.long r7), none] [] SI8 SJ8 (QI Q)
                exact gj_fh ((((q8.1 c9).2 c10).2 c11).1 (lgc_ge.mp c12)) (And.intro (Or.inr rfl) (And.intro (Or.inr rfl) (And.intro (Or.inr rfl) (And.intro (Or.inr rfl) (And.intro (Or.inr rfl) (And.intro (Or.inl rfl) (And.intro (Or.inl rfl) (And.intro (Or.inl rfl) (And.intro (Or.inl rfl) trivial)))))))))
              · exact gj_fh ((((q8.1 c9).2 c10).2 c11).2 (fun z_ => c12 (lgc_ge.mpr z_))) (And.intro (Or.inr rfl) (And.intro (Or.inr rfl) (And.intro (Or.inr rfl) (And.intro (Or.inr rfl) (And.intro (Or.inr rfl) (And.intro (Or.inl rfl) (And.intro (Or.inl rfl) (And.intro (Or.inl rfl) (And.intro (Or.inl rfl) trivial)))))))))
        · refine ⟨fun c13 => ?_, fun c13 => ?_⟩
          · refine gj_goq gj_clT ok_278 [11, 25, 32, 37, 47, 63, 69, 78, 97, 120] ?_
            show (¬ (i3 0) = 0 → gj_Goes E om0 mt_278 164 [some (.ref 81), some (.int x1), some (.int x2), some (.int x3), some (.int x4), some (.int (i3 0)), some (.int (i3 0)), some (.long r7), none] [] SI8 SJ8 (QI Q)) ∧ ((i3 0) = 0 → ((i3 0) = 0 → gj_Goes E om0 mt_278 164 [some (.ref 81), some (.int x1), some (.int x2), some (.int x3), some (.int x4), some (.int (i3 0)), some (.int (i3 0)), some (.long r7), none] [] SI8 SJ8 (QI Q)) ∧ (¬ (i3 0) = 0 → (0 ≤ (lg_cmp r7 (i6 0)) → gj_Goes E om0 mt_278 164 [some (.ref 81), some (.int x1), some (.int x2), some (.int x3), some (.int x4), some (.int (i3 0)), some (.int (i3 0)), some (.long r7), none] [] SI8 SJ8 (QI Q)) ∧ (¬ 0 ≤ (lg_cmp r7 (i6 0)) → gj_Goes E om0 mt_278 63 [some (.ref 81), some (.int x1), some (.int x2), some (.int (x3 - (i3 1))), some (.int (x4 + (i3 1))), some (.int (i3 0)), some (.int (i3 0)), some (.long r7), none] [] SI8 SJ8 (QI Q))))
            refine ⟨fun c14 => ?_, fun c14 => ?_⟩
            · refine gj_goq gj_clT ok_278 [11, 25, 32, 37, 47, 63, 69, 78, 97, 120] ?_
              show gj_Goes E om0 mt_278 63 [some (.ref 81), some (.int x1), some (.int x2), some (.int x3), some (.int (x4 + (i3 1))), some (.int (i3 0)), some (.int (i3 0)), some (.long r7), none] [] SI8 SJ8 (QI Q)
              exact gj_fh (((q8.2 c9).1 c13).1 c14) (And.intro (Or.inr rfl) (And.intro (Or.inr rfl) (And.intro (Or.inr rfl) (And.intro (Or.inr rfl) (And.intro (Or.inr rfl) (And.intro (Or.inl rfl) (And.intro (Or.inl rfl) (And.intro (Or.inl rfl) (And.intro (Or.inl rfl) trivial)))))))))
            · refine ⟨fun c15 => ?_, fun c15 => ?_⟩
              · refine gj_goq gj_clT ok_278 [11, 25, 32, 37, 47, 63, 69, 78, 97, 120] ?_
                show gj_Goes E om0 mt_278 63 [some (.ref 81), some (.int x1), some (.int x2), some (.int x3), some (.int (x4 + (i3 1))), some (.int (i3 0)), some (.int (i3 0)), some (.long r7), none] [] SI8 SJ8 (QI Q)
                exact gj_fh ((((q8.2 c9).1 c13).2 c14).1 c15) (And.intro (Or.inr rfl) (And.intro (Or.inr rfl) (And.intro (Or.inr rfl) (And.intro (Or.inr rfl) (And.intro (Or.inr rfl) (And.intro (Or.inl rfl) (And.intro (Or.inl rfl) (And.intro (Or.inl rfl) (And.intro (Or.inl rfl) trivial)))))))))
              · refine ⟨fun c16 => ?_, fun c16 => ?_⟩
                · refine gj_goq gj_clT ok_278 [11, 25, 32, 37, 47, 63, 69, 78, 97, 120] ?_
                  show gj_Goes E om0 mt_278 63 [some (.ref 81), some (.int x1), some (.int x2), some (.int x3), some (.int (x4 + (i3 1))), some (.int (i3 0)), some (.int (i3 0)), some (.long r7), none] [] SI8 SJ8 (QI Q)
                  exact gj_fh (((((q8.2 c9).1 c13).2 c14).2 c15).1 (lgc_ge.mp c16)) (And.intro (Or.inr rfl) (And.intro (Or.inr rfl) (And.intro (Or.inr rfl) (And.intro (Or.inr rfl) (And.intro (Or.inr rfl) (And.intro (Or.inl rfl) (And.intro (Or.inl rfl) (And.intro (Or.inl rfl) (And.intro (Or.inl rfl) trivial)))))))))
                · exact gj_fh (((((q8.2 c9).1 c13).2 c14).2 c15).2 (fun z_ => c16 (lgc_ge.mpr z_))) (And.intro (Or.inr rfl) (And.intro (Or.inr rfl) (And.intro (Or.inr rfl) (And.intro (Or.inr rfl) (And.intro (Or.inr rfl) (And.intro (Or.inl rfl) (And.intro (Or.inl rfl) (And.intro (Or.inl rfl) (And.intro (Or.inl rfl) trivial)))))))))
          · refine ⟨fun c17 => ?_, fun c17 => ?_⟩
            · refine gj_goq gj_clT ok_278 [11, 25, 32, 37, 47, 63, 69, 78, 97, 120] ?_
              show (¬ (i3 0) = 0 → gj_Goes E om0 mt_278 164 [some (.ref 81), some (.int x1), some (.int x2), some (.int x3), some (.int x4), some (.int (i3 0)), some (.int (i3 0)), some (.long r7), none] [] SI8 SJ8 (QI Q)) ∧ ((i3 0) = 0 → ((i3 0) = 0 → gj_Goes E om0 mt_278 164 [some (.ref 81), some (.int x1), some (.int x2), some (.int x3), some (.int x4), some (.int (i3 0)), some (.int (i3 0)), some (.long r7), none] [] SI8 SJ8 (QI Q)) ∧ (¬ (i3 0) = 0 → (0 ≤ (lg_cmp r7 (i6 0)) → gj_Goes E om0 mt_278 164 [some (.ref 81), some (.int x1), some (.int x2), some (.int x3), some (.int x4), some (.int (i3 0)), some (.int (i3 0)), some (.long r7), none] [] SI8 SJ8 (QI Q)) ∧ (¬ 0 ≤ (lg_cmp r7 (i6 0)) → gj_Goes E om0 mt_278 63 [some (.ref 81), some (.int x1), some (.int x2), some (.int (x3 - (i3 1))), some (.int (x4 + (i3 1))), some (.int (i3 0)), some (.int (i3 0)), some (.long r7), none] [] SI8 SJ8 (QI Q))))
              refine ⟨fun c18 => ?_, fun c18 => ?_⟩
              · refine gj_goq gj_clT ok_278 [11, 25, 32, 37, 47, 63, 69, 78, 97, 120] ?_
                show gj_Goes E om0 mt_278 63 [some (.ref 81), some (.int x1), some (.int x2), some (.int x3), some (.int (x4 + (i3 1))), some (.int (i3 0)), some (.int (i3 0)), some (.long r7), none] [] SI8 SJ8 (QI Q)
                exact gj_fh ((((q8.2 c9).2 c13).1 (lgc_le.mp c17)).1 c18) (And.intro (Or.inr rfl) (And.intro (Or.inr rfl) (And.intro (Or.inr rfl) (And.intro (Or.inr rfl) (And.intro (Or.inr rfl) (And.intro (Or.inl rfl) (And.intro (Or.inl rfl) (And.intro (Or.inl rfl) (And.intro (Or.inl rfl) trivial)))))))))
              · refine ⟨fun c19 => ?_, fun c19 => ?_⟩
                · refine gj_goq gj_clT ok_278 [11, 25, 32, 37, 47, 63, 69, 78, 97, 120] ?_
                  show gj_Goes E om0 mt_278 63 [some (.ref 81), some (.int x1), some (.int x2), some (.int x3), some (.int (x4 + (i3 1))), some (.int (i3 0)), some (.int (i3 0)), some (.long r7), none] [] SI8 SJ8 (QI Q)
                  exact gj_fh (((((q8.2 c9).2 c13).1 (lgc_le.mp c17)).2 c18).1 c19) (And.intro (Or.inr rfl) (And.intro (Or.inr rfl) (And.intro (Or.inr rfl) (And.intro (Or.inr rfl) (And.intro (Or.inr rfl) (And.intro (Or.inl rfl) (And.intro (Or.inl rfl) (And.intro (Or.inl rfl) (And.intro (Or.inl rfl) trivial)))))))))
                · refine ⟨fun c20 => ?_, fun c20 => ?_⟩
                  · refine gj_goq gj_clT ok_278 [11, 25, 32, 37, 47, 63, 69, 78, 97, 120] ?_
                    show gj_Goes E om0 mt_278 63 [some (.ref 81), some (.int x1), some (.int x2), some (.int x3), some (.int (x4 + (i3 1))), some (.int (i3 0)), some (.int (i3 0)), some (.long r7), none] [] SI8 SJ8 (QI Q)
                    exact gj_fh ((((((q8.2 c9).2 c13).1 (lgc_le.mp c17)).2 c18).2 c19).1 (lgc_ge.mp c20)) (And.intro (Or.inr rfl) (And.intro (Or.inr rfl) (And.intro (Or.inr rfl) (And.intro (Or.inr rfl) (And.intro (Or.inr rfl) (And.intro (Or.inl rfl) (And.intro (Or.inl rfl) (And.intro (Or.inl rfl) (And.intro (Or.inl rfl) trivial)))))))))
                  · exact gj_fh ((((((q8.2 c9).2 c13).1 (lgc_le.mp c17)).2 c18).2 c19).2 (fun z_ => c20 (lgc_ge.mpr z_))) (And.intro (Or.inr rfl) (And.intro (Or.inr rfl) (And.intro (Or.inr rfl) (And.intro (Or.inr rfl) (And.intro (Or.inr rfl) (And.intro (Or.inl rfl) (And.intro (Or.inl rfl) (And.intro (Or.inl rfl) (And.intro (Or.inl rfl) trivial)))))))))
            · refine ⟨fun c21 => ?_, fun c21 => ?_⟩
              · refine gj_goq gj_clT ok_278 [11, 25, 32, 37, 47, 63, 69, 78, 97, 120] ?_
                show gj_Goes E om0 mt_278 63 [some (.ref 81), some (.int x1), some (.int x2), some (.int (x3 + (i3 1))), some (.int (x4 + (i3 1))), some (.int (i3 0)), some (.int (i3 0)), some (.long r7), none] [] SI8 SJ8 (QI Q)
                exact gj_fh ((((q8.2 c9).2 c13).2 (fun z_ => c17 (lgc_le.mpr z_))).1 c21) (And.intro (Or.inr rfl) (And.intro (Or.inr rfl) (And.intro (Or.inr rfl) (And.intro (Or.inr rfl) (And.intro (Or.inr rfl) (And.intro (Or.inl rfl) (And.intro (Or.inl rfl) (And.intro (Or.inl rfl) (And.intro (Or.inl rfl) trivial)))))))))
              · refine ⟨fun c22 => ?_, fun c22 => ?_⟩
                · refine gj_goq gj_clT ok_278 [11, 25, 32, 37, 47, 63, 69, 78, 97, 120] ?_
                  show gj_Goes E om0 mt_278 63 [some (.ref 81), some (.int x1), some (.int x2), some (.int (x3 + (i3 1))), some (.int (x4 + (i3 1))), some (.int (i3 0)), some (.int (i3 0)), some (.long r7), none] [] SI8 SJ8 (QI Q)
                  exact gj_fh (((((q8.2 c9).2 c13).2 (fun z_ => c17 (lgc_le.mpr z_))).2 c21).1 c22) (And.intro (Or.inr rfl) (And.intro (Or.inr rfl) (And.intro (Or.inr rfl) (And.intro (Or.inr rfl) (And.intro (Or.inr rfl) (And.intro (Or.inl rfl) (And.intro (Or.inl rfl) (And.intro (Or.inl rfl) (And.intro (Or.inl rfl) trivial)))))))))
                · refine ⟨fun c23 => ?_, fun c23 => ?_⟩
                  · refine gj_goq gj_clT ok_278 [11, 25, 32, 37, 47, 63, 69, 78, 97, 120] ?_
                    show gj_Goes E om0 mt_278 63 [some (.ref 81), some (.int x1), some (.int x2), some (.int (x3 + (i3 1))), some (.int (x4 + (i3 1))), some (.int (i3 0)), some (.int (i3 0)), some (.long r7), none] [] SI8 SJ8 (QI Q)
                    exact gj_fh ((((((q8.2 c9).2 c13).2 (fun z_ => c17 (lgc_le.mpr z_))).2 c21).2 c22).1 (lgc_ge.mp c23)) (And.intro (Or.inr rfl) (And.intro (Or.inr rfl) (And.intro (Or.inr rfl) (And.intro (Or.inr rfl) (And.intro (Or.inr rfl) (And.intro (Or.inl rfl) (And.intro (Or.inl rfl) (And.intro (Or.inl rfl) (And.intro (Or.inl rfl) trivial)))))))))
                  · exact gj_fh ((((((q8.2 c9).2 c13).2 (fun z_ => c17 (lgc_le.mpr z_))).2 c21).2 c22).2 (fun z_ => c23 (lgc_ge.mpr z_))) (And.intro (Or.inr rfl) (And.intro (Or.inr rfl) (And.intro (Or.inr rfl) (And.intro (Or.inr rfl) (And.intro (Or.inr rfl) (And.intro (Or.inl rfl) (And.intro (Or.inl rfl) (And.intro (Or.inl rfl) (And.intro (Or.inl rfl) trivial)))))))))
      · refine gj_goq gj_clT ok_278 [11, 25, 32, 37, 47, 63, 69, 78, 97, 120] ?_
        show gj_Do E om0 (gj_mt 170) [(.ref 81), (.int x4), (.int (x4 + (i3 1))), (.int x1), (.int x2)] SI6 SJ6 _
        refine gj_Do.mono (q6.2 c7) (fun v_ SI10 SJ10 h_ => ?_)
        obtain ⟨r9, rfl, q24⟩ := h_
        show gj_Goes E om0 mt_278 120 [some (.ref 81), some (.int x1), some (.int x2), some (.int x3), some (.int x4), some (.int (i3 0)), some (.int (i3 1)), none, none] [(.long r9)] SI10 SJ10 (QI Q)
        refine gj_goq gj_clT ok_278 [11, 25, 32, 37, 47, 63, 69, 78, 97, 120] ?_
        show ((i3 0) = 0 → gj_Goes E om0 mt_278 143 [some (.ref 81), some (.int x1), some (.int x2), some (.int x3), some (.int x4), some (.int (i3 0)), some (.int (i3 1)), some (.long r9), none] [] SI10 SJ10 (QI Q)) ∧ (¬ (i3 0) = 0 → (¬ (i3 1) = 0 → gj_Goes E om0 mt_278 143 [some (.ref 81), some (.int x1), some (.int x2), some (.int x3), some (.int x4), some (.int (i3 0)), some (.int (i3 1)), some (.long r9), none] [] SI10 SJ10 (QI Q)) ∧ ((i3 1) = 0 → ((lg_cmp r9 (i6 0)) ≤ 0 → gj_Goes E om0 mt_278 143 [some (.ref 81), some (.int x1), some (.int x2), some (.int x3), some (.int x4), some (.int (i3 0)), some (.int (i3 1)), some (.long r9), none] [] SI10 SJ10 (QI Q)) ∧ (¬ (lg_cmp r9 (i6 0)) ≤ 0 → (¬ (i3 0) = 0 → gj_Goes E om0 mt_278 164 [some (.ref 81), some (.int x1), some (.int x2), some (.int (x3 + (i3 1))), some (.int x4), some (.int (i3 0)), some (.int (i3 1)), some (.long r9), none] [] SI10 SJ10 (QI Q)) ∧ ((i3 0) = 0 → ((i3 1) = 0 → gj_Goes E om0 mt_278 164 [some (.ref 81), some (.int x1), some (.int x2), some (.int (x3 + (i3 1))), some (.int x4), some (.int (i3 0)), some (.int (i3 1)), some (.long r9), none] [] SI10 SJ10 (QI Q)) ∧ (¬ (i3 1) = 0 → (0 ≤ (lg_cmp r9 (i6 0)) → gj_Goes E om0 mt_278 164 [some (.ref 81), some (.int x1), some (.int x2), some (.int (x3 + (i3 1))), some (.int x4), some (.int (i3 0)), some (.int (i3 1)), some (.long r9), none] [] SI10 SJ10 (QI Q)) ∧ (¬ 0 ≤ (lg_cmp r9 (i6 0)) → gj_Goes E om0 mt_278 63 [some (.ref 81), some (.int x1), some (.int x2), some (.int ((x3 + (i3 1)) - (i3 1))), some (.int (x4 + (i3 1))), some (.int (i3 0)), some (.int (i3 1)), some (.long r9), none] [] SI10 SJ10 (QI Q)))))))
        refine ⟨fun c25 => ?_, fun c25 => ?_⟩
        · refine gj_goq gj_clT ok_278 [11, 25, 32, 37, 47, 63, 69, 78, 97, 120] ?_
          show (¬ (i3 0) = 0 → gj_Goes E om0 mt_278 164 [some (.ref 81), some (.int x1), some (.int x2), some (.int x3), some (.int x4), some (.int (i3 0)), some (.int (i3 1)), some (.long r9), none] [] SI10 SJ10 (QI Q)) ∧ ((i3 0) = 0 → ((i3 1) = 0 → gj_Goes E om0 mt_278 164 [some (.ref 81), some (.int x1), some (.int x2), some (.int x3), some (.int x4), some (.int (i3 0)), some (.int (i3 1)), some (.long r9), none] [] SI10 SJ10 (QI Q)) ∧ (¬ (i3 1) = 0 → (0 ≤ (lg_cmp r9 (i6 0)) → gj_Goes E om0 mt_278 164 [some (.ref 81), some (.int x1), some (.int x2), some (.int x3), some (.int x4), some (.int (i3 0)), some (.int (i3 1)), some (.long r9), none] [] SI10 SJ10 (QI Q)) ∧ (¬ 0 ≤ (lg_cmp r9 (i6 0)) → gj_Goes E om0 mt_278 63 [some (.ref 81), some (.int x1), some (.int x2), some (.int (x3 - (i3 1))), some (.int (x4 + (i3 1))), some (.int (i3 0)), some (.int (i3 1)), some (.long r9), none] [] SI10 SJ10 (QI Q))))
          refine ⟨fun c26 => ?_, fun c26 => ?_⟩
          · refine gj_goq gj_clT ok_278 [11, 25, 32, 37, 47, 63, 69, 78, 97, 120] ?_
            show gj_Goes E om0 mt_278 63 [some (.ref 81), some (.int x1), some (.int x2), some (.int x3), some (.int (x4 + (i3 1))), some (.int (i3 0)), some (.int (i3 1)), some (.long r9), none] [] SI10 SJ10 (QI Q)
            exact gj_fh ((q24.1 c25).1 c26) (And.intro (Or.inr rfl) (And.intro (Or.inr rfl) (And.intro (Or.inr rfl) (And.intro (Or.inr rfl) (And.intro (Or.inr rfl) (And.intro (Or.inl rfl) (And.intro (Or.inl rfl) (And.intro (Or.inl rfl) (And.intro (Or.inl rfl) trivial)))))))))
          · refine ⟨fun c27 => ?_, fun c27 => ?_⟩
            · refine gj_goq gj_clT ok_278 [11, 25, 32, 37, 47, 63, 69, 78, 97, 120] ?_
              show gj_Goes E om0 mt_278 63 [some (.ref 81), some (.int x1), some (.int x2), some (.int x3), some (.int (x4 + (i3 1))), some (.int (i3 0)), some (.int (i3 1)), some (.long r9), none] [] SI10 SJ10 (QI Q)
              exact gj_fh (((q24.1 c25).2 c26).1 c27) (And.intro (Or.inr rfl) (And.intro (Or.inr rfl) (And.intro (Or.inr rfl) (And.intro (Or.inr rfl) (And.intro (Or.inr rfl) (And.intro (Or.inl rfl) (And.intro (Or.inl rfl) (And.intro (Or.inl rfl) (And.intro (Or.inl rfl) trivial)))))))))
            · refine ⟨fun c28 => ?_, fun c28 => ?_⟩
              · refine gj_goq gj_clT ok_278 [11, 25, 32, 37, 47, 63, 69, 78, 97, 120] ?_
                show gj_Goes E om0 mt_278 63 [some (.ref 81), some (.int x1), some (.int x2), some (.int x3), some (.int (x4 + (i3 1))), some (.int (i3 0)), some (.int (i3 1)), some (.long r9), none] [] SI10 SJ10 (QI Q)
                exact gj_fh ((((q24.1 c25).2 c26).2 c27).1 (lgc_ge.mp c28)) (And.intro (Or.inr rfl) (And.intro (Or.inr rfl) (And.intro (Or.inr rfl) (And.intro (Or.inr rfl) (And.intro (Or.inr rfl) (And.intro (Or.inl rfl) (And.intro (Or.inl rfl) (And.intro (Or.inl rfl) (And.intro (Or.inl rfl) trivial)))))))))
              · exact gj_fh ((((q24.1 c25).2 c26).2 c27).2 (fun z_ => c28 (lgc_ge.mpr z_))) (And.intro (Or.inr rfl) (And.intro (Or.inr rfl) (And.intro (Or.inr rfl) (And.intro (Or.inr rfl) (And.intro (Or.inr rfl) (And.intro (Or.inl rfl) (And.intro (Or.inl rfl) (And.intro (Or.inl rfl) (And.intro (Or.inl rfl) trivial)))))))))
        · refine ⟨fun c29 => ?_, fun c29 => ?_⟩
          · refine gj_goq gj_clT ok_278 [11, 25, 32, 37, 47, 63, 69, 78, 97, 120] ?_
            show (¬ (i3 0) = 0 → gj_Goes E om0 mt_278 164 [some (.ref 81), some (.int x1), some (.int x2), some (.int x3), some (.int x4), some (.int (i3 0)), some (.int (i3 1)), some (.long r9), none] [] SI10 SJ10 (QI Q)) ∧ ((i3 0) = 0 → ((i3 1) = 0 → gj_Goes E om0 mt_278 164 [some (.ref 81), some (.int x1), some (.int x2), some (.int x3), some (.int x4), some (.int (i3 0)), some (.int (i3 1)), some (.long r9), none] [] SI10 SJ10 (QI Q)) ∧ (¬ (i3 1) = 0 → (0 ≤ (lg_cmp r9 (i6 0)) → gj_Goes E om0 mt_278 164 [some (.ref 81), some (.int x1), some (.int x2), some (.int x3), some (.int x4), some (.int (i3 0)), some (.int (i3 1)), some (.long r9), none] [] SI10 SJ10 (QI Q)) ∧ (¬ 0 ≤ (lg_cmp r9 (i6 0)) → gj_Goes E om0 mt_278 63 [some (.ref 81), some (.int x1), some (.int x2), some (.int (x3 - (i3 1))), some (.int (x4 + (i3 1))), some (.int (i3 0)), some (.int (i3 1)), some (.long r9), none] [] SI10 SJ10 (QI Q))))
            refine ⟨fun c30 => ?_, fun c30 => ?_⟩
            · refine gj_goq gj_clT ok_278 [11, 25, 32, 37, 47, 63, 69, 78, 97, 120] ?_
              show gj_Goes E om0 mt_278 63 [some (.ref 81), some (.int x1), some (.int x2), some (.int x3), some (.int (x4 + (i3 1))), some (.int (i3 0)), some (.int (i3 1)), some (.long r9), none] [] SI10 SJ10 (QI Q)
              exact gj_fh (((q24.2 c25).1 c29).1 c30) (And.intro (Or.inr rfl) (And.intro (Or.inr rfl) (And.intro (Or.inr rfl) (And.intro (Or.inr rfl) (And.intro (Or.inr rfl) (And.intro (Or.inl rfl) (And.intro (Or.inl rfl) (And.intro (Or.inl rfl) (And.intro (Or.inl rfl) trivial)))))))))
            · refine ⟨fun c31 => ?_, fun c31 => ?_⟩
              · refine gj_goq gj_clT ok_278 [11, 25, 32, 37, 47, 63, 69, 78, 97, 120] ?_
                show gj_Goes E om0 mt_278 63 [some (.ref 81), some (.int x1), some (.int x2), some (.int x3), some (.int (x4 + (i3 1))), some (.int (i3 0)), some (.int (i3 1)), some (.long r9), none] [] SI10 SJ10 (QI Q)
                exact gj_fh ((((q24.2 c25).1 c29).2 c30).1 c31) (And.intro (Or.inr rfl) (And.intro (Or.inr rfl) (And.intro (Or.inr rfl) (And.intro (Or.inr rfl) (And.intro (Or.inr rfl) (And.intro (Or.inl rfl) (And.intro (Or.inl rfl) (And.intro (Or.inl rfl) (And.intro (Or.inl rfl) trivial)))))))))
              · refine ⟨fun c32 => ?_, fun c32 => ?_⟩
                · refine gj_goq gj_clT ok_278 [11, 25, 32, 37, 47, 63, 69, 78, 97, 120] ?_
                  show gj_Goes E om0 mt_278 63 [some (.ref 81), some (.int x1), some (.int x2), some (.int x3), some (.int (x4 + (i3 1))), some (.int (i3 0)), some (.int (i3 1)), some (.long r9), none] [] SI10 SJ10 (QI Q)
                  exact gj_fh (((((q24.2 c25).1 c29).2 c30).2 c31).1 (lgc_ge.mp c32)) (And.intro (Or.inr rfl) (And.intro (Or.inr rfl) (And.intro (Or.inr rfl) (And.intro (Or.inr rfl) (And.intro (Or.inr rfl) (And.intro (Or.inl rfl) (And.intro (Or.inl rfl) (And.intro (Or.inl rfl) (And.intro (Or.inl rfl) trivial)))))))))
                · exact gj_fh (((((q24.2 c25).1 c29).2 c30).2 c31).2 (fun z_ => c32 (lgc_ge.mpr z_))) (And.intro (Or.inr rfl) (And.intro (Or.inr rfl) (And.intro (Or.inr rfl) (And.intro (Or.inr rfl) (And.intro (Or.inr rfl) (And.intro (Or.inl rfl) (And.intro (Or.inl rfl) (And.intro (Or.inl rfl) (And.intro (Or.inl rfl) trivial)))))))))
          · refine ⟨fun c33 => ?_, fun c33 => ?_⟩
            · refine gj_goq gj_clT ok_278 [11, 25, 32, 37, 47, 63, 69, 78, 97, 120] ?_
              show (¬ (i3 0) = 0 → gj_Goes E om0 mt_278 164 [some (.ref 81), some (.int x1), some (.int x2), some (.int x3), some (.int x4), some (.int (i3 0)), some (.int (i3 1)), some (.long r9), none] [] SI10 SJ10 (QI Q)) ∧ ((i3 0) = 0 → ((i3 1) = 0 → gj_Goes E om0 mt_278 164 [some (.ref 81), some (.int x1), some (.int x2), some (.int x3), some (.int x4), some (.int (i3 0)), some (.int (i3 1)), some (.long r9), none] [] SI10 SJ10 (QI Q)) ∧ (¬ (i3 1) = 0 → (0 ≤ (lg_cmp r9 (i6 0)) → gj_Goes E om0 mt_278 164 [some (.ref 81), some (.int x1), some (.int x2), some (.int x3), some (.int x4), some (.int (i3 0)), some (.int (i3 1)), some (.long r9), none] [] SI10 SJ10 (QI Q)) ∧ (¬ 0 ≤ (lg_cmp r9 (i6 0)) → gj_Goes E om0 mt_278 63 [some (.ref 81), some (.int x1), some (.int x2), some (.int (x3 - (i3 1))), some (.int (x4 + (i3 1))), some (.int (i3 0)), some (.int (i3 1)), some (.long r9), none] [] SI10 SJ10 (QI Q))))
              refine ⟨fun c34 => ?_, fun c34 => ?_⟩
              · refine gj_goq gj_clT ok_278 [11, 25, 32, 37, 47, 63, 69, 78, 97, 120] ?_
                show gj_Goes E om0 mt_278 63 [some (.ref 81), some (.int x1), some (.int x2), some (.int x3), some (.int (x4 + (i3 1))), some (.int (i3 0)), some (.int (i3 1)), some (.long r9), none] [] SI10 SJ10 (QI Q)
                exact gj_fh ((((q24.2 c25).2 c29).1 (lgc_le.mp c33)).1 c34) (And.intro (Or.inr rfl) (And.intro (Or.inr rfl) (And.intro (Or.inr rfl) (And.intro (Or.inr rfl) (And.intro (Or.inr rfl) (And.intro (Or.inl rfl) (And.intro (Or.inl rfl) (And.intro (Or.inl rfl) (And.intro (Or.inl rfl) trivial)))))))))
              · refine ⟨fun c35 => ?_, fun c35 => ?_⟩
                · refine gj_goq gj_clT ok_278 [11, 25, 32, 37, 47, 63, 69, 78, 97, 120] ?_
                  show gj_Goes E om0 mt_278 63 [some (.ref 81), some (.int x1), some (.int x2), some (.int x3), some (.int (x4 + (i3 1))), some (.int (i3 0)), some (.int (i3 1)), some (.long r9), none] [] SI10 SJ10 (QI Q)
                  exact gj_fh (((((q24.2 c25).2 c29).1 (lgc_le.mp c33)).2 c34).1 c35) (And.intro (Or.inr rfl) (And.intro (Or.inr rfl) (And.intro (Or.inr rfl) (And.intro (Or.inr rfl) (And.intro (Or.inr rfl) (And.intro (Or.inl rfl) (And.intro (Or.inl rfl) (And.intro (Or.inl rfl) (And.intro (Or.inl rfl) trivial)))))))))
                · refine ⟨fun c36 => ?_, fun c36 => ?_⟩
                  · refine gj_goq gj_clT ok_278 [11, 25, 32, 37, 47, 63, 69, 78, 97, 120] ?_
                    show gj_Goes E om0 mt_278 63 [some (.ref 81), some (.int x1), some (.int x2), some (.int x3), some (.int (x4 + (i3 1))), some (.int (i3 0)), some (.int (i3 1)), some (.long r9), none] [] SI10 SJ10 (QI Q)
                    exact gj_fh ((((((q24.2 c25).2 c29).1 (lgc_le.mp c33)).2 c34).2 c35).1 (lgc_ge.mp c36)) (And.intro (Or.inr rfl) (And.intro (Or.inr rfl) (And.intro (Or.inr rfl) (And.intro (Or.inr rfl) (And.intro (Or.inr rfl) (And.intro (Or.inl rfl) (And.intro (Or.inl rfl) (And.intro (Or.inl rfl) (And.intro (Or.inl rfl) trivial)))))))))
                  · exact gj_fh ((((((q24.2 c25).2 c29).1 (lgc_le.mp c33)).2 c34).2 c35).2 (fun z_ => c36 (lgc_ge.mpr z_))) (And.intro (Or.inr rfl) (And.intro (Or.inr rfl) (And.intro (Or.inr rfl) (And.intro (Or.inr rfl) (And.intro (Or.inr rfl) (And.intro (Or.inl rfl) (And.intro (Or.inl rfl) (And.intro (Or.inl rfl) (And.intro (Or.inl rfl) trivial)))))))))
            · refine ⟨fun c37 => ?_, fun c37 => ?_⟩
              · refine gj_goq gj_clT ok_278 [11, 25, 32, 37, 47, 63, 69, 78, 97, 120] ?_
                show gj_Goes E om0 mt_278 63 [some (.ref 81), some (.int x1), some (.int x2), some (.int (x3 + (i3 1))), some (.int (x4 + (i3 1))), some (.int (i3 0)), some (.int (i3 1)), some (.long r9), none] [] SI10 SJ10 (QI Q)
                exact gj_fh ((((q24.2 c25).2 c29).2 (fun z_ => c33 (lgc_le.mpr z_))).1 c37) (And.intro (Or.inr rfl) (And.intro (Or.inr rfl) (And.intro (Or.inr rfl) (And.intro (Or.inr rfl) (And.intro (Or.inr rfl) (And.intro (Or.inl rfl) (And.intro (Or.inl rfl) (And.intro (Or.inl rfl) (And.intro (Or.inl rfl) trivial)))))))))
              · refine ⟨fun c38 => ?_, fun c38 => ?_⟩
                · refine gj_goq gj_clT ok_278 [11, 25, 32, 37, 47, 63, 69, 78, 97, 120] ?_
                  show gj_Goes E om0 mt_278 63 [some (.ref 81), some (.int x1), some (.int x2), some (.int (x3 + (i3 1))), some (.int (x4 + (i3 1))), some (.int (i3 0)), some (.int (i3 1)), some (.long r9), none] [] SI10 SJ10 (QI Q)
                  exact gj_fh (((((q24.2 c25).2 c29).2 (fun z_ => c33 (lgc_le.mpr z_))).2 c37).1 c38) (And.intro (Or.inr rfl) (And.intro (Or.inr rfl) (And.intro (Or.inr rfl) (And.intro (Or.inr rfl) (And.intro (Or.inr rfl) (And.intro (Or.inl rfl) (And.intro (Or.inl rfl) (And.intro (Or.inl rfl) (And.intro (Or.inl rfl) trivial)))))))))
                · refine ⟨fun c39 => ?_, fun c39 => ?_⟩
                  · refine gj_goq gj_clT ok_278 [11, 25, 32, 37, 47, 63, 69, 78, 97, 120] ?_
                    show gj_Goes E om0 mt_278 63 [some (.ref 81), some (.int x1), some (.int x2), some (.int (x3 + (i3 1))), some (.int (x4 + (i3 1))), some (.int (i3 0)), some (.int (i3 1)), some (.long r9), none] [] SI10 SJ10 (QI Q)
                    exact gj_fh ((((((q24.2 c25).2 c29).2 (fun z_ => c33 (lgc_le.mpr z_))).2 c37).2 c38).1 (lgc_ge.mp c39)) (And.intro (Or.inr rfl) (And.intro (Or.inr rfl) (And.intro (Or.inr rfl) (And.intro (Or.inr rfl) (And.intro (Or.inr rfl) (And.intro (Or.inl rfl) (And.intro (Or.inl rfl) (And.intro (Or.inl rfl) (And.intro (Or.inl rfl) trivial)))))))))
                  · exact gj_fh ((((((q24.2 c25).2 c29).2 (fun z_ => c33 (lgc_le.mpr z_))).2 c37).2 c38).2 (fun z_ => c39 (lgc_ge.mpr z_))) (And.intro (Or.inr rfl) (And.intro (Or.inr rfl) (And.intro (Or.inr rfl) (And.intro (Or.inr rfl) (And.intro (Or.inr rfl) (And.intro (Or.inl rfl) (And.intro (Or.inl rfl) (And.intro (Or.inl rfl) (And.intro (Or.inl rfl) trivial)))))))))
    · refine gj_goq gj_clT ok_278 [11, 25, 32, 37, 47, 63, 69, 78, 97, 120] ?_
      show gj_Do E om0 (gj_mt 164) [(.ref 81), (.int (x4 + (i3 1)))] SI4 SJ4 _
      refine gj_Do.mono (q4.2 c5) (fun v_ SI12 SJ12 h_ => ?_)
      obtain ⟨r11, rfl, q40⟩ := h_
      show gj_Goes E om0 mt_278 97 [some (.ref 81), some (.int x1), some (.int x2), some (.int x3), some (.int x4), some (.int (i3 1)), none, none, none] [(.int r11)] SI12 SJ12 (QI Q)
      refine gj_goq gj_clT ok_278 [11, 25, 32, 37, 47, 63, 69, 78, 97, 120] ?_
      show (x2 < r11 → gj_Goes E om0 mt_278 105 [some (.ref 81), some (.int x1), some (.int x2), some (.int x3), some (.int x4), some (.int (i3 1)), none, none, none] [] SI12 SJ12 (QI Q)) ∧ (¬ x2 < r11 → gj_Goes E om0 mt_278 106 [some (.ref 81), some (.int x1), some (.int x2), some (.int x3), some (.int x4), some (.int (i3 1)), none, none, none] [(.int (i3 1))] SI12 SJ12 (QI Q))
      refine ⟨fun c41 => ?_, fun c41 => ?_⟩
      · refine gj_goq gj_clT ok_278 [11, 25, 32, 37, 47, 63, 69, 78, 97, 120] ?_
        show gj_Do E om0 (gj_mt 170) [(.ref 81), (.int x4), (.int (x4 + (i3 1))), (.int x1), (.int x2)] SI12 SJ12 _
        refine gj_Do.mono (q40.1 c41) (fun v_ SI14 SJ14 h_ => ?_)
        obtain ⟨r13, rfl, q42⟩ := h_
        show gj_Goes E om0 mt_278 120 [some (.ref 81), some (.int x1), some (.int x2), some (.int x3), some (.int x4), some (.int (i3 1)), some (.int (i3 0)), none, none] [(.long r13)] SI14 SJ14 (QI Q)
        refine gj_goq gj_clT ok_278 [11, 25, 32, 37, 47, 63, 69, 78, 97, 120] ?_
        show ((i3 1) = 0 → gj_Goes E om0 mt_278 143 [some (.ref 81), some (.int x1), some (.int x2), some (.int x3), some (.int x4), some (.int (i3 1)), some (.int (i3 0)), some (.long r13), none] [] SI14 SJ14 (QI Q)) ∧ (¬ (i3 1) = 0 → (¬ (i3 0) = 0 → gj_Goes E om0 mt_278 143 [some (.ref 81), some (.int x1), some (.int x2), some (.int x3), some (.int x4), some (.int (i3 1)), some (.int (i3 0)), some (.long r13), none] [] SI14 SJ14 (QI Q)) ∧ ((i3 0) = 0 → ((lg_cmp r13 (i6 0)) ≤ 0 → gj_Goes E om0 mt_278 143 [some (.ref 81), some (.int x1), some (.int x2), some (.int x3), some (.int x4), some (.int (i3 1)), some (.int (i3 0)), some (.long r13), none] [] SI14 SJ14 (QI Q)) ∧ (¬ (lg_cmp r13 (i6 0)) ≤ 0 → (¬ (i3 1) = 0 → gj_Goes E om0 mt_278 164 [some (.ref 81), some (.int x1), some (.int x2), some (.int (x3 + (i3 1))), some (.int x4), some (.int (i3 1)), some (.int (i3 0)), some (.long r13), none] [] SI14 SJ14 (QI Q)) ∧ ((i3 1) = 0 → ((i3 0) = 0 → gj_Goes E om0 mt_278 164 [some (.ref 81), some (.int x1), some (.int x2), some (.int (x3 + (i3 1))), some (.int x4), some (.int (i3 1)), some (.int (i3 0)), some (.long r13), none] [] SI14 SJ14 (QI Q)) ∧ (¬ (i3 0) = 0 → (0 ≤ (lg_cmp r13 (i6 0)) → gj_Goes E om0 mt_278 164 [some (.ref 81), some (.int x1), some (.int x2), some (.int (x3 + (i3 1))), some (.int x4), some (.int (i3 1)), some (.int (i3 0)), some (.long r13), none] [] SI14 SJ14 (QI Q)) ∧ (¬ 0 ≤ (lg_cmp r13 (i6 0)) → gj_Goes E om0 mt_278 63 [some (.ref 81), some (.int x1), some (.int x2), some (.int ((x3 + (i3 1)) - (i3 1))), some (.int (x4 + (i3 1))), some (.int (i3 1)), some (.int (i3 0)), some (.long r13), none] [] SI14 SJ14 (QI Q)))))))
        refine ⟨fun c43 => ?_, fun c43 => ?_⟩
        · refine gj_goq gj_clT ok_278 [11, 25, 32, 37, 47, 63, 69, 78, 97, 120] ?_
          show (¬ (i3 1) = 0 → gj_Goes E om0 mt_278 164 [some (.ref 81), some (.int x1), some (.int x2), some (.int x3), some (.int x4), some (.int (i3 1)), some (.int (i3 0)), some (.long r13), none] [] SI14 SJ14 (QI Q)) ∧ ((i3 1) = 0 → ((i3 0) = 0 → gj_Goes E om0 mt_278 164 [some (.ref 81), some (.int x1), some (.int x2), some (.int x3), some (.int x4), some (.int (i3 1)), some (.int (i3 0)), some (.long r13), none] [] SI14 SJ14 (QI Q)) ∧ (¬ (i3 0) = 0 → (0 ≤ (lg_cmp r13 (i6 0)) → gj_Goes E om0 mt_278 164 [some (.ref 81), some (.int x1), some (.int x2), some (.int x3), some (.int x4), some (.int (i3 1)), some (.int (i3 0)), some (.long r13), none] [] SI14 SJ14 (QI Q)) ∧ (¬ 0 ≤ (lg_cmp r13 (i6 0)) → gj_Goes E om0 mt_278 63 [some (.ref 81), some (.int x1), some (.int x2), some (.int (x3 - (i3 1))), some (.int (x4 + (i3 1))), some (.int (i3 1)), some (.int (i3 0)), some (.long r13), none] [] SI14 SJ14 (QI Q))))
          refine ⟨fun c44 => ?_, fun c44 => ?_⟩
          · refine gj_goq gj_clT ok_278 [11, 25, 32, 37, 47, 63, 69, 78, 97, 120] ?_
            show gj_Goes E om0 mt_278 63 [some (.ref 81), some (.int x1), some (.int x2), some (.int x3), some (.int (x4 + (i3 1))), some (.int (i3 1)), some (.int (i3 0)), some (.long r13), none] [] SI14 SJ14 (QI Q)
            exact gj_fh ((q42.1 c43).1 c44) (And.intro (Or.inr rfl) (And.intro (Or.inr rfl) (And.intro (Or.inr rfl) (And.intro (Or.inr rfl) (And.intro (Or.inr rfl) (And.intro (Or.inl rfl) (And.intro (Or.inl rfl) (And.intro (Or.inl rfl) (And.intro (Or.inl rfl) trivial)))))))))
          · refine ⟨fun c45 => ?_, fun c45 => ?_⟩
            · refine gj_goq gj_clT ok_278 [11, 25, 32, 37, 47, 63, 69, 78, 97, 120] ?_
              show gj_Goes E om0 mt_278 63 [some (.ref 81), some (.int x1), some (.int x2), some (.int x3), some (.int (x4 + (i3 1))), some (.int (i3 1)), some (.int (i3 0)), some (.long r13), none] [] SI14 SJ14 (QI Q)
              exact gj_fh (((q42.1 c43).2 c44).1 c45) (And.intro (Or.inr rfl) (And.intro (Or.inr rfl) (And.intro (Or.inr rfl) (And.intro (Or.inr rfl) (And.intro (Or.inr rfl) (And.intro (Or.inl rfl) (And.intro (Or.inl rfl) (And.intro (Or.inl rfl) (And.intro (Or.inl rfl) trivial)))))))))
            · refine ⟨fun c46 => ?_, fun c46 => ?_⟩
              · refine gj_goq gj_clT ok_278 [11, 25, 32, 37, 47, 63, 69, 78, 97, 120] ?_
                show gj_Goes E om0 mt_278 63 [some (.ref 81), some (.int x1), some (.int x2), some (.int x3), some (.int (x4 + (i3 1))), some (.int (i3 1)), some (.int (i3 0)), some (.long r13), none] [] SI14 SJ14 (QI Q)
                exact gj_fh ((((q42.1 c43).2 c44).2 c45).1 (lgc_ge.mp c46)) (And.intro (Or.inr rfl) (And.intro (Or.inr rfl) (And.intro (Or.inr rfl) (And.intro (Or.inr rfl) (And.intro (Or.inr rfl) (And.intro (Or.inl rfl) (And.intro (Or.inl rfl) (And.intro (Or.inl rfl) (And.intro (Or.inl rfl) trivial)))))))))
              · exact gj_fh ((((q42.1 c43).2 c44).2 c45).2 (fun z_ => c46 (lgc_ge.mpr z_))) (And.intro (Or.inr rfl) (And.intro (Or.inr rfl) (And.intro (Or.inr rfl) (And.intro (Or.inr rfl) (And.intro (Or.inr rfl) (And.intro (Or.inl rfl) (And.intro (Or.inl rfl) (And.intro (Or.inl rfl) (And.intro (Or.inl rfl) trivial)))))))))
        · refine ⟨fun c47 => ?_, fun c47 => ?_⟩
          · refine gj_goq gj_clT ok_278 [11, 25, 32, 37, 47, 63, 69, 78, 97, 120] ?_
            show (¬ (i3 1) = 0 → gj_Goes E om0 mt_278 164 [some (.ref 81), some (.int x1), some (.int x2), some (.int x3), some (.int x4), some (.int (i3 1)), some (.int (i3 0)), some (.long r13), none] [] SI14 SJ14 (QI Q)) ∧ ((i3 1) = 0 → ((i3 0) = 0 → gj_Goes E om0 mt_278 164 [some (.ref 81), some (.int x1), some (.int x2), some (.int x3), some (.int x4), some (.int (i3 1)), some (.int (i3 0)), some (.long r13), none] [] SI14 SJ14 (QI Q)) ∧ (¬ (i3 0) = 0 → (0 ≤ (lg_cmp r13 (i6 0)) → gj_Goes E om0 mt_278 164 [some (.ref 81), some (.int x1), some (.int x2), some (.int x3), some (.int x4), some (.int (i3 1)), some (.int (i3 0)), some (.long r13), none] [] SI14 SJ14 (QI Q)) ∧ (¬ 0 ≤ (lg_cmp r13 (i6 0)) → gj_Goes E om0 mt_278 63 [some (.ref 81), some (.int x1), some (.int x2), some (.int (x3 - (i3 1))), some (.int (x4 + (i3 1))), some (.int (i3 1)), some (.int (i3 0)), some (.long r13), none] [] SI14 SJ14 (QI Q))))
            refine ⟨fun c48 => ?_, fun c48 => ?_⟩
            · refine gj_goq gj_clT ok_278 [11, 25, 32, 37, 47, 63, 69, 78, 97, 120] ?_
              show gj_Goes E om0 mt_278 63 [some (.ref 81), some (.int x1), some (.int x2), some (.int x3), some (.int (x4 + (i3 1))), some (.int (i3 1)), some (.int (i3 0)), some (.long r13), none] [] SI14 SJ14 (QI Q)
              exact gj_fh (((q42.2 c43).1 c47).1 c48) (And.intro (Or.inr rfl) (And.intro (Or.inr rfl) (And.intro (Or.inr rfl) (And.intro (Or.inr rfl) (And.intro (Or.inr rfl) (And.intro (Or.inl rfl) (And.intro (Or.inl rfl) (And.intro (Or.inl rfl) (And.intro (Or.inl rfl) trivial)))))))))
            · refine ⟨fun c49 => ?_, fun c49 => ?_⟩
              · refine gj_goq gj_clT ok_278 [11, 25, 32, 37, 47, 63, 69, 78, 97, 120] ?_
                show gj_Goes E om0 mt_278 63 [some (.ref 81), some (.int x1), some (.int x2), some (.int x3), some (.int (x4 + (i3 1))), some (.int (i3 1)), some (.int (i3 0)), some (.long r13), none] [] SI14 SJ14 (QI Q)
                exact gj_fh ((((q42.2 c43).1 c47).2 c48).1 c49) (And.intro (Or.inr rfl) (And.intro (Or.inr rfl) (And.intro (Or.inr rfl) (And.intro (Or.inr rfl) (And.intro (Or.inr rfl) (And.intro (Or.inl rfl) (And.intro (Or.inl rfl) (And.intro (Or.inl rfl) (And.intro (Or.inl rfl) trivial)))))))))
              · refine ⟨fun c50 => ?_, fun c50 => ?_⟩
                · refine gj_goq gj_clT ok_278 [11, 25, 32, 37, 47, 63, 69, 78, 97, 120] ?_
                  show gj_Goes E om0 mt_278 63 [some (.ref 81), some (.int x1), some (.int x2), some (.int x3), some (.int (x4 + (i3 1))), some (.int (i3 1)), some (.int (i3 0)), some (.long r13), none] [] SI14 SJ14 (QI Q)
                  exact gj_fh (((((q42.2 c43).1 c47).2 c48).2 c49).1 (lgc_ge.mp c50)) (And.intro (Or.inr rfl) (And.intro (Or.inr rfl) (And.intro (Or.inr rfl) (And.intro (Or.inr rfl) (And.intro (Or.inr rfl) (And.intro (Or.inl rfl) (And.intro (Or.inl rfl) (And.intro (Or.inl rfl) (And.intro (Or.inl rfl) trivial)))))))))
                · exact gj_fh (((((q42.2 c43).1 c47).2 c48).2 c49).2 (fun z_ => c50 (lgc_ge.mpr z_))) (And.intro (Or.inr rfl) (And.intro (Or.inr rfl) (And.intro (Or.inr rfl) (And.intro (Or.inr rfl) (And.intro (Or.inr rfl) (And.intro (Or.inl rfl) (And.intro (Or.inl rfl) (And.intro (Or.inl rfl) (And.intro (Or.inl rfl) trivial)))))))))
          · refine ⟨fun c51 => ?_, fun c51 => ?_⟩
            · refine gj_goq gj_clT ok_278 [11, 25, 32, 37, 47, 63, 69, 78, 97, 120] ?_
              show (¬ (i3 1) = 0 → gj_Goes E om0 mt_278 164 [some (.ref 81), some (.int x1), some (.int x2), some (.int x3), some (.int x4), some (.int (i3 1)), some (.int (i3 0)), some (.long r13), none] [] SI14 SJ14 (QI Q)) ∧ ((i3 1) = 0 → ((i3 0) = 0 → gj_Goes E om0 mt_278 164 [some (.ref 81), some (.int x1), some (.int x2), some (.int x3), some (.int x4), some (.int (i3 1)), some (.int (i3 0)), some (.long r13), none] [] SI14 SJ14 (QI Q)) ∧ (¬ (i3 0) = 0 → (0 ≤ (lg_cmp r13 (i6 0)) → gj_Goes E om0 mt_278 164 [some (.ref 81), some (.int x1), some (.int x2), some (.int x3), some (.int x4), some (.int (i3 1)), some (.int (i3 0)), some (.long r13), none] [] SI14 SJ14 (QI Q)) ∧ (¬ 0 ≤ (lg_cmp r13 (i6 0)) → gj_Goes E om0 mt_278 63 [some (.ref 81), some (.int x1), some (.int x2), some (.int (x3 - (i3 1))), some (.int (x4 + (i3 1))), some (.int (i3 1)), some (.int (i3 0)), some (.long r13), none] [] SI14 SJ14 (QI Q))))
              refine ⟨fun c52 => ?_, fun c52 => ?_⟩
              · refine gj_goq gj_clT ok_278 [11, 25, 32, 37, 47, 63, 69, 78, 97, 120] ?_
                show gj_Goes E om0 mt_278 63 [some (.ref 81), some (.int x1), some (.int x2), some (.int x3), some (.int (x4 + (i3 1))), some (.int (i3 1)), some (.int (i3 0)), some (.long r13), none] [] SI14 SJ14 (QI Q)
                exact gj_fh ((((q42.2 c43).2 c47).1 (lgc_le.mp c51)).1 c52) (And.intro (Or.inr rfl) (And.intro (Or.inr rfl) (And.intro (Or.inr rfl) (And.intro (Or.inr rfl) (And.intro (Or.inr rfl) (And.intro (Or.inl rfl) (And.intro (Or.inl rfl) (And.intro (Or.inl rfl) (And.intro (Or.inl rfl) trivial)))))))))
              · refine ⟨fun c53 => ?_, fun c53 => ?_⟩
                · refine gj_goq gj_clT ok_278 [11, 25, 32, 37, 47, 63, 69, 78, 97, 120] ?_
                  show gj_Goes E om0 mt_278 63 [some (.ref 81), some (.int x1), some (.int x2), some (.int x3), some (.int (x4 + (i3 1))), some (.int (i3 1)), some (.int (i3 0)), some (.long r13), none] [] SI14 SJ14 (QI Q)
                  exact gj_fh (((((q42.2 c43).2 c47).1 (lgc_le.mp c51)).2 c52).1 c53) (And.intro (Or.inr rfl) (And.intro (Or.inr rfl) (And.intro (Or.inr rfl) (And.intro (Or.inr rfl) (And.intro (Or.inr rfl) (And.intro (Or.inl rfl) (And.intro (Or.inl rfl) (And.intro (Or.inl rfl) (And.intro (Or.inl rfl) trivial)))))))))
                · refine ⟨fun c54 => ?_, fun c54 => ?_⟩
                  · refine gj_goq gj_clT ok_278 [11, 25, 32, 37, 47, 63, 69, 78, 97, 120] ?_
                    show gj_Goes E om0 mt_278 63 [some (.ref 81), some (.int x1), some (.int x2), some (.int x3), some (.int (x4 + (i3 1))), some (.int (i3 1)), some (.int (i3 0)), some (.long r13), none] [] SI14 SJ14 (QI Q)
                    exact gj_fh ((((((q42.2 c43).2 c47).1 (lgc_le.mp c51)).2 c52).2 c53).1 (lgc_ge.mp c54)) (And.intro (Or.inr rfl) (And.intro (Or.inr rfl) (And.intro (Or.inr rfl) (And.intro (Or.inr rfl) (And.intro (Or.inr rfl) (And.intro (Or.inl rfl) (And.intro (Or.inl rfl) (And.intro (Or.inl rfl) (And.intro (Or.inl rfl) trivial)))))))))
                  · exact gj_fh ((((((q42.2 c43).2 c47).1 (lgc_le.mp c51)).2 c52).2 c53).2 (fun z_ => c54 (lgc_ge.mpr z_))) (And.intro (Or.inr rfl) (And.intro (Or.inr rfl) (And.intro (Or.inr rfl) (And.intro (Or.inr rfl) (And.intro (Or.inr rfl) (And.intro (Or.inl rfl) (And.intro (Or.inl rfl) (And.intro (Or.inl rfl) (And.intro (Or.inl rfl) trivial)))))))))
            · refine ⟨fun c55 => ?_, fun c55 => ?_⟩
              · refine gj_goq gj_clT ok_278 [11, 25, 32, 37, 47, 63, 69, 78, 97, 120] ?_
                show gj_Goes E om0 mt_278 63 [some (.ref 81), some (.int x1), some (.int x2), some (.int (x3 + (i3 1))), some (.int (x4 + (i3 1))), some (.int (i3 1)), some (.int (i3 0)), some (.long r13), none] [] SI14 SJ14 (QI Q)
                exact gj_fh ((((q42.2 c43).2 c47).2 (fun z_ => c51 (lgc_le.mpr z_))).1 c55) (And.intro (Or.inr rfl) (And.intro (Or.inr rfl) (And.intro (Or.inr rfl) (And.intro (Or.inr rfl) (And.intro (Or.inr rfl) (And.intro (Or.inl rfl) (And.intro (Or.inl rfl) (And.intro (Or.inl rfl) (And.intro (Or.inl rfl) trivial)))))))))
              · refine ⟨fun c56 => ?_, fun c56 => ?_⟩
                · refine gj_goq gj_clT ok_278 [11, 25, 32, 37, 47, 63, 69, 78, 97, 120] ?_
                  show gj_Goes E om0 mt_278 63 [some (.ref 81), some (.int x1), some (.int x2), some (.int (x3 + (i3 1))), some (.int (x4 + (i3 1))), some (.int (i3 1)), some (.int (i3 0)), some (.long r13), none] [] SI14 SJ14 (QI Q)
                  exact gj_fh (((((q42.2 c43).2 c47).2 (fun z_ => c51 (lgc_le.mpr z_))).2 c55).1 c56) (And.intro (Or.inr rfl) (And.intro (Or.inr rfl) (And.intro (Or.inr rfl) (And.intro (Or.inr rfl) (And.intro (Or.inr rfl) (And.intro (Or.inl rfl) (And.intro (Or.inl rfl) (And.intro (Or.inl rfl) (And.intro (Or.inl rfl) trivial)))))))))
                · refine ⟨fun c57 => ?_, fun c57 => ?_⟩
                  · refine gj_goq gj_clT ok_278 [11, 25, 32, 37, 47, 63, 69, 78, 97, 120] ?_
                    show gj_Goes E om0 mt_278 63 [some (.ref 81), some (.int x1), some (.int x2), some (.int (x3 + (i3 1))), some (.int (x4 + (i3 1))), some (.int (i3 1)), some (.int (i3 0)), some (.long r13), none] [] SI14 SJ14 (QI Q)
                    exact gj_fh ((((((q42.2 c43).2 c47).2 (fun z_ => c51 (lgc_le.mpr z_))).2 c55).2 c56).1 (lgc_ge.mp c57)) (And.intro (Or.inr rfl) (And.intro (Or.inr rfl) (And.intro (Or.inr rfl) (And.intro (Or.inr rfl) (And.intro (Or.inr rfl) (And.intro (Or.inl rfl) (And.intro (Or.inl rfl) (And.intro (Or.inl rfl) (And.intro (Or.inl rfl) trivial)))))))))
                  · exact gj_fh ((((((q42.2 c43).2 c47).2 (fun z_ => c51 (lgc_le.mpr z_))).2 c55).2 c56).2 (fun z_ => c57 (lgc_ge.mpr z_))) (And.intro (Or.inr rfl) (And.intro (Or.inr rfl) (And.intro (Or.inr rfl) (And.intro (Or.inr rfl) (And.intro (Or.inr rfl) (And.intro (Or.inl rfl) (And.intro (Or.inl rfl) (And.intro (Or.inl rfl) (And.intro (Or.inl rfl) trivial)))))))))
      · refine gj_goq gj_clT ok_278 [11, 25, 32, 37, 47, 63, 69, 78, 97, 120] ?_
        show gj_Do E om0 (gj_mt 170) [(.ref 81), (.int x4), (.int (x4 + (i3 1))), (.int x1), (.int x2)] SI12 SJ12 _
        refine gj_Do.mono (q40.2 c41) (fun v_ SI16 SJ16 h_ => ?_)
        obtain ⟨r15, rfl, q58⟩ := h_
        show gj_Goes E om0 mt_278 120 [some (.ref 81), some (.int x1), some (.int x2), some (.int x3), some (.int x4), some (.int (i3 1)), some (.int (i3 1)), none, none] [(.long r15)] SI16 SJ16 (QI Q)
        refine gj_goq gj_clT ok_278 [11, 25, 32, 37, 47, 63, 69, 78, 97, 120] ?_
        show ((i3 1) = 0 → gj_Goes E om0 mt_278 143 [some (.ref 81), some (.int x1), some (.int x2), some (.int x3), some (.int x4), some (.int (i3 1)), some (.int (i3 1)), some (.long r15), none] [] SI16 SJ16 (QI Q)) ∧ (¬ (i3 1) = 0 → (¬ (i3 1) = 0 → gj_Goes E om0 mt_278 143 [some (.ref 81), some (.int x1), some (.int x2), some (.int x3), some (.int x4), some (.int (i3 1)), some (.int (i3 1)), some (.long r15), none] [] SI16 SJ16 (QI Q)) ∧ ((i3 1) = 0 → ((lg_cmp r15 (i6 0)) ≤ 0 → gj_Goes E om0 mt_278 143 [some (.ref 81), some (.int x1), some (.int x2), some (.int x3), some (.int x4), some (.int (i3 1)), some (.int (i3 1)), some (.long r15), none] [] SI16 SJ16 (QI Q)) ∧ (¬ (lg_cmp r15 (i6 0)) ≤ 0 → (¬ (i3 1) = 0 → gj_Goes E om0 mt_278 164 [some (.ref 81), some (.int x1), some (.int x2), some (.int (x3 + (i3 1))), some (.int x4), some (.int (i3 1)), some (.int (i3 1)), some (.long r15), none] [] SI16 SJ16 (QI Q)) ∧ ((i3 1) = 0 → ((i3 1) = 0 → gj_Goes E om0 mt_278 164 [some (.ref 81), some (.int x1), some (.int x2), some (.int (x3 + (i3 1))), some (.int x4), some (.int (i3 1)), some (.int (i3 1)), some (.long r15), none] [] SI16 SJ16 (QI Q)) ∧ (¬ (i3 1) = 0 → (0 ≤ (lg_cmp r15 (i6 0)) → gj_Goes E om0 mt_278 164 [some (.ref 81), some (.int x1), some (.int x2), some (.int (x3 + (i3 1))), some (.int x4), some (.int (i3 1)), some (.int (i3 1)), some (.long r15), none] [] SI16 SJ16 (QI Q)) ∧ (¬ 0 ≤ (lg_cmp r15 (i6 0)) → gj_Goes E om0 mt_278 63 [some (.ref 81), some (.int x1), some (.int x2), some (.int ((x3 + (i3 1)) - (i3 1))), some (.int (x4 + (i3 1))), some (.int (i3 1)), some (.int (i3 1)), some (.long r15), none] [] SI16 SJ16 (QI Q)))))))
        refine ⟨fun c59 => ?_, fun c59 => ?_⟩
        · refine gj_goq gj_clT ok_278 [11, 25, 32, 37, 47, 63, 69, 78, 97, 120] ?_
          show (¬ (i3 1) = 0 → gj_Goes E om0 mt_278 164 [some (.ref 81), some (.int x1), some (.int x2), some (.int x3), some (.int x4), some (.int (i3 1)), some (.int (i3 1)), some (.long r15), none] [] SI16 SJ16 (QI Q)) ∧ ((i3 1) = 0 → ((i3 1) = 0 → gj_Goes E om0 mt_278 164 [some (.ref 81), some (.int x1), some (.int x2), some (.int x3), some (.int x4), some (.int (i3 1)), some (.int (i3 1)), some (.long r15), none] [] SI16 SJ16 (QI Q)) ∧ (¬ (i3 1) = 0 → (0 ≤ (lg_cmp r15 (i6 0)) → gj_Goes E om0 mt_278 164 [some (.ref 81), some (.int x1), some (.int x2), some (.int x3), some (.int x4), some (.int (i3 1)), some (.int (i3 1)), some (.long r15), none] [] SI16 SJ16 (QI Q)) ∧ (¬ 0 ≤ (lg_cmp r15 (i6 0)) → gj_Goes E om0 mt_278 63 [some (.ref 81), some (.int x1), some (.int x2), some (.int (x3 - (i3 1))), some (.int (x4 + (i3 1))), some (.int (i3 1)), some (.int (i3 1)), some (.long r15), none] [] SI16 SJ16 (QI Q))))
          refine ⟨fun c60 => ?_, fun c60 => ?_⟩
          · refine gj_goq gj_clT ok_278 [11, 25, 32, 37, 47, 63, 69, 78, 97, 120] ?_
            show gj_Goes E om0 mt_278 63 [some (.ref 81), some (.int x1), some (.int x2), some (.int x3), some (.int (x4 + (i3 1))), some (.int (i3 1)), some (.int (i3 1)), some (.long r15), none] [] SI16 SJ16 (QI Q)
            exact gj_fh ((q58.1 c59).1 c60) (And.intro (Or.inr rfl) (And.intro (Or.inr rfl) (And.intro (Or.inr rfl) (And.intro (Or.inr rfl) (And.intro (Or.inr rfl) (And.intro (Or.inl rfl) (And.intro (Or.inl rfl) (And.intro (Or.inl rfl) (And.intro (Or.inl rfl) trivial)))))))))
          · refine ⟨fun c61 => ?_, fun c61 => ?_⟩
            · refine gj_goq gj_clT ok_278 [11, 25, 32, 37, 47, 63, 69, 78, 97, 120] ?_
              show gj_Goes E om0 mt_278 63 [some (.ref 81), some (.int x1), some (.int x2), some (.int x3), some (.int (x4 + (i3 1))), some (.int (i3 1)), some (.int (i3 1)), some (.long r15), none] [] SI16 SJ16 (QI Q)
              exact gj_fh (((q58.1 c59).2 c60).1 c61) (And.intro (Or.inr rfl) (And.intro (Or.inr rfl) (And.intro (Or.inr rfl) (And.intro (Or.inr rfl) (And.intro (Or.inr rfl) (And.intro (Or.inl rfl) (And.intro (Or.inl rfl) (And.intro (Or.inl rfl) (And.intro (Or.inl rfl) trivial)))))))))
            · refine ⟨fun c62 => ?_, fun c62 => ?_⟩
              · refine gj_goq gj_clT ok_278 [11, 25, 32, 37, 47, 63, 69, 78, 97, 120] ?_
                show gj_Goes E om0 mt_278 63 [some (.ref 81), some (.int x1), some (.int x2), some (.int x3), some (.int (x4 + (i3 1))), some (.int (i3 1)), some (.int (i3 1)), some (.long r15), none] [] SI16 SJ16 (QI Q)
                exact gj_fh ((((q58.1 c59).2 c60).2 c61).1 (lgc_ge.mp c62)) (And.intro (Or.inr rfl) (And.intro (Or.inr rfl) (And.intro (Or.inr rfl) (And.intro (Or.inr rfl) (And.intro (Or.inr rfl) (And.intro (Or.inl rfl) (And.intro (Or.inl rfl) (And.intro (Or.inl rfl) (And.intro (Or.inl rfl) trivial)))))))))
              · exact gj_fh ((((q58.1 c59).2 c60).2 c61).2 (fun z_ => c62 (lgc_ge.mpr z_))) (And.intro (Or.inr rfl) (And.intro (Or.inr rfl) (And.intro (Or.inr rfl) (And.intro (Or.inr rfl) (And.intro (Or.inr rfl) (And.intro (Or.inl rfl) (And.intro (Or.inl rfl) (And.intro (Or.inl rfl) (And.intro (Or.inl rfl) trivial)))))))))
        · refine ⟨fun c63 => ?_, fun c63 => ?_⟩
          · refine gj_goq gj_clT ok_278 [11, 25, 32, 37, 47, 63, 69, 78, 97, 120] ?_
            show (¬ (i3 1) = 0 → gj_Goes E om0 mt_278 164 [some (.ref 81), some (.int x1), some (.int x2), some (.int x3), some (.int x4), some (.int (i3 1)), some (.int (i3 1)), some (.long r15), none] [] SI16 SJ16 (QI Q)) ∧ ((i3 1) = 0 → ((i3 1) = 0 → gj_Goes E om0 mt_278 164 [some (.ref 81), some (.int x1), some (.int x2), some (.int x3), some (.int x4), some (.int (i3 1)), some (.int (i3 1)), some (.long r15), none] [] SI16 SJ16 (QI Q)) ∧ (¬ (i3 1) = 0 → (0 ≤ (lg_cmp r15 (i6 0)) → gj_Goes E om0 mt_278 164 [some (.ref 81), some (.int x1), some (.int x2), some (.int x3), some (.int x4), some (.int (i3 1)), some (.int (i3 1)), some (.long r15), none] [] SI16 SJ16 (QI Q)) ∧ (¬ 0 ≤ (lg_cmp r15 (i6 0)) → gj_Goes E om0 mt_278 63 [some (.ref 81), some (.int x1), some (.int x2), some (.int (x3 - (i3 1))), some (.int (x4 + (i3 1))), some (.int (i3 1)), some (.int (i3 1)), some (.long r15), none] [] SI16 SJ16 (QI Q))))
            refine ⟨fun c64 => ?_, fun c64 => ?_⟩
            · refine gj_goq gj_clT ok_278 [11, 25, 32, 37, 47, 63, 69, 78, 97, 120] ?_
              show gj_Goes E om0 mt_278 63 [some (.ref 81), some (.int x1), some (.int x2), some (.int x3), some (.int (x4 + (i3 1))), some (.int (i3 1)), some (.int (i3 1)), some (.long r15), none] [] SI16 SJ16 (QI Q)
              exact gj_fh (((q58.2 c59).1 c63).1 c64) (And.intro (Or.inr rfl) (And.intro (Or.inr rfl) (And.intro (Or.inr rfl) (And.intro (Or.inr rfl) (And.intro (Or.inr rfl) (And.intro (Or.inl rfl) (And.intro (Or.inl rfl) (And.intro (Or.inl rfl) (And.intro (Or.inl rfl) trivial)))))))))
            · refine ⟨fun c65 => ?_, fun c65 => ?_⟩
              · refine gj_goq gj_clT ok_278 [11, 25, 32, 37, 47, 63, 69, 78, 97, 120] ?_
                show gj_Goes E om0 mt_278 63 [some (.ref 81), some (.int x1), some (.int x2), some (.int x3), some (.int (x4 + (i3 1))), some (.int (i3 1)), some (.int (i3 1)), some (.long r15), none] [] SI16 SJ16 (QI Q)
                exact gj_fh ((((q58.2 c59).1 c63).2 c64).1 c65) (And.intro (Or.inr rfl) (And.intro (Or.inr rfl) (And.intro (Or.inr rfl) (And.intro (Or.inr rfl) (And.intro (Or.inr rfl) (And.intro (Or.inl rfl) (And.intro (Or.inl rfl) (And.intro (Or.inl rfl) (And.intro (Or.inl rfl) trivial)))))))))
              · refine ⟨fun c66 => ?_, fun c66 => ?_⟩
                · refine gj_goq gj_clT ok_278 [11, 25, 32, 37, 47, 63, 69, 78, 97, 120] ?_
                  show gj_Goes E om0 mt_278 63 [some (.ref 81), some (.int x1), some (.int x2), some (.int x3), some (.int (x4 + (i3 1))), some (.int (i3 1)), some (.int (i3 1)), some (.long r15), none] [] SI16 SJ16 (QI Q)
                  exact gj_fh (((((q58.2 c59).1 c63).2 c64).2 c65).1 (lgc_ge.mp c66)) (And.intro (Or.inr rfl) (And.intro (Or.inr rfl) (And.intro (Or.inr rfl) (And.intro (Or.inr rfl) (And.intro (Or.inr rfl) (And.intro (Or.inl rfl) (And.intro (Or.inl rfl) (And.intro (Or.inl rfl) (And.intro (Or.inl rfl) trivial)))))))))
                · exact gj_fh (((((q58.2 c59).1 c63).2 c64).2 c65).2 (fun z_ => c66 (lgc_ge.mpr z_))) (And.intro (Or.inr rfl) (And.intro (Or.inr rfl) (And.intro (Or.inr rfl) (And.intro (Or.inr rfl) (And.intro (Or.inr rfl) (And.intro (Or.inl rfl) (And.intro (Or.inl rfl) (And.intro (Or.inl rfl) (And.intro (Or.inl rfl) trivial)))))))))
          · refine ⟨fun c67 => ?_, fun c67 => ?_⟩
            · refine gj_goq gj_clT ok_278 [11, 25, 32, 37, 47, 63, 69, 78, 97, 120] ?_
              show (¬ (i3 1) = 0 → gj_Goes E om0 mt_278 164 [some (.ref 81), some (.int x1), some (.int x2), some (.int x3), some (.int x4), some (.int (i3 1)), some (.int (i3 1)), some (.long r15), none] [] SI16 SJ16 (QI Q)) ∧ ((i3 1) = 0 → ((i3 1) = 0 → gj_Goes E om0 mt_278 164 [some (.ref 81), some (.int x1), some (.int x2), some (.int x3), some (.int x4), some (.int (i3 1)), some (.int (i3 1)), some (.long r15), none] [] SI16 SJ16 (QI Q)) ∧ (¬ (i3 1) = 0 → (0 ≤ (lg_cmp r15 (i6 0)) → gj_Goes E om0 mt_278 164 [some (.ref 81), some (.int x1), some (.int x2), some (.int x3), some (.int x4), some (.int (i3 1)), some (.int (i3 1)), some (.long r15), none] [] SI16 SJ16 (QI Q)) ∧ (¬ 0 ≤ (lg_cmp r15 (i6 0)) → gj_Goes E om0 mt_278 63 [some (.ref 81), some (.int x1), some (.int x2), some (.int (x3 - (i3 1))), some (.int (x4 + (i3 1))), some (.int (i3 1)), some (.int (i3 1)), some (.long r15), none] [] SI16 SJ16 (QI Q))))
              refine ⟨fun c68 => ?_, fun c68 => ?_⟩
              · refine gj_goq gj_clT ok_278 [11, 25, 32, 37, 47, 63, 69, 78, 97, 120] ?_
                show gj_Goes E om0 mt_278 63 [some (.ref 81), some (.int x1), some (.int x2), some (.int x3), some (.int (x4 + (i3 1))), some (.int (i3 1)), some (.int (i3 1)), some (.long r15), none] [] SI16 SJ16 (QI Q)
                exact gj_fh ((((q58.2 c59).2 c63).1 (lgc_le.mp c67)).1 c68) (And.intro (Or.inr rfl) (And.intro (Or.inr rfl) (And.intro (Or.inr rfl) (And.intro (Or.inr rfl) (And.intro (Or.inr rfl) (And.intro (Or.inl rfl) (And.intro (Or.inl rfl) (And.intro (Or.inl rfl) (And.intro (Or.inl rfl) trivial)))))))))
              · refine ⟨fun c69 => ?_, fun c69 => ?_⟩
                · refine gj_goq gj_clT ok_278 [11, 25, 32, 37, 47, 63, 69, 78, 97, 120] ?_
                  show gj_Goes E om0 mt_278 63 [some (.ref 81), some (.int x1), some (.int x2), some (.int x3), some (.int (x4 + (i3 1))), some (.int (i3 1)), some (.int (i3 1)), some (.long r15), none] [] SI16 SJ16 (QI Q)
                  exact gj_fh (((((q58.2 c59).2 c63).1 (lgc_le.mp c67)).2 c68).1 c69) (And.intro (Or.inr rfl) (And.intro (Or.inr rfl) (And.intro (Or.inr rfl) (And.intro (Or.inr rfl) (And.intro (Or.inr rfl) (And.intro (Or.inl rfl) (And.intro (Or.inl rfl) (And.intro (Or.inl rfl) (And.intro (Or.inl rfl) trivial)))))))))
                · refine ⟨fun c70 => ?_, fun c70 => ?_⟩
                  · refine gj_goq gj_clT ok_278 [11, 25, 32, 37, 47, 63, 69, 78, 97, 120] ?_
                    show gj_Goes E om0 mt_278 63 [some (.ref 81), some (.int x1), some (.int x2), some (.int x3), some (.int (x4 + (i3 1))), some (.int (i3 1)), some (.int (i3 1)), some (.long r15), none] [] SI16 SJ16 (QI Q)
                    exact gj_fh ((((((q58.2 c59).2 c63).1 (lgc_le.mp c67)).2 c68).2 c69).1 (lgc_ge.mp c70)) (And.intro (Or.inr rfl) (And.intro (Or.inr rfl) (And.intro (Or.inr rfl) (And.intro (Or.inr rfl) (And.intro (Or.inr rfl) (And.intro (Or.inl rfl) (And.intro (Or.inl rfl) (And.intro (Or.inl rfl) (And.intro (Or.inl rfl) trivial)))))))))
                  · exact gj_fh ((((((q58.2 c59).2 c63).1 (lgc_le.mp c67)).2 c68).2 c69).2 (fun z_ => c70 (lgc_ge.mpr z_))) (And.intro (Or.inr rfl) (And.intro (Or.inr rfl) (And.intro (Or.inr rfl) (And.intro (Or.inr rfl) (And.intro (Or.inr rfl) (And.intro (Or.inl rfl) (And.intro (Or.inl rfl) (And.intro (Or.inl rfl) (And.intro (Or.inl rfl) trivial)))))))))
            · refine ⟨fun c71 => ?_, fun c71 => ?_⟩
              · refine gj_goq gj_clT ok_278 [11, 25, 32, 37, 47, 63, 69, 78, 97, 120] ?_
                show gj_Goes E om0 mt_278 63 [some (.ref 81), some (.int x1), some (.int x2), some (.int (x3 + (i3 1))), some (.int (x4 + (i3 1))), some (.int (i3 1)), some (.int (i3 1)), some (.long r15), none] [] SI16 SJ16 (QI Q)
                exact gj_fh ((((q58.2 c59).2 c63).2 (fun z_ => c67 (lgc_le.mpr z_))).1 c71) (And.intro (Or.inr rfl) (And.intro (Or.inr rfl) (And.intro (Or.inr rfl) (And.intro (Or.inr rfl) (And.intro (Or.inr rfl) (And.intro (Or.inl rfl) (And.intro (Or.inl rfl) (And.intro (Or.inl rfl) (And.intro (Or.inl rfl) trivial)))))))))
              · refine ⟨fun c72 => ?_, fun c72 => ?_⟩
                · refine gj_goq gj_clT ok_278 [11, 25, 32, 37, 47, 63, 69, 78, 97, 120] ?_
                  show gj_Goes E om0 mt_278 63 [some (.ref 81), some (.int x1), some (.int x2), some (.int (x3 + (i3 1))), some (.int (x4 + (i3 1))), some (.int (i3 1)), some (.int (i3 1)), some (.long r15), none] [] SI16 SJ16 (QI Q)
                  exact gj_fh (((((q58.2 c59).2 c63).2 (fun z_ => c67 (lgc_le.mpr z_))).2 c71).1 c72) (And.intro (Or.inr rfl) (And.intro (Or.inr rfl) (And.intro (Or.inr rfl) (And.intro (Or.inr rfl) (And.intro (Or.inr rfl) (And.intro (Or.inl rfl) (And.intro (Or.inl rfl) (And.intro (Or.inl rfl) (And.intro (Or.inl rfl) trivial)))))))))
                · refine ⟨fun c73 => ?_, fun c73 => ?_⟩
                  · refine gj_goq gj_clT ok_278 [11, 25, 32, 37, 47, 63, 69, 78, 97, 120] ?_
                    show gj_Goes E om0 mt_278 63 [some (.ref 81), some (.int x1), some (.int x2), some (.int (x3 + (i3 1))), some (.int (x4 + (i3 1))), some (.int (i3 1)), some (.int (i3 1)), some (.long r15), none] [] SI16 SJ16 (QI Q)
                    exact gj_fh ((((((q58.2 c59).2 c63).2 (fun z_ => c67 (lgc_le.mpr z_))).2 c71).2 c72).1 (lgc_ge.mp c73)) (And.intro (Or.inr rfl) (And.intro (Or.inr rfl) (And.intro (Or.inr rfl) (And.intro (Or.inr rfl) (And.intro (Or.inr rfl) (And.intro (Or.inl rfl) (And.intro (Or.inl rfl) (And.intro (Or.inl rfl) (And.intro (Or.inl rfl) trivial)))))))))
                  · exact gj_fh ((((((q58.2 c59).2 c63).2 (fun z_ => c67 (lgc_le.mpr z_))).2 c71).2 c72).2 (fun z_ => c73 (lgc_ge.mpr z_))) (And.intro (Or.inr rfl) (And.intro (Or.inr rfl) (And.intro (Or.inr rfl) (And.intro (Or.inr rfl) (And.intro (Or.inr rfl) (And.intro (Or.inl rfl) (And.intro (Or.inl rfl) (And.intro (Or.inl rfl) (And.intro (Or.inl rfl) trivial)))))))))
set_option maxRecDepth 20000 in
/-- GraspJudgeModel.finger -/
theorem st_279 {E : gj_E} {Q : Int32 → gj_I → gj_J → Prop} (a1 : Int32) (a2 : Int32) (SI : gj_I) (SJ : gj_J) (h : DoI E 181 [(.ref 81), (.int a1)] SI SJ (fun r1 SI2 SJ2 => (¬ r1 = 0 → vp_in ((i3 18) + a1) 135 ∧ (vp_in ((i3 24) + a1) 135 ∧ ((a2 = (i3 0) → Q (SI2 82 (gj_n ((i3 18) + a1))) SI2 SJ2) ∧ (a2 = (i3 1) → Q (SI2 82 (gj_n ((i3 24) + a1))) SI2 SJ2) ∧ (a2 = (i3 2) → DoI E 168 [(.ref 81), (.int (SI2 82 (gj_n ((i3 18) + a1)))), (.int (SI2 82 (gj_n ((i3 24) + a1))))] SI2 SJ2 (fun r3 SI4 SJ4 => Q r3 SI4 SJ4)) ∧ (a2 = (i3 3) → DoI E 169 [(.ref 81), (.int (SI2 82 (gj_n ((i3 18) + a1)))), (.int (SI2 82 (gj_n ((i3 24) + a1))))] SI2 SJ2 (fun r5 SI6 SJ6 => Q r5 SI6 SJ6)) ∧ (a2 = (i3 4) → (¬ (SI2 82 30) = 0 → Q (i3 2) SI2 SJ2) ∧ ((SI2 82 30) = 0 → Q (i3 1) SI2 SJ2)) ∧ (a2 = (i3 5) → DoV E 184 [(.ref 81)] SI2 SJ2 (fun SI8 SJ8 => DoI E 259 [(.ref 81)] SI8 SJ8 (fun r9 SI10 SJ10 => DoI E 186 [(.ref 81), (.int (r9 &&& (((i3 1) <<< (a1 &&& 31)) ^^^ (i3 (-1)))))] SI10 SJ10 (fun r11 SI12 SJ12 => DoI E 194 [(.ref 81), (.int r11)] SI12 SJ12 (fun r13 SI14 SJ14 => (r13 = 0 → Q (i3 0) SI14 SJ14) ∧ (¬ r13 = 0 → Q (i3 1) SI14 SJ14)))))) ∧ (a2.toInt < 0 ∨ 5 < a2.toInt → Q (i3 (-1)) SI2 SJ2)))) ∧ (r1 = 0 → Q (i3 (-1)) SI2 SJ2))) : DoI E 279 [(.ref 81), (.int a1), (.int a2)] SI SJ Q := by
  refine gj_start (M := mt_279) ok_279 (Nat.le_of_ble_eq_true rfl) ?_
  refine gj_goq gj_clT ok_279 [5, 84, 92, 113, 119, 128, 131] ?_
  show gj_Do E om0 (gj_mt 181) [(.ref 81), (.int a1)] SI SJ _
  refine gj_Do.mono h (fun v_ SI2 SJ2 h_ => ?_)
  obtain ⟨r1, rfl, q1⟩ := h_
  show gj_Goes E om0 mt_279 5 [some (.ref 81), some (.int a1), some (.int a2), none, none] [(.int r1)] SI2 SJ2 (QI Q)
  refine gj_goq gj_clT ok_279 [5, 84, 92, 113, 119, 128, 131] ?_
  show (¬ r1 = 0 → gj_Goes E om0 mt_279 10 [some (.ref 81), some (.int a1), some (.int a2), none, none] [] SI2 SJ2 (QI Q)) ∧ (r1 = 0 → QI Q (some (.int (i3 (-1)))) SI2 SJ2)
  refine ⟨fun c2 => ?_, fun c2 => ?_⟩
  · refine gj_goq gj_clT ok_279 [5, 84, 92, 113, 119, 128, 131] ?_
    show vp_in ((i3 18) + a1) 135 ∧ (vp_in ((i3 24) + a1) 135 ∧ (((a2 = Int32.ofInt (0) → gj_Goes E om0 mt_279 72 [some (.ref 81), some (.int a1), some (.int a2), some (.int (SI2 82 (gj_n ((i3 18) + a1)))), some (.int (SI2 82 (gj_n ((i3 24) + a1))))] [] SI2 SJ2 (QI Q)) ∧ (a2 = Int32.ofInt (1) → gj_Goes E om0 mt_279 74 [some (.ref 81), some (.int a1), some (.int a2), some (.int (SI2 82 (gj_n ((i3 18) + a1)))), some (.int (SI2 82 (gj_n ((i3 24) + a1))))] [] SI2 SJ2 (QI Q)) ∧ (a2 = Int32.ofInt (2) → gj_Goes E om0 mt_279 77 [some (.ref 81), some (.int a1), some (.int a2), some (.int (SI2 82 (gj_n ((i3 18) + a1)))), some (.int (SI2 82 (gj_n ((i3 24) + a1))))] [] SI2 SJ2 (QI Q)) ∧ (a2 = Int32.ofInt (3) → gj_Goes E om0 mt_279 85 [some (.ref 81), some (.int a1), some (.int a2), some (.int (SI2 82 (gj_n ((i3 18) + a1)))), some (.int (SI2 82 (gj_n ((i3 24) + a1))))] [] SI2 SJ2 (QI Q)) ∧ (a2 = Int32.ofInt (4) → gj_Goes E om0 mt_279 93 [some (.ref 81), some (.int a1), some (.int a2), some (.int (SI2 82 (gj_n ((i3 18) + a1)))), some (.int (SI2 82 (gj_n ((i3 24) + a1))))] [] SI2 SJ2 (QI Q)) ∧ (a2 = Int32.ofInt (5) → gj_Goes E om0 mt_279 109 [some (.ref 81), some (.int a1), some (.int a2), some (.int (SI2 82 (gj_n ((i3 18) + a1)))), some (.int (SI2 82 (gj_n ((i3 24) + a1))))] [] SI2 SJ2 (QI Q)) ∧ True) ∧ (a2.toInt < 0 ∨ 5 < a2.toInt → gj_Goes E om0 mt_279 140 [some (.ref 81), some (.int a1), some (.int a2), some (.int (SI2 82 (gj_n ((i3 18) + a1)))), some (.int (SI2 82 (gj_n ((i3 24) + a1))))] [] SI2 SJ2 (QI Q))))
    have k3 := (q1.1 c2).1
    refine ⟨k3, ?_⟩
    have k4 := (q1.1 c2).2.1
    refine ⟨k4, ?_⟩
    refine ⟨⟨fun c5 => ?_, ⟨fun c5 => ?_, ⟨fun c5 => ?_, ⟨fun c5 => ?_, ⟨fun c5 => ?_, ⟨fun c5 => ?_, trivial⟩⟩⟩⟩⟩⟩, fun c5 => ?_⟩
    · refine gj_goq gj_clT ok_279 [5, 84, 92, 113, 119, 128, 131] ?_
      show QI Q (some (.int (SI2 82 (gj_n ((i3 18) + a1))))) SI2 SJ2
      exact ⟨_, rfl, ((q1.1 c2).2.2.1 c5)⟩
    · refine gj_goq gj_clT ok_279 [5, 84, 92, 113, 119, 128, 131] ?_
      show QI Q (some (.int (SI2 82 (gj_n ((i3 24) + a1))))) SI2 SJ2
      exact ⟨_, rfl, ((q1.1 c2).2.2.2.1 c5)⟩
    · refine gj_goq gj_clT ok_279 [5, 84, 92, 113, 119, 128, 131] ?_
      show gj_Do E om0 (gj_mt 168) [(.ref 81), (.int (SI2 82 (gj_n ((i3 18) + a1)))), (.int (SI2 82 (gj_n ((i3 24) + a1))))] SI2 SJ2 _
      refine gj_Do.mono ((q1.1 c2).2.2.2.2.1 c5) (fun v_ SI4 SJ4 h_ => ?_)
      obtain ⟨r3, rfl, q6⟩ := h_
      show gj_Goes E om0 mt_279 84 [some (.ref 81), some (.int a1), some (.int a2), some (.int (SI2 82 (gj_n ((i3 18) + a1)))), some (.int (SI2 82 (gj_n ((i3 24) + a1))))] [(.int r3)] SI4 SJ4 (QI Q)
      refine gj_goq gj_clT ok_279 [5, 84, 92, 113, 119, 128, 131] ?_
      show QI Q (some (.int r3)) SI4 SJ4
      exact ⟨_, rfl, q6⟩
    · refine gj_goq gj_clT ok_279 [5, 84, 92, 113, 119, 128, 131] ?_
      show gj_Do E om0 (gj_mt 169) [(.ref 81), (.int (SI2 82 (gj_n ((i3 18) + a1)))), (.int (SI2 82 (gj_n ((i3 24) + a1))))] SI2 SJ2 _
      refine gj_Do.mono ((q1.1 c2).2.2.2.2.2.1 c5) (fun v_ SI6 SJ6 h_ => ?_)
      obtain ⟨r5, rfl, q7⟩ := h_
      show gj_Goes E om0 mt_279 92 [some (.ref 81), some (.int a1), some (.int a2), some (.int (SI2 82 (gj_n ((i3 18) + a1)))), some (.int (SI2 82 (gj_n ((i3 24) + a1))))] [(.int r5)] SI6 SJ6 (QI Q)
      refine gj_goq gj_clT ok_279 [5, 84, 92, 113, 119, 128, 131] ?_
      show QI Q (some (.int r5)) SI6 SJ6
      exact ⟨_, rfl, q7⟩
    · refine gj_goq gj_clT ok_279 [5, 84, 92, 113, 119, 128, 131] ?_
      show vp_in (i3 30) 135 ∧ ((¬ (SI2 82 30) = 0 → gj_Goes E om0 mt_279 107 [some (.ref 81), some (.int a1), some (.int a2), some (.int (SI2 82 (gj_n ((i3 18) + a1)))), some (.int (SI2 82 (gj_n ((i3 24) + a1))))] [] SI2 SJ2 (QI Q)) ∧ ((SI2 82 30) = 0 → gj_Goes E om0 mt_279 108 [some (.ref 81), some (.int a1), some (.int a2), some (.int (SI2 82 (gj_n ((i3 18) + a1)))), some (.int (SI2 82 (gj_n ((i3 24) + a1))))] [(.int (i3 1))] SI2 SJ2 (QI Q)))
      refine ⟨(gj_vin (by decide)), ?_⟩
      refine ⟨fun c8 => ?_, fun c8 => ?_⟩
      · refine gj_goq gj_clT ok_279 [5, 84, 92, 113, 119, 128, 131] ?_
        show QI Q (some (.int (i3 2))) SI2 SJ2
        exact ⟨_, rfl, (((q1.1 c2).2.2.2.2.2.2.1 c5).1 c8)⟩
      · refine gj_goq gj_clT ok_279 [5, 84, 92, 113, 119, 128, 131] ?_
        show QI Q (some (.int (i3 1))) SI2 SJ2
        exact ⟨_, rfl, (((q1.1 c2).2.2.2.2.2.2.1 c5).2 c8)⟩
    · refine gj_goq gj_clT ok_279 [5, 84, 92, 113, 119, 128, 131] ?_
      show gj_Do E om0 (gj_mt 184) [(.ref 81)] SI2 SJ2 _
      refine gj_Do.mono ((q1.1 c2).2.2.2.2.2.2.2.1 c5) (fun v_ SI8 SJ8 h_ => ?_)
      obtain ⟨rfl, q9⟩ := h_
      show gj_Goes E om0 mt_279 113 [some (.ref 81), some (.int a1), some (.int a2), some (.int (SI2 82 (gj_n ((i3 18) + a1)))), some (.int (SI2 82 (gj_n ((i3 24) + a1))))] [] SI8 SJ8 (QI Q)
      refine gj_goq gj_clT ok_279 [5, 84, 92, 113, 119, 128, 131] ?_
      show gj_Do E om0 (gj_mt 259) [(.ref 81)] SI8 SJ8 _
      refine gj_Do.mono q9 (fun v_ SI10 SJ10 h_ => ?_)
      obtain ⟨r9, rfl, q10⟩ := h_
      show gj_Goes E om0 mt_279 119 [some (.ref 81), some (.int a1), some (.int a2), some (.int (SI2 82 (gj_n ((i3 18) + a1)))), some (.int (SI2 82 (gj_n ((i3 24) + a1))))] [(.int r9), (.ref 81), (.ref 81)] SI10 SJ10 (QI Q)
      refine gj_goq gj_clT ok_279 [5, 84, 92, 113, 119, 128, 131] ?_
      show gj_Do E om0 (gj_mt 186) [(.ref 81), (.int (r9 &&& (((i3 1) <<< (a1 &&& 31)) ^^^ (i3 (-1)))))] SI10 SJ10 _
      refine gj_Do.mono q10 (fun v_ SI12 SJ12 h_ => ?_)
      obtain ⟨r11, rfl, q11⟩ := h_
      show gj_Goes E om0 mt_279 128 [some (.ref 81), some (.int a1), some (.int a2), some (.int (SI2 82 (gj_n ((i3 18) + a1)))), some (.int (SI2 82 (gj_n ((i3 24) + a1))))] [(.int r11), (.ref 81)] SI12 SJ12 (QI Q)
      refine gj_goq gj_clT ok_279 [5, 84, 92, 113, 119, 128, 131] ?_
      show gj_Do E om0 (gj_mt 194) [(.ref 81), (.int r11)] SI12 SJ12 _
      refine gj_Do.mono q11 (fun v_ SI14 SJ14 h_ => ?_)
      obtain ⟨r13, rfl, q12⟩ := h_
      show gj_Goes E om0 mt_279 131 [some (.ref 81), some (.int a1), some (.int a2), some (.int (SI2 82 (gj_n ((i3 18) + a1)))), some (.int (SI2 82 (gj_n ((i3 24) + a1))))] [(.int r13)] SI14 SJ14 (QI Q)
      refine gj_goq gj_clT ok_279 [5, 84, 92, 113, 119, 128, 131] ?_
      show (r13 = 0 → gj_Goes E om0 mt_279 138 [some (.ref 81), some (.int a1), some (.int a2), some (.int (SI2 82 (gj_n ((i3 18) + a1)))), some (.int (SI2 82 (gj_n ((i3 24) + a1))))] [] SI14 SJ14 (QI Q)) ∧ (¬ r13 = 0 → gj_Goes E om0 mt_279 139 [some (.ref 81), some (.int a1), some (.int a2), some (.int (SI2 82 (gj_n ((i3 18) + a1)))), some (.int (SI2 82 (gj_n ((i3 24) + a1))))] [(.int (i3 1))] SI14 SJ14 (QI Q))
      refine ⟨fun c13 => ?_, fun c13 => ?_⟩
      · refine gj_goq gj_clT ok_279 [5, 84, 92, 113, 119, 128, 131] ?_
        show QI Q (some (.int (i3 0))) SI14 SJ14
        exact ⟨_, rfl, (q12.1 c13)⟩
      · refine gj_goq gj_clT ok_279 [5, 84, 92, 113, 119, 128, 131] ?_
        show QI Q (some (.int (i3 1))) SI14 SJ14
        exact ⟨_, rfl, (q12.2 c13)⟩
    · refine gj_goq gj_clT ok_279 [5, 84, 92, 113, 119, 128, 131] ?_
      show QI Q (some (.int (i3 (-1)))) SI2 SJ2
      exact ⟨_, rfl, ((q1.1 c2).2.2.2.2.2.2.2.2 c5)⟩
  · exact ⟨_, rfl, (q1.2 c2)⟩
set_option maxRecDepth 20000 in
/-- GraspJudgeModel.wrench -/
theorem st_280 {E : gj_E} {Q : Int64 → gj_I → gj_J → Prop} (a1 : Int32) (a2 : Int32) (SI : gj_I) (SJ : gj_J) (h : DoV E 184 [(.ref 81)] SI SJ (fun SI2 SJ2 => DoI E 155 [(.long (a1).toInt64), (.long (i6 0)), (.long ((SI2 81 8) - (i3 1)).toInt64)] SI2 SJ2 (fun r3 SI4 SJ4 => (¬ r3 = 0 → (a2 = (i3 0) → vp_in a1 16 ∧ (Q (SJ4 85 (gj_n a1)) SI4 SJ4)) ∧ (a2 = (i3 1) → vp_in a1 16 ∧ (Q (SJ4 86 (gj_n a1)) SI4 SJ4)) ∧ (a2 = (i3 2) → vp_in a1 16 ∧ (Q (SJ4 87 (gj_n a1)) SI4 SJ4)) ∧ (a2 = (i3 3) → vp_in a1 16 ∧ (Q (SI4 88 (gj_n a1)).toInt64 SI4 SJ4)) ∧ (a2.toInt < 0 ∨ 3 < a2.toInt → Q (i6 (-9000000000000000000)) SI4 SJ4)) ∧ (r3 = 0 → Q (i6 (-9000000000000000000)) SI4 SJ4)))) : DoL E 280 [(.ref 81), (.int a1), (.int a2)] SI SJ Q := by
  refine gj_start (M := mt_280) ok_280 (Nat.le_of_ble_eq_true rfl) ?_
  refine gj_goq gj_clT ok_280 [4, 17] ?_
  show gj_Do E om0 (gj_mt 184) [(.ref 81)] SI SJ _
  refine gj_Do.mono h (fun v_ SI2 SJ2 h_ => ?_)
  obtain ⟨rfl, q1⟩ := h_
  show gj_Goes E om0 mt_280 4 [some (.ref 81), some (.int a1), some (.int a2)] [] SI2 SJ2 (QL Q)
  refine gj_goq gj_clT ok_280 [4, 17] ?_
  show gj_Do E om0 (gj_mt 155) [(.long (a1).toInt64), (.long (i6 0)), (.long ((SI2 81 8) - (i3 1)).toInt64)] SI2 SJ2 _
  refine gj_Do.mono q1 (fun v_ SI4 SJ4 h_ => ?_)
  obtain ⟨r3, rfl, q2⟩ := h_
  show gj_Goes E om0 mt_280 17 [some (.ref 81), some (.int a1), some (.int a2)] [(.int r3)] SI4 SJ4 (QL Q)
  refine gj_goq gj_clT ok_280 [4, 17] ?_
  show (¬ r3 = 0 → gj_Goes E om0 mt_280 24 [some (.ref 81), some (.int a1), some (.int a2)] [] SI4 SJ4 (QL Q)) ∧ (r3 = 0 → QL Q (some (.long (i6 (-9000000000000000000)))) SI4 SJ4)
  refine ⟨fun c3 => ?_, fun c3 => ?_⟩
  · refine gj_goq gj_clT ok_280 [4, 17] ?_
    show ((a2 = Int32.ofInt (0) → gj_Goes E om0 mt_280 56 [some (.ref 81), some (.int a1), some (.int a2)] [] SI4 SJ4 (QL Q)) ∧ (a2 = Int32.ofInt (1) → gj_Goes E om0 mt_280 63 [some (.ref 81), some (.int a1), some (.int a2)] [] SI4 SJ4 (QL Q)) ∧ (a2 = Int32.ofInt (2) → gj_Goes E om0 mt_280 70 [some (.ref 81), some (.int a1), some (.int a2)] [] SI4 SJ4 (QL Q)) ∧ (a2 = Int32.ofInt (3) → gj_Goes E om0 mt_280 77 [some (.ref 81), some (.int a1), some (.int a2)] [] SI4 SJ4 (QL Q)) ∧ True) ∧ (a2.toInt < 0 ∨ 3 < a2.toInt → gj_Goes E om0 mt_280 85 [some (.ref 81), some (.int a1), some (.int a2)] [] SI4 SJ4 (QL Q))
    refine ⟨⟨fun c4 => ?_, ⟨fun c4 => ?_, ⟨fun c4 => ?_, ⟨fun c4 => ?_, trivial⟩⟩⟩⟩, fun c4 => ?_⟩
    · refine gj_goq gj_clT ok_280 [4, 17] ?_
      show vp_in a1 16 ∧ (QL Q (some (.long (SJ4 85 (gj_n a1)))) SI4 SJ4)
      have k5 := ((q2.1 c3).1 c4).1
      refine ⟨k5, ?_⟩
      exact ⟨_, rfl, ((q2.1 c3).1 c4).2⟩
    · refine gj_goq gj_clT ok_280 [4, 17] ?_
      show vp_in a1 16 ∧ (QL Q (some (.long (SJ4 86 (gj_n a1)))) SI4 SJ4)
      have k6 := ((q2.1 c3).2.1 c4).1
      refine ⟨k6, ?_⟩
      exact ⟨_, rfl, ((q2.1 c3).2.1 c4).2⟩
    · refine gj_goq gj_clT ok_280 [4, 17] ?_
      show vp_in a1 16 ∧ (QL Q (some (.long (SJ4 87 (gj_n a1)))) SI4 SJ4)
      have k7 := ((q2.1 c3).2.2.1 c4).1
      refine ⟨k7, ?_⟩
      exact ⟨_, rfl, ((q2.1 c3).2.2.1 c4).2⟩
    · refine gj_goq gj_clT ok_280 [4, 17] ?_
      show vp_in a1 16 ∧ (QL Q (some (.long (SI4 88 (gj_n a1)).toInt64)) SI4 SJ4)
      have k8 := ((q2.1 c3).2.2.2.1 c4).1
      refine ⟨k8, ?_⟩
      exact ⟨_, rfl, ((q2.1 c3).2.2.2.1 c4).2⟩
    · refine gj_goq gj_clT ok_280 [4, 17] ?_
      show QL Q (some (.long (i6 (-9000000000000000000)))) SI4 SJ4
      exact ⟨_, rfl, ((q2.1 c3).2.2.2.2 c4)⟩
  · exact ⟨_, rfl, (q2.2 c3)⟩
set_option maxRecDepth 20000 in
/-- GraspJudgeModel.keep -/
theorem st_281 {E : gj_E} {Q : Int32 → gj_I → gj_J → Prop} (SI : gj_I) (SJ : gj_J) (h : GoI E mt_281 7 [some (.ref 81), some (.int (i3 0))] (gj_u2 SI 81 3 (i3 1)) SJ Q) : DoI E 281 [(.ref 81)] SI SJ Q := by
  refine gj_start (M := mt_281) ok_281 (Nat.le_of_ble_eq_true rfl) ?_
  refine gj_goq gj_clT ok_281 [7] ?_
  show ((i3 1) = 0 ∨ (i3 1) = 1) ∧ (gj_Goes E om0 mt_281 7 [some (.ref 81), some (.int (i3 0))] [] (gj_u2 SI 81 3 (i3 1)) SJ (QI Q))
  refine ⟨(Or.inr rfl), ?_⟩
  exact h
set_option maxRecDepth 20000 in
theorem lp_281_7 {E : gj_E} {Q : Int32 → gj_I → gj_J → Prop} (x1 : Int32) (SI : gj_I) (SJ : gj_J) (h : ((i3 135) ≤ x1 → Q (SI 82 17) SI SJ) ∧ (¬ (i3 135) ≤ x1 → vp_in x1 135 ∧ (GoI E mt_281 7 [some (.ref 81), some (.int (x1 + (i3 1)))] (gj_u2 SI 83 (gj_n x1) (SI 82 (gj_n x1))) SJ Q))) : GoI E mt_281 7 [some (.ref 81), some (.int x1)] SI SJ Q := by
  refine gj_goq gj_clT ok_281 [7] ?_
  show ((i3 135) ≤ x1 → gj_Goes E om0 mt_281 32 [some (.ref 81), some (.int x1)] [] SI SJ (QI Q)) ∧ (¬ (i3 135) ≤ x1 → vp_in x1 135 ∧ (vp_in x1 135 ∧ (gj_Goes E om0 mt_281 7 [some (.ref 81), some (.int (x1 + (i3 1)))] [] (gj_u2 SI 83 (gj_n x1) (SI 82 (gj_n x1))) SJ (QI Q))))
  refine ⟨fun c1 => ?_, fun c1 => ?_⟩
  · refine gj_goq gj_clT ok_281 [7] ?_
    show vp_in (i3 17) 135 ∧ (QI Q (some (.int (SI 82 17))) SI SJ)
    refine ⟨(gj_vin (by decide)), ?_⟩
    exact ⟨_, rfl, (h.1 c1)⟩
  · have k2 := (h.2 c1).1
    refine ⟨k2, ?_⟩
    refine ⟨k2, ?_⟩
    exact (h.2 c1).2
set_option maxRecDepth 20000 in
/-- GraspJudgeModel.undo -/
theorem st_282 {E : gj_E} {Q : Int32 → gj_I → gj_J → Prop} (SI : gj_I) (SJ : gj_J) (h : (¬ (SI 81 3) = 0 → GoI E mt_282 11 [some (.ref 81), some (.int (i3 0))] SI SJ Q) ∧ ((SI 81 3) = 0 → Q (i3 0) SI SJ)) : DoI E 282 [(.ref 81)] SI SJ Q := by
  refine gj_start (M := mt_282) ok_282 (Nat.le_of_ble_eq_true rfl) ?_
  refine gj_goq gj_clT ok_282 [11] ?_
  show (¬ (SI 81 3) = 0 → gj_Goes E om0 mt_282 9 [some (.ref 81), none] [] SI SJ (QI Q)) ∧ ((SI 81 3) = 0 → ((i3 0) = 0 ∨ (i3 0) = 1) ∧ (QI Q (some (.int (i3 0))) SI SJ))
  refine ⟨fun c1 => ?_, fun c1 => ?_⟩
  · refine gj_goq gj_clT ok_282 [11] ?_
    show gj_Goes E om0 mt_282 11 [some (.ref 81), some (.int (i3 0))] [] SI SJ (QI Q)
    exact (h.1 c1)
  · refine ⟨(Or.inl rfl), ?_⟩
    exact ⟨_, rfl, (h.2 c1)⟩
set_option maxRecDepth 20000 in
theorem lp_282_11 {E : gj_E} {Q : Int32 → gj_I → gj_J → Prop} (x1 : Int32) (SI : gj_I) (SJ : gj_J) (h : ((i3 135) ≤ x1 → Q (i3 1) SI SJ) ∧ (¬ (i3 135) ≤ x1 → vp_in x1 135 ∧ (GoI E mt_282 11 [some (.ref 81), some (.int (x1 + (i3 1)))] (gj_u2 SI 82 (gj_n x1) (SI 83 (gj_n x1))) SJ Q))) : GoI E mt_282 11 [some (.ref 81), some (.int x1)] SI SJ Q := by
  refine gj_goq gj_clT ok_282 [11] ?_
  show ((i3 135) ≤ x1 → gj_Goes E om0 mt_282 36 [some (.ref 81), some (.int x1)] [] SI SJ (QI Q)) ∧ (¬ (i3 135) ≤ x1 → vp_in x1 135 ∧ (vp_in x1 135 ∧ (gj_Goes E om0 mt_282 11 [some (.ref 81), some (.int (x1 + (i3 1)))] [] (gj_u2 SI 82 (gj_n x1) (SI 83 (gj_n x1))) SJ (QI Q))))
  refine ⟨fun c1 => ?_, fun c1 => ?_⟩
  · refine gj_goq gj_clT ok_282 [11] ?_
    show ((i3 1) = 0 ∨ (i3 1) = 1) ∧ (QI Q (some (.int (i3 1))) SI SJ)
    refine ⟨(Or.inr rfl), ?_⟩
    exact ⟨_, rfl, (h.1 c1)⟩
  · have k2 := (h.2 c1).1
    refine ⟨k2, ?_⟩
    refine ⟨k2, ?_⟩
    exact (h.2 c1).2
set_option maxRecDepth 20000 in
/-- GraspJudgeModel.check -/
theorem st_283 {E : gj_E} {Q : Int32 → gj_I → gj_J → Prop} (a1 : Int32) (SI : gj_I) (SJ : gj_J) (h : DoI E 155 [(.long (a1).toInt64), (.long (i6 0)), (.long (i6 12))] SI SJ (fun r1 SI2 SJ2 => (r1 = 0 → Q (i3 (-2)) SI2 SJ2) ∧ (¬ r1 = 0 → (a1 ≤ (SI2 81 13) → GoI E mt_283 29 [some (.ref 81), none, some (.int (i3 (-1))), some (.int (a1 - (i3 1)))] SI2 SJ2 Q) ∧ (¬ a1 ≤ (SI2 81 13) → Q (i3 (-2)) SI2 SJ2)))) : DoI E 283 [(.ref 81), (.int a1)] SI SJ Q := by
  refine gj_start (M := mt_283) ok_283 (Nat.le_of_ble_eq_true rfl) ?_
  refine gj_goq gj_clT ok_283 [9, 29] ?_
  show gj_Do E om0 (gj_mt 155) [(.long (a1).toInt64), (.long (i6 0)), (.long (i6 12))] SI SJ _
  refine gj_Do.mono h (fun v_ SI2 SJ2 h_ => ?_)
  obtain ⟨r1, rfl, q1⟩ := h_
  show gj_Goes E om0 mt_283 9 [some (.ref 81), some (.int a1), none, none] [(.int r1)] SI2 SJ2 (QI Q)
  refine gj_goq gj_clT ok_283 [9, 29] ?_
  show (r1 = 0 → gj_Goes E om0 mt_283 20 [some (.ref 81), some (.int a1), none, none] [] SI2 SJ2 (QI Q)) ∧ (¬ r1 = 0 → (a1 ≤ (SI2 81 13) → gj_Goes E om0 mt_283 23 [some (.ref 81), some (.int a1), none, none] [] SI2 SJ2 (QI Q)) ∧ (¬ a1 ≤ (SI2 81 13) → QI Q (some (.int (i3 (-2)))) SI2 SJ2))
  refine ⟨fun c2 => ?_, fun c2 => ?_⟩
  · refine gj_goq gj_clT ok_283 [9, 29] ?_
    show QI Q (some (.int (i3 (-2)))) SI2 SJ2
    exact ⟨_, rfl, (q1.1 c2)⟩
  · refine ⟨fun c3 => ?_, fun c3 => ?_⟩
    · refine gj_goq gj_clT ok_283 [9, 29] ?_
      show gj_Goes E om0 mt_283 29 [some (.ref 81), some (.int a1), some (.int (i3 (-1))), some (.int (a1 - (i3 1)))] [] SI2 SJ2 (QI Q)
      exact gj_fh ((q1.2 c2).1 c3) (And.intro (Or.inr rfl) (And.intro (Or.inl rfl) (And.intro (Or.inr rfl) (And.intro (Or.inr rfl) trivial))))
    · exact ⟨_, rfl, ((q1.2 c2).2 c3)⟩
set_option maxRecDepth 20000 in
theorem lp_283_29 {E : gj_E} {Q : Int32 → gj_I → gj_J → Prop} (x2 : Int32) (x3 : Int32) (SI : gj_I) (SJ : gj_J) (h : (x3 < 0 → Q x2 (gj_u2 SI 81 13 (i3 0)) SJ) ∧ (¬ x3 < 0 → ((SI 82 17) ≤ (x3 / (i3 2)) → GoI E mt_283 29 [some (.ref 81), none, some (.int x3), some (.int (x3 + (i3 (-1))))] SI SJ Q) ∧ (¬ (SI 82 17) ≤ (x3 / (i3 2)) → vp_in x3 240 ∧ ((¬ (x3 - x3 / (i3 2) * (i3 2)) = 0 → vp_in ((i3 24) + (x3 / (i3 2))) 135 ∧ ((((SI 89 (gj_n x3)) &&& (i3 255)) = (SI 82 (gj_n ((i3 24) + (x3 / (i3 2))))) → GoI E mt_283 29 [some (.ref 81), none, some (.int x2), some (.int (x3 + (i3 (-1))))] SI SJ Q) ∧ (¬ ((SI 89 (gj_n x3)) &&& (i3 255)) = (SI 82 (gj_n ((i3 24) + (x3 / (i3 2))))) → GoI E mt_283 29 [some (.ref 81), none, some (.int x3), some (.int (x3 + (i3 (-1))))] SI SJ Q))) ∧ ((x3 - x3 / (i3 2) * (i3 2)) = 0 → vp_in ((i3 18) + (x3 / (i3 2))) 135 ∧ ((((SI 89 (gj_n x3)) &&& (i3 255)) = (SI 82 (gj_n ((i3 18) + (x3 / (i3 2))))) → GoI E mt_283 29 [some (.ref 81), none, some (.int x2), some (.int (x3 + (i3 (-1))))] SI SJ Q) ∧ (¬ ((SI 89 (gj_n x3)) &&& (i3 255)) = (SI 82 (gj_n ((i3 18) + (x3 / (i3 2))))) → GoI E mt_283 29 [some (.ref 81), none, some (.int x3), some (.int (x3 + (i3 (-1))))] SI SJ Q))))))) : GoI E mt_283 29 [some (.ref 81), none, some (.int x2), some (.int x3)] SI SJ Q := by
  refine gj_goq gj_clT ok_283 [9, 29] ?_
  show (x3 < 0 → gj_Goes E om0 mt_283 89 [some (.ref 81), none, some (.int x2), some (.int x3)] [] SI SJ (QI Q)) ∧ (¬ x3 < 0 → ¬ (i3 2) = 0 ∧ (vp_in (i3 17) 135 ∧ (((SI 82 17) ≤ (x3 / (i3 2)) → gj_Goes E om0 mt_283 81 [some (.ref 81), none, some (.int x2), some (.int x3)] [] SI SJ (QI Q)) ∧ (¬ (SI 82 17) ≤ (x3 / (i3 2)) → vp_in x3 240 ∧ (¬ (i3 2) = 0 ∧ ((¬ (x3 - x3 / (i3 2) * (i3 2)) = 0 → gj_Goes E om0 mt_283 71 [some (.ref 81), none, some (.int x2), some (.int x3)] [(.ref 82), (.int ((SI 89 (gj_n x3)) &&& (i3 255)))] SI SJ (QI Q)) ∧ ((x3 - x3 / (i3 2) * (i3 2)) = 0 → gj_Goes E om0 mt_283 73 [some (.ref 81), none, some (.int x2), some (.int x3)] [(.int (i3 18)), (.ref 82), (.int ((SI 89 (gj_n x3)) &&& (i3 255)))] SI SJ (QI Q))))))))
  refine ⟨fun c1 => ?_, fun c1 => ?_⟩
  · refine gj_goq gj_clT ok_283 [9, 29] ?_
    show QI Q (some (.int x2)) (gj_u2 SI 81 13 (i3 0)) SJ
    exact ⟨_, rfl, (h.1 c1)⟩
  · refine ⟨(by decide), ?_⟩
    refine ⟨(gj_vin (by decide)), ?_⟩
    refine ⟨fun c2 => ?_, fun c2 => ?_⟩
    · refine gj_goq gj_clT ok_283 [9, 29] ?_
      show gj_Goes E om0 mt_283 29 [some (.ref 81), none, some (.int x3), some (.int (x3 + (i3 (-1))))] [] SI SJ (QI Q)
      exact ((h.2 c1).1 c2)
    · have k3 := ((h.2 c1).2 c2).1
      refine ⟨k3, ?_⟩
      refine ⟨(by decide), ?_⟩
      refine ⟨fun c4 => ?_, fun c4 => ?_⟩
      · refine gj_goq gj_clT ok_283 [9, 29] ?_
        show ¬ (i3 2) = 0 ∧ (vp_in ((i3 24) + (x3 / (i3 2))) 135 ∧ ((((SI 89 (gj_n x3)) &&& (i3 255)) = (SI 82 (gj_n ((i3 24) + (x3 / (i3 2))))) → gj_Goes E om0 mt_283 83 [some (.ref 81), none, some (.int x2), some (.int x3)] [] SI SJ (QI Q)) ∧ (¬ ((SI 89 (gj_n x3)) &&& (i3 255)) = (SI 82 (gj_n ((i3 24) + (x3 / (i3 2))))) → gj_Goes E om0 mt_283 29 [some (.ref 81), none, some (.int x3), some (.int (x3 + (i3 (-1))))] [] SI SJ (QI Q))))
        refine ⟨(by decide), ?_⟩
        have k5 := (((h.2 c1).2 c2).2.1 c4).1
        refine ⟨k5, ?_⟩
        refine ⟨fun c6 => ?_, fun c6 => ?_⟩
        · refine gj_goq gj_clT ok_283 [9, 29] ?_
          show gj_Goes E om0 mt_283 29 [some (.ref 81), none, some (.int x2), some (.int (x3 + (i3 (-1))))] [] SI SJ (QI Q)
          exact ((((h.2 c1).2 c2).2.1 c4).2.1 c6)
        · exact ((((h.2 c1).2 c2).2.1 c4).2.2 c6)
      · refine gj_goq gj_clT ok_283 [9, 29] ?_
        show ¬ (i3 2) = 0 ∧ (vp_in ((i3 18) + (x3 / (i3 2))) 135 ∧ ((((SI 89 (gj_n x3)) &&& (i3 255)) = (SI 82 (gj_n ((i3 18) + (x3 / (i3 2))))) → gj_Goes E om0 mt_283 83 [some (.ref 81), none, some (.int x2), some (.int x3)] [] SI SJ (QI Q)) ∧ (¬ ((SI 89 (gj_n x3)) &&& (i3 255)) = (SI 82 (gj_n ((i3 18) + (x3 / (i3 2))))) → gj_Goes E om0 mt_283 29 [some (.ref 81), none, some (.int x3), some (.int (x3 + (i3 (-1))))] [] SI SJ (QI Q))))
        refine ⟨(by decide), ?_⟩
        have k7 := (((h.2 c1).2 c2).2.2 c4).1
        refine ⟨k7, ?_⟩
        refine ⟨fun c8 => ?_, fun c8 => ?_⟩
        · refine gj_goq gj_clT ok_283 [9, 29] ?_
          show gj_Goes E om0 mt_283 29 [some (.ref 81), none, some (.int x2), some (.int (x3 + (i3 (-1))))] [] SI SJ (QI Q)
          exact ((((h.2 c1).2 c2).2.2 c4).2.1 c8)
        · exact ((((h.2 c1).2 c2).2.2 c4).2.2 c8)
