/-! aw: what stands before the run: printed by gensta.py -/
theorem lw_in {w : Cond} (h : w ∈ tables_1) : w ∈ lw_tbl := List.mem_append_right _ h
theorem tb_0 {s : State} {b : Nat} (hgv : (Jvm.Cond.and given_1 narrow_1).before #[Value.ref b] s = true) : ∃ t : Nat, (Term.static "GraspJudge" "ROUGH_M" "[I").eval #[Value.ref b] s none [] s = some (.ref t) ∧ va_T .int t 8 (fun i => .int ((gj_stt.getD 0 []).getD i 0)) (fun q => s.heap.size ≤ q) s s.heap := by
  have hs := flat_of_before _ hgv
  refine va_Tof (by decide) (hs (.arrayOf (Term.static "GraspJudge" "ROUGH_M" "[I") .int) (by decide +kernel)) (va_eqt (hs (.eq (.length (Term.static "GraspJudge" "ROUGH_M" "[I")) (.int 8)) (by decide +kernel))) (fun j hj => ?_) (fun a h1 h2 => by omega)
  match j, hj with
  | 0, _ => exact va_eqt (hs (.eq (.elem (Term.static "GraspJudge" "ROUGH_M" "[I") (.int 0)) (.int 0)) (by decide +kernel))
  | 1, _ => exact va_eqt (hs (.eq (.elem (Term.static "GraspJudge" "ROUGH_M" "[I") (.int 1)) (.int 1)) (by decide +kernel))
  | 2, _ => exact va_eqt (hs (.eq (.elem (Term.static "GraspJudge" "ROUGH_M" "[I") (.int 2)) (.int 1)) (by decide +kernel))
  | 3, _ => exact va_eqt (hs (.eq (.elem (Term.static "GraspJudge" "ROUGH_M" "[I") (.int 3)) (.int 2)) (by decide +kernel))
  | 4, _ => exact va_eqt (hs (.eq (.elem (Term.static "GraspJudge" "ROUGH_M" "[I") (.int 4)) (.int 1)) (by decide +kernel))
  | 5, _ => exact va_eqt (hs (.eq (.elem (Term.static "GraspJudge" "ROUGH_M" "[I") (.int 5)) (.int 3)) (by decide +kernel))
  | 6, _ => exact va_eqt (hs (.eq (.elem (Term.static "GraspJudge" "ROUGH_M" "[I") (.int 6)) (.int 2)) (by decide +kernel))
  | 7, _ => exact va_eqt (hs (.eq (.elem (Term.static "GraspJudge" "ROUGH_M" "[I") (.int 7)) (.int 3)) (by decide +kernel))
  | n + 8, h => exact absurd h (by omega)
theorem tb_1 {s : State} {b : Nat} (hgv : (Jvm.Cond.and given_1 narrow_1).before #[Value.ref b] s = true) : ∃ t : Nat, (Term.static "GraspJudge" "ROUGH_Q" "[I").eval #[Value.ref b] s none [] s = some (.ref t) ∧ va_T .int t 8 (fun i => .int ((gj_stt.getD 1 []).getD i 0)) (fun q => s.heap.size ≤ q) s s.heap := by
  have hs := flat_of_before _ hgv
  refine va_Tof (by decide) (hs (.arrayOf (Term.static "GraspJudge" "ROUGH_Q" "[I") .int) (by decide +kernel)) (va_eqt (hs (.eq (.length (Term.static "GraspJudge" "ROUGH_Q" "[I")) (.int 8)) (by decide +kernel))) (fun j hj => ?_) (fun a h1 h2 => by omega)
  match j, hj with
  | 0, _ => exact va_eqt (hs (.eq (.elem (Term.static "GraspJudge" "ROUGH_Q" "[I") (.int 0)) (.int 1)) (by decide +kernel))
  | 1, _ => exact va_eqt (hs (.eq (.elem (Term.static "GraspJudge" "ROUGH_Q" "[I") (.int 1)) (.int 3)) (by decide +kernel))
  | 2, _ => exact va_eqt (hs (.eq (.elem (Term.static "GraspJudge" "ROUGH_Q" "[I") (.int 2)) (.int 2)) (by decide +kernel))
  | 3, _ => exact va_eqt (hs (.eq (.elem (Term.static "GraspJudge" "ROUGH_Q" "[I") (.int 3)) (.int 3)) (by decide +kernel))
  | 4, _ => exact va_eqt (hs (.eq (.elem (Term.static "GraspJudge" "ROUGH_Q" "[I") (.int 4)) (.int 1)) (by decide +kernel))
  | 5, _ => exact va_eqt (hs (.eq (.elem (Term.static "GraspJudge" "ROUGH_Q" "[I") (.int 5)) (.int 2)) (by decide +kernel))
  | 6, _ => exact va_eqt (hs (.eq (.elem (Term.static "GraspJudge" "ROUGH_Q" "[I") (.int 6)) (.int 1)) (by decide +kernel))
  | 7, _ => exact va_eqt (hs (.eq (.elem (Term.static "GraspJudge" "ROUGH_Q" "[I") (.int 7)) (.int 1)) (by decide +kernel))
  | n + 8, h => exact absurd h (by omega)
theorem tb_2 {s : State} {b : Nat} (hgv : (Jvm.Cond.and given_1 narrow_1).before #[Value.ref b] s = true) : ∃ t : Nat, (Term.static "GraspJudge" "TILT_X" "[I").eval #[Value.ref b] s none [] s = some (.ref t) ∧ va_T .int t 8 (fun i => .int ((gj_stt.getD 2 []).getD i 0)) (fun q => s.heap.size ≤ q) s s.heap := by
  have hs := flat_of_before _ hgv
  refine va_Tof (by decide) (hs (.arrayOf (Term.static "GraspJudge" "TILT_X" "[I") .int) (by decide +kernel)) (va_eqt (hs (.eq (.length (Term.static "GraspJudge" "TILT_X" "[I")) (.int 8)) (by decide +kernel))) (fun j hj => ?_) (fun a h1 h2 => by omega)
  match j, hj with
  | 0, _ => exact va_eqt (hs (.eq (.elem (Term.static "GraspJudge" "TILT_X" "[I") (.int 0)) (.int 1)) (by decide +kernel))
  | 1, _ => exact va_eqt (hs (.eq (.elem (Term.static "GraspJudge" "TILT_X" "[I") (.int 1)) (.int 1)) (by decide +kernel))
  | 2, _ => exact va_eqt (hs (.eq (.elem (Term.static "GraspJudge" "TILT_X" "[I") (.int 2)) (.int 0)) (by decide +kernel))
  | 3, _ => exact va_eqt (hs (.eq (.elem (Term.static "GraspJudge" "TILT_X" "[I") (.int 3)) (.int (-1))) (by decide +kernel))
  | 4, _ => exact va_eqt (hs (.eq (.elem (Term.static "GraspJudge" "TILT_X" "[I") (.int 4)) (.int (-1))) (by decide +kernel))
  | 5, _ => exact va_eqt (hs (.eq (.elem (Term.static "GraspJudge" "TILT_X" "[I") (.int 5)) (.int (-1))) (by decide +kernel))
  | 6, _ => exact va_eqt (hs (.eq (.elem (Term.static "GraspJudge" "TILT_X" "[I") (.int 6)) (.int 0)) (by decide +kernel))
  | 7, _ => exact va_eqt (hs (.eq (.elem (Term.static "GraspJudge" "TILT_X" "[I") (.int 7)) (.int 1)) (by decide +kernel))
  | n + 8, h => exact absurd h (by omega)
theorem tb_3 {s : State} {b : Nat} (hgv : (Jvm.Cond.and given_1 narrow_1).before #[Value.ref b] s = true) : ∃ t : Nat, (Term.static "GraspJudge" "TILT_Y" "[I").eval #[Value.ref b] s none [] s = some (.ref t) ∧ va_T .int t 8 (fun i => .int ((gj_stt.getD 3 []).getD i 0)) (fun q => s.heap.size ≤ q) s s.heap := by
  have hs := flat_of_before _ hgv
  refine va_Tof (by decide) (hs (.arrayOf (Term.static "GraspJudge" "TILT_Y" "[I") .int) (by decide +kernel)) (va_eqt (hs (.eq (.length (Term.static "GraspJudge" "TILT_Y" "[I")) (.int 8)) (by decide +kernel))) (fun j hj => ?_) (fun a h1 h2 => by omega)
  match j, hj with
  | 0, _ => exact va_eqt (hs (.eq (.elem (Term.static "GraspJudge" "TILT_Y" "[I") (.int 0)) (.int 0)) (by decide +kernel))
  | 1, _ => exact va_eqt (hs (.eq (.elem (Term.static "GraspJudge" "TILT_Y" "[I") (.int 1)) (.int 1)) (by decide +kernel))
  | 2, _ => exact va_eqt (hs (.eq (.elem (Term.static "GraspJudge" "TILT_Y" "[I") (.int 2)) (.int 1)) (by decide +kernel))
  | 3, _ => exact va_eqt (hs (.eq (.elem (Term.static "GraspJudge" "TILT_Y" "[I") (.int 3)) (.int 1)) (by decide +kernel))
  | 4, _ => exact va_eqt (hs (.eq (.elem (Term.static "GraspJudge" "TILT_Y" "[I") (.int 4)) (.int 0)) (by decide +kernel))
  | 5, _ => exact va_eqt (hs (.eq (.elem (Term.static "GraspJudge" "TILT_Y" "[I") (.int 5)) (.int (-1))) (by decide +kernel))
  | 6, _ => exact va_eqt (hs (.eq (.elem (Term.static "GraspJudge" "TILT_Y" "[I") (.int 6)) (.int (-1))) (by decide +kernel))
  | 7, _ => exact va_eqt (hs (.eq (.elem (Term.static "GraspJudge" "TILT_Y" "[I") (.int 7)) (.int (-1))) (by decide +kernel))
  | n + 8, h => exact absurd h (by omega)
theorem tc_0 {s : State} {b : Nat} (hgv : (Jvm.Cond.and given_1 narrow_1).before #[Value.ref b] s = true) : ∃ t : Nat, (Term.field (Term.string "GraspJudge$Orders" 56) "java/lang/String" "value" "[B").eval #[Value.ref b] s none [] s = some (.ref t) ∧ va_T .byte t 3 (fun i => .int ((gj_stt.getD 8 []).getD i 0)) (fun q => s.heap.size ≤ q) s s.heap := by
  have hs := flat_of_before _ hgv
  refine va_Tof (by decide) (hs (.arrayOf (Term.field (Term.string "GraspJudge$Orders" 56) "java/lang/String" "value" "[B") .byte) (by decide +kernel)) (va_eqt (hs (.eq (.length (Term.field (Term.string "GraspJudge$Orders" 56) "java/lang/String" "value" "[B")) (.int 3)) (by decide +kernel))) (fun j hj => ?_) (fun a h1 h2 => by omega)
  match j, hj with
  | 0, _ => exact va_eqt (hs (.eq (.elem (Term.field (Term.string "GraspJudge$Orders" 56) "java/lang/String" "value" "[B") (.int 0)) (.int 112)) (by decide +kernel))
  | 1, _ => exact va_eqt (hs (.eq (.elem (Term.field (Term.string "GraspJudge$Orders" 56) "java/lang/String" "value" "[B") (.int 1)) (.int 117)) (by decide +kernel))
  | 2, _ => exact va_eqt (hs (.eq (.elem (Term.field (Term.string "GraspJudge$Orders" 56) "java/lang/String" "value" "[B") (.int 2)) (.int 116)) (by decide +kernel))
  | n + 3, h => exact absurd h (by omega)
theorem td_0 {s : State} {b : Nat} (hgv : (Jvm.Cond.and given_1 narrow_1).before #[Value.ref b] s = true) : ∃ a : Nat, (Term.string "GraspJudge$Orders" 56).eval #[Value.ref b] s none [] s = some (.ref a) ∧ va_O "java/lang/String" a (fun q => s.heap.size ≤ q) s s.heap ∧ va_OF "java/lang/String" "coder" "B" (.int 0) a (fun q => s.heap.size ≤ q) s s.heap := by
  have hs := flat_of_before _ hgv
  have hx := hs (.exactly (Term.string "GraspJudge$Orders" 56) "java/lang/String") (by decide +kernel)
  obtain ⟨a, c, cell, k, h1, -⟩ := Cond.exactly_spec (show (Cond.exactly (Term.string "GraspJudge$Orders" 56) "java/lang/String").holds #[Value.ref b] s none s [] = true from hx)
  exact ⟨a, h1, va_Oof hx h1 (fun a h1 h2 => by omega), vk_OFof h1 (va_eqt (hs (.eq (.field (Term.string "GraspJudge$Orders" 56) "java/lang/String" "coder" "B") (.int 0)) (by decide +kernel))) (fun a h1 h2 => by omega)⟩
theorem tc_1 {s : State} {b : Nat} (hgv : (Jvm.Cond.and given_1 narrow_1).before #[Value.ref b] s = true) : ∃ t : Nat, (Term.field (Term.string "GraspJudge$Orders" 62) "java/lang/String" "value" "[B").eval #[Value.ref b] s none [] s = some (.ref t) ∧ va_T .byte t 4 (fun i => .int ((gj_stt.getD 9 []).getD i 0)) (fun q => s.heap.size ≤ q) s s.heap := by
  have hs := flat_of_before _ hgv
  refine va_Tof (by decide) (hs (.arrayOf (Term.field (Term.string "GraspJudge$Orders" 62) "java/lang/String" "value" "[B") .byte) (by decide +kernel)) (va_eqt (hs (.eq (.length (Term.field (Term.string "GraspJudge$Orders" 62) "java/lang/String" "value" "[B")) (.int 4)) (by decide +kernel))) (fun j hj => ?_) (fun a h1 h2 => by omega)
  match j, hj with
  | 0, _ => exact va_eqt (hs (.eq (.elem (Term.field (Term.string "GraspJudge$Orders" 62) "java/lang/String" "value" "[B") (.int 0)) (.int 116)) (by decide +kernel))
  | 1, _ => exact va_eqt (hs (.eq (.elem (Term.field (Term.string "GraspJudge$Orders" 62) "java/lang/String" "value" "[B") (.int 1)) (.int 97)) (by decide +kernel))
  | 2, _ => exact va_eqt (hs (.eq (.elem (Term.field (Term.string "GraspJudge$Orders" 62) "java/lang/String" "value" "[B") (.int 2)) (.int 107)) (by decide +kernel))
  | 3, _ => exact va_eqt (hs (.eq (.elem (Term.field (Term.string "GraspJudge$Orders" 62) "java/lang/String" "value" "[B") (.int 3)) (.int 101)) (by decide +kernel))
  | n + 4, h => exact absurd h (by omega)
theorem td_1 {s : State} {b : Nat} (hgv : (Jvm.Cond.and given_1 narrow_1).before #[Value.ref b] s = true) : ∃ a : Nat, (Term.string "GraspJudge$Orders" 62).eval #[Value.ref b] s none [] s = some (.ref a) ∧ va_O "java/lang/String" a (fun q => s.heap.size ≤ q) s s.heap ∧ va_OF "java/lang/String" "coder" "B" (.int 0) a (fun q => s.heap.size ≤ q) s s.heap := by
  have hs := flat_of_before _ hgv
  have hx := hs (.exactly (Term.string "GraspJudge$Orders" 62) "java/lang/String") (by decide +kernel)
  obtain ⟨a, c, cell, k, h1, -⟩ := Cond.exactly_spec (show (Cond.exactly (Term.string "GraspJudge$Orders" 62) "java/lang/String").holds #[Value.ref b] s none s [] = true from hx)
  exact ⟨a, h1, va_Oof hx h1 (fun a h1 h2 => by omega), vk_OFof h1 (va_eqt (hs (.eq (.field (Term.string "GraspJudge$Orders" 62) "java/lang/String" "coder" "B") (.int 0)) (by decide +kernel))) (fun a h1 h2 => by omega)⟩
theorem tc_2 {s : State} {b : Nat} (hgv : (Jvm.Cond.and given_1 narrow_1).before #[Value.ref b] s = true) : ∃ t : Nat, (Term.field (Term.string "GraspJudge$Orders" 64) "java/lang/String" "value" "[B").eval #[Value.ref b] s none [] s = some (.ref t) ∧ va_T .byte t 5 (fun i => .int ((gj_stt.getD 10 []).getD i 0)) (fun q => s.heap.size ≤ q) s s.heap := by
  have hs := flat_of_before _ hgv
  refine va_Tof (by decide) (hs (.arrayOf (Term.field (Term.string "GraspJudge$Orders" 64) "java/lang/String" "value" "[B") .byte) (by decide +kernel)) (va_eqt (hs (.eq (.length (Term.field (Term.string "GraspJudge$Orders" 64) "java/lang/String" "value" "[B")) (.int 5)) (by decide +kernel))) (fun j hj => ?_) (fun a h1 h2 => by omega)
  match j, hj with
  | 0, _ => exact va_eqt (hs (.eq (.elem (Term.field (Term.string "GraspJudge$Orders" 64) "java/lang/String" "value" "[B") (.int 0)) (.int 116)) (by decide +kernel))
  | 1, _ => exact va_eqt (hs (.eq (.elem (Term.field (Term.string "GraspJudge$Orders" 64) "java/lang/String" "value" "[B") (.int 1)) (.int 114)) (by decide +kernel))
  | 2, _ => exact va_eqt (hs (.eq (.elem (Term.field (Term.string "GraspJudge$Orders" 64) "java/lang/String" "value" "[B") (.int 2)) (.int 101)) (by decide +kernel))
  | 3, _ => exact va_eqt (hs (.eq (.elem (Term.field (Term.string "GraspJudge$Orders" 64) "java/lang/String" "value" "[B") (.int 3)) (.int 97)) (by decide +kernel))
  | 4, _ => exact va_eqt (hs (.eq (.elem (Term.field (Term.string "GraspJudge$Orders" 64) "java/lang/String" "value" "[B") (.int 4)) (.int 100)) (by decide +kernel))
  | n + 5, h => exact absurd h (by omega)
theorem td_2 {s : State} {b : Nat} (hgv : (Jvm.Cond.and given_1 narrow_1).before #[Value.ref b] s = true) : ∃ a : Nat, (Term.string "GraspJudge$Orders" 64).eval #[Value.ref b] s none [] s = some (.ref a) ∧ va_O "java/lang/String" a (fun q => s.heap.size ≤ q) s s.heap ∧ va_OF "java/lang/String" "coder" "B" (.int 0) a (fun q => s.heap.size ≤ q) s s.heap := by
  have hs := flat_of_before _ hgv
  have hx := hs (.exactly (Term.string "GraspJudge$Orders" 64) "java/lang/String") (by decide +kernel)
  obtain ⟨a, c, cell, k, h1, -⟩ := Cond.exactly_spec (show (Cond.exactly (Term.string "GraspJudge$Orders" 64) "java/lang/String").holds #[Value.ref b] s none s [] = true from hx)
  exact ⟨a, h1, va_Oof hx h1 (fun a h1 h2 => by omega), vk_OFof h1 (va_eqt (hs (.eq (.field (Term.string "GraspJudge$Orders" 64) "java/lang/String" "coder" "B") (.int 0)) (by decide +kernel))) (fun a h1 h2 => by omega)⟩
theorem tc_3 {s : State} {b : Nat} (hgv : (Jvm.Cond.and given_1 narrow_1).before #[Value.ref b] s = true) : ∃ t : Nat, (Term.field (Term.string "GraspJudge$Orders" 66) "java/lang/String" "value" "[B").eval #[Value.ref b] s none [] s = some (.ref t) ∧ va_T .byte t 6 (fun i => .int ((gj_stt.getD 11 []).getD i 0)) (fun q => s.heap.size ≤ q) s s.heap := by
  have hs := flat_of_before _ hgv
  refine va_Tof (by decide) (hs (.arrayOf (Term.field (Term.string "GraspJudge$Orders" 66) "java/lang/String" "value" "[B") .byte) (by decide +kernel)) (va_eqt (hs (.eq (.length (Term.field (Term.string "GraspJudge$Orders" 66) "java/lang/String" "value" "[B")) (.int 6)) (by decide +kernel))) (fun j hj => ?_) (fun a h1 h2 => by omega)
  match j, hj with
  | 0, _ => exact va_eqt (hs (.eq (.elem (Term.field (Term.string "GraspJudge$Orders" 66) "java/lang/String" "value" "[B") (.int 0)) (.int 99)) (by decide +kernel))
  | 1, _ => exact va_eqt (hs (.eq (.elem (Term.field (Term.string "GraspJudge$Orders" 66) "java/lang/String" "value" "[B") (.int 1)) (.int 101)) (by decide +kernel))
  | 2, _ => exact va_eqt (hs (.eq (.elem (Term.field (Term.string "GraspJudge$Orders" 66) "java/lang/String" "value" "[B") (.int 2)) (.int 110)) (by decide +kernel))
  | 3, _ => exact va_eqt (hs (.eq (.elem (Term.field (Term.string "GraspJudge$Orders" 66) "java/lang/String" "value" "[B") (.int 3)) (.int 116)) (by decide +kernel))
  | 4, _ => exact va_eqt (hs (.eq (.elem (Term.field (Term.string "GraspJudge$Orders" 66) "java/lang/String" "value" "[B") (.int 4)) (.int 114)) (by decide +kernel))
  | 5, _ => exact va_eqt (hs (.eq (.elem (Term.field (Term.string "GraspJudge$Orders" 66) "java/lang/String" "value" "[B") (.int 5)) (.int 101)) (by decide +kernel))
  | n + 6, h => exact absurd h (by omega)
theorem td_3 {s : State} {b : Nat} (hgv : (Jvm.Cond.and given_1 narrow_1).before #[Value.ref b] s = true) : ∃ a : Nat, (Term.string "GraspJudge$Orders" 66).eval #[Value.ref b] s none [] s = some (.ref a) ∧ va_O "java/lang/String" a (fun q => s.heap.size ≤ q) s s.heap ∧ va_OF "java/lang/String" "coder" "B" (.int 0) a (fun q => s.heap.size ≤ q) s s.heap := by
  have hs := flat_of_before _ hgv
  have hx := hs (.exactly (Term.string "GraspJudge$Orders" 66) "java/lang/String") (by decide +kernel)
  obtain ⟨a, c, cell, k, h1, -⟩ := Cond.exactly_spec (show (Cond.exactly (Term.string "GraspJudge$Orders" 66) "java/lang/String").holds #[Value.ref b] s none s [] = true from hx)
  exact ⟨a, h1, va_Oof hx h1 (fun a h1 h2 => by omega), vk_OFof h1 (va_eqt (hs (.eq (.field (Term.string "GraspJudge$Orders" 66) "java/lang/String" "coder" "B") (.int 0)) (by decide +kernel))) (fun a h1 h2 => by omega)⟩
theorem te_0 {s : State} {b : Nat} (hgv : (Jvm.Cond.and given_1 narrow_1).before #[Value.ref b] s = true) : ∃ f : Nat, (Term.static "jdk/internal/util/Preconditions" "SIOOBE_FORMATTER" "Ljava/util/function/BiFunction;").eval #[Value.ref b] s none [] s = some .null ∨ (Term.static "jdk/internal/util/Preconditions" "SIOOBE_FORMATTER" "Ljava/util/function/BiFunction;").eval #[Value.ref b] s none [] s = some (.ref f) := by
  have hs := flat_of_before _ hgv
  have hx := hs (.isRef (.static "jdk/internal/util/Preconditions" "SIOOBE_FORMATTER" "Ljava/util/function/BiFunction;")) (by decide +kernel)
  obtain ⟨v, h1, h2⟩ := Cond.isRef_spec (show (Cond.isRef (Term.static "jdk/internal/util/Preconditions" "SIOOBE_FORMATTER" "Ljava/util/function/BiFunction;")).holds #[Value.ref b] s none s [] = true from hx)
  cases v with
  | ref a => exact ⟨a, Or.inr h1⟩
  | null => exact ⟨0, Or.inl h1⟩
  | _ => cases h2
theorem gj_isN_on {w : Cond} (h : gj_isN w = true) : w.onTables = true := by
  unfold gj_isN at h
  split at h
  · rfl
  · rfl
  · cases h
theorem gj_sta_ex (l : Launch) {s : State} {b L : Nat} {xs : Nat → Int32} (hts : ∀ w ∈ lw_tbl, w.before #[Value.ref b] s = true) (hX : va_X b L xs s s.heap) (hbl : b < s.heap.size) (hgv : (Jvm.Cond.and given_1 narrow_1).before #[Value.ref b] s = true) : ∃ sa : Nat → Nat, sa 12 = b ∧ ∀ (D : va_G) (cs : ClassId × ClassId × ClassId), gj_Sta (l, D, cs, s.heap.size, sa, L, xs) s s.heap := by
  have hs := flat_of_before _ hgv
  obtain ⟨t0, e0, T0⟩ := tb_0 hgv
  obtain ⟨t1, e1, T1⟩ := tb_1 hgv
  obtain ⟨t2, e2, T2⟩ := tb_2 hgv
  obtain ⟨t3, e3, T3⟩ := tb_3 hgv
  obtain ⟨v0, ev0, V0⟩ := tc_0 hgv
  obtain ⟨a0, ea0, O0, C0⟩ := td_0 hgv
  obtain ⟨v1, ev1, V1⟩ := tc_1 hgv
  obtain ⟨a1, ea1, O1, C1⟩ := td_1 hgv
  obtain ⟨v2, ev2, V2⟩ := tc_2 hgv
  obtain ⟨a2, ea2, O2, C2⟩ := td_2 hgv
  obtain ⟨v3, ev3, V3⟩ := tc_3 hgv
  obtain ⟨a3, ea3, O3, C3⟩ := td_3 hgv
  obtain ⟨fm, hfm⟩ := te_0 hgv
  have hA : ∀ a : Nat, a < s.heap.size → ¬ s.heap.size ≤ a := fun a h1 h2 => by omega
  refine ⟨fun j => [t0, t1, t2, t3, a0, a1, a2, a3, v0, v1, v2, v3, b, 0, 0, fm].getD j 0, rfl, fun D cs => ⟨fun j hj => ?_, fun j hj => ?_, fun j hj => ?_, fun j hj => ?_, ⟨?_, ?_⟩, fun j hj => ?_, fun w hw => ?_⟩⟩
  · match j, hj with
    | 0, _ => exact T0
    | 1, _ => exact T1
    | 2, _ => exact T2
    | 3, _ => exact T3
    | 12, _ =>
      obtain ⟨scr, h1, h2, h3, h4, h5⟩ := hX
      exact ⟨scr, h1, h2, h3, by rw [h4]; exact Nat.le_refl _, by rw [h4]; rfl, h5, hA b hbl⟩
    | 4, h => exact absurd h (by decide)
    | 5, h => exact absurd h (by decide)
    | 6, h => exact absurd h (by decide)
    | 7, h => exact absurd h (by decide)
    | 8, h => exact absurd h (by decide)
    | 9, h => exact absurd h (by decide)
    | 10, h => exact absurd h (by decide)
    | 11, h => exact absurd h (by decide)
    | n + 13, h => exact absurd h (by simp [gj_stk])
  · match j, hj with
    | 8, _ => exact V0
    | 9, _ => exact V1
    | 10, _ => exact V2
    | 11, _ => exact V3
    | 0, h => exact absurd h (by decide)
    | 1, h => exact absurd h (by decide)
    | 2, h => exact absurd h (by decide)
    | 3, h => exact absurd h (by decide)
    | 4, h => exact absurd h (by decide)
    | 5, h => exact absurd h (by decide)
    | 6, h => exact absurd h (by decide)
    | 7, h => exact absurd h (by decide)
    | 12, h => exact absurd h (by decide)
    | n + 13, h => exact absurd h (by simp [gj_stk])
  · match j, hj with
    | 0, _ => exact ⟨O0, C0, vk_OFof ea0 ev0 hA⟩
    | 1, _ => exact ⟨O1, C1, vk_OFof ea1 ev1 hA⟩
    | 2, _ => exact ⟨O2, C2, vk_OFof ea2 ev2 hA⟩
    | 3, _ => exact ⟨O3, C3, vk_OFof ea3 ev3 hA⟩
    | n + 4, h => exact absurd h (by omega)
  · match j, hj with
    | 0, _ => exact va_Zof (hts _ (lw_in (w := .laysStatic "GraspJudge" "ROUGH_M" "[I") (List.mem_of_getElem? (i := 1012) (by decide +kernel)))) (hts _ (lw_in (w := .initialized "GraspJudge") (List.mem_of_getElem? (i := 1) (by decide +kernel)))) e0 hA
    | 1, _ => exact va_Zof (hts _ (lw_in (w := .laysStatic "GraspJudge" "ROUGH_Q" "[I") (List.mem_of_getElem? (i := 1014) (by decide +kernel)))) (hts _ (lw_in (w := .initialized "GraspJudge") (List.mem_of_getElem? (i := 1) (by decide +kernel)))) e1 hA
    | 2, _ => exact va_Zof (hts _ (lw_in (w := .laysStatic "GraspJudge" "TILT_X" "[I") (List.mem_of_getElem? (i := 1261) (by decide +kernel)))) (hts _ (lw_in (w := .initialized "GraspJudge") (List.mem_of_getElem? (i := 1) (by decide +kernel)))) e2 hA
    | 3, _ => exact va_Zof (hts _ (lw_in (w := .laysStatic "GraspJudge" "TILT_Y" "[I") (List.mem_of_getElem? (i := 1263) (by decide +kernel)))) (hts _ (lw_in (w := .initialized "GraspJudge") (List.mem_of_getElem? (i := 1) (by decide +kernel)))) e3 hA
    | n + 4, h => exact absurd h (by omega)
  · exact va_Zof (hts _ (lw_in (w := .laysStatic "java/lang/String" "COMPACT_STRINGS" "Z") (List.mem_of_getElem? (i := 717) (by decide +kernel)))) (hts _ (lw_in (w := .initialized "java/lang/String") (List.mem_of_getElem? (i := 16) (by decide +kernel)))) (va_eqt (hs (.eq (.static "java/lang/String" "COMPACT_STRINGS" "Z") (.int 1)) (by decide +kernel))) hA
  · rcases hfm with h | h
    · exact Or.inl (va_Zof (hts _ (lw_in (w := .laysStatic "jdk/internal/util/Preconditions" "SIOOBE_FORMATTER" "Ljava/util/function/BiFunction;") (List.mem_of_getElem? (i := 733) (by decide +kernel)))) (hts _ (lw_in (w := .initialized "jdk/internal/util/Preconditions") (List.mem_of_getElem? (i := 18) (by decide +kernel)))) h hA)
    · exact Or.inr (va_Zof (hts _ (lw_in (w := .laysStatic "jdk/internal/util/Preconditions" "SIOOBE_FORMATTER" "Ljava/util/function/BiFunction;") (List.mem_of_getElem? (i := 733) (by decide +kernel)))) (hts _ (lw_in (w := .initialized "jdk/internal/util/Preconditions") (List.mem_of_getElem? (i := 18) (by decide +kernel)))) h hA)
  · match j, hj with
    | 0, _ => exact vk_R.of (hts _ (lw_in (w := .stringRef "GraspJudge$Orders" 56 "put") (List.mem_of_getElem? (i := 699) (by decide +kernel)))) ea0
    | 1, _ => exact vk_R.of (hts _ (lw_in (w := .stringRef "GraspJudge$Orders" 62 "take") (List.mem_of_getElem? (i := 756) (by decide +kernel)))) ea1
    | 2, _ => exact vk_R.of (hts _ (lw_in (w := .stringRef "GraspJudge$Orders" 64 "tread") (List.mem_of_getElem? (i := 757) (by decide +kernel)))) ea2
    | 3, _ => exact vk_R.of (hts _ (lw_in (w := .stringRef "GraspJudge$Orders" 66 "centre") (List.mem_of_getElem? (i := 758) (by decide +kernel)))) ea3
    | n + 4, h => exact absurd h (by omega)
  · have h1 := List.mem_filter.mp hw
    exact va_Nw.of (gj_isN_on h1.2) (hts w h1.1)
