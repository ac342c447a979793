/-! 07: THE PURE MACHINE IS SOUND (part 2): one instruction, then a run of them -/
def gj_lenf (i : Instr) : Option Nat := match i with
  | .bipush _ => some 2
  | .ldc _ => some 2
  | .iload _ => some 2
  | .lload _ => some 2
  | .aload _ => some 2
  | .istore _ => some 2
  | .lstore _ => some 2
  | .astore _ => some 2
  | .sipush _ => some 3
  | .ldc_w _ => some 3
  | .ldc2_w _ => some 3
  | .iinc _ _ => some 3
  | .goto _ => some 3
  | .ifCond _ _ => some 3
  | .if_icmp _ _ => some 3
  | .invokevirtual _ => some 3
  | .invokestatic _ => some 3
  | .getfield _ => some 3
  | .putfield _ => some 3
  | .getstatic _ => some 3
  | .tableswitch _ _ _ _ => none
  | .new _ => none
  | .invokespecial _ => none
  | _ => some 1
def gj_len (i : Instr) (n : Nat) : Prop := match gj_lenf i with
  | some k => n = k
  | none => True
def gj_fok (C : String) (idx ci k : Nat) : Prop := ∃ q : vw_C, vwCl[ci]? = some q ∧ k < q.2.2 ∧ (Cond.fieldLink C idx (q.2.1 k).1 (q.2.1 k).2.1 (q.2.1 k).2.2.1 ∈ gj_tb ∨ Cond.fieldLinkNest C idx (q.2.1 k).1 (q.2.1 k).2.1 (q.2.1 k).2.2.1 "GraspJudge" ∈ gj_tn)
/-- a call from a method M of the method M2, n parameters beside the receiver -/
def gj_mok (M M2 : gj_M) (idx n : Nat) : Prop := (Cond.methodLink M.1.cls idx M2.1 ∈ gj_tb ∨ Cond.methodLinkNest M.1.cls idx M2.1 "GraspJudge" ∈ gj_tn) ∧ Cond.code M2.1 (gj_cc M2) (gj_nL M2) (gj_ret M2) ∈ gj_tb ∧ Cond.initialized M2.1.cls ∈ gj_tb ∧ (M2.1.cls ≠ "java/lang/invoke/MethodHandle" ∧ M2.1.cls ≠ "java/lang/invoke/VarHandle" ∧ (parseMethodDescriptor M2.1.desc).map (fun d => d.parameters.length) = some n) ∧ ((gj_rm M2).frames + 1 ≤ (gj_rm M).frames ∧ 8 + (gj_nL M2 + 11) + (gj_rm M2).locals ≤ (gj_rm M).locals)
def gj_ci (C : String) (ci : Nat) : Prop := (∃ q : vw_C, vwCl[ci]? = some q ∧ q.1 = C) ∨ (ci = 50 ∧ C = "java/lang/String")
def gj_nat (M : gj_M) (idx : Nat) (y : MethodName) (C : String) : Prop := Cond.methodLink M.1.cls idx y ∈ gj_tb ∧ Cond.static y ∈ gj_tb ∧ Cond.initialized C ∈ gj_tb ∧ 1 ≤ (gj_rm M).frames ∧ 40 ≤ (gj_rm M).locals
def gj_lk (mt : Nat → gj_M) (M : gj_M) (pc : Nat) (i : Instr) (ax : Nat) : Prop := match i with
  | .ldc idx => (ax < 4294967296 ∧ Cond.constant M.1.cls idx (Int32.ofNat ax) ∈ gj_tb) ∨ ∃ j, j < 4 ∧ ax = 4294967296 + 132 + j ∧ M.1.cls = "GraspJudge$Orders" ∧ idx = (gj_tx.getD j (0, "")).1
  | .ldc_w idx => Cond.constant M.1.cls idx (Int32.ofNat ax) ∈ gj_tb
  | .ldc2_w idx => Cond.constantLong M.1.cls idx (Int64.ofNat ax) ∈ gj_tb
  | .goto off => (pc : Int) + off = (ax : Int)
  | .ifCond _ off => (pc : Int) + off = (ax : Int)
  | .if_icmp _ off => (pc : Int) + off = (ax : Int)
  | .tableswitch dflt lo hi offs => 0 ≤ (pc : Int) + dflt ∧ (∀ o ∈ offs.toList, 0 ≤ (pc : Int) + o) ∧ hi = lo + offs.size - 1
  | .ireturn => (ax = 0 ∧ gj_ret M = some .int) ∨ (ax = 1 ∧ gj_ret M = some .boolean) ∨ (ax = 2 ∧ gj_ret M = some .char) ∨ (ax = 3 ∧ gj_ret M = some .byte)
  | .lreturn => gj_ret M = some .long
  | .return_ => gj_ret M = none
  | .getfield idx => gj_fok M.1.cls idx (ax / 100) (ax % 100) ∨ (ax = 9000 ∧ Cond.fieldLink M.1.cls idx "java/lang/String" "value" "[B" ∈ gj_tb) ∨ (ax = 9001 ∧ Cond.fieldLink M.1.cls idx "java/lang/String" "coder" "B" ∈ gj_tb)
  | .putfield idx => gj_fok M.1.cls idx (ax / 100) (ax % 100)
  | .getstatic idx => (ax < 4 ∧ (Cond.fieldLink M.1.cls idx (gj_sn ax).1 (gj_sn ax).2.1 (gj_sn ax).2.2 ∈ gj_tb ∨ Cond.fieldLinkNest M.1.cls idx (gj_sn ax).1 (gj_sn ax).2.1 (gj_sn ax).2.2 "GraspJudge" ∈ gj_tn)) ∨ (ax = 4 ∧ Cond.fieldLink M.1.cls idx "java/lang/String" "COMPACT_STRINGS" "Z" ∈ gj_tb) ∨ (ax = 5 ∧ Cond.fieldLink M.1.cls idx "jdk/internal/util/Preconditions" "SIOOBE_FORMATTER" "Ljava/util/function/BiFunction;" ∈ gj_tb)
  | .invokevirtual idx => 1 ≤ ax % 100 ∧ gj_mok M (mt (ax / 100 % 1000)) idx (ax % 100 - 1) ∧ Cond.instanceMethod (mt (ax / 100 % 1000)).1 ∈ gj_tb ∧ Cond.selects (mt (ax / 100 % 1000)).1.cls (mt (ax / 100 % 1000)).1 (mt (ax / 100 % 1000)).1 ∈ gj_tb ∧ gj_ci (mt (ax / 100 % 1000)).1.cls (ax / 100000)
  | .invokestatic idx => (match ax / 100 % 1000 with
    | 900 => gj_nat M idx Lib.Math.max.name "java/lang/Math" ∧ Cond.code Lib.Math.max.name Lib.Math.max.code 2 (some .int) ∈ gj_tb
    | 901 => gj_nat M idx Lib.Math.min.name "java/lang/Math" ∧ Cond.code Lib.Math.min.name Lib.Math.min.code 2 (some .int) ∈ gj_tb
    | 902 => gj_nat M idx Lib.Math.abs.name "java/lang/Math" ∧ Cond.code Lib.Math.abs.name Lib.Math.abs.code 1 (some .int) ∈ gj_tb
    | 903 => gj_nat M idx Lib.MathLoose.abs_long.x "java/lang/Math" ∧ Cond.code Lib.MathLoose.abs_long.x Lib.MathLoose.abs_long.code 2 (some .long) ∈ gj_tb
    | 904 => gj_nat M idx arraycopyName "java/lang/System" ∧ Cond.native arraycopyName ∈ gj_tb
    | 905 => True
    | mid => gj_mok M (mt mid) idx (ax % 100) ∧ Cond.static (mt mid).1 ∈ gj_tb)
  | _ => True
def gj_tyf (ci : Nat) : Nat → FieldType := match ci with
  | 0 => tyX0
  | 1 => tyX1
  | 2 => tyX2
  | 3 => tyX3
  | 4 => tyX4
  | 5 => tyX5
  | 6 => tyX6
  | 7 => tyX7
  | 8 => tyX8
  | 9 => tyX9
  | 10 => tyX10
  | _ => tyX11
/-- what is known of the classes of vwCl -/
def gj_clF : Prop := ∀ (ci : Nat) (q : vw_C), vwCl[ci]? = some q → (∀ w ∈ u_ws q.1 q.2.1 q.2.2, w ∈ gj_tb) ∧ (∀ k, k < q.2.2 → parseFieldDescriptor (q.2.1 k).2.2.1 = some (gj_tyf ci k)) ∧ (∀ a, a < q.2.2 → ∀ b, b < q.2.2 → a ≠ b → (q.2.1 a).2.1 ≠ (q.2.1 b).2.1) ∧ q.2.2 = gj_nf ci ∧ ∀ k, k < q.2.2 → (gj_kd ci k = 0 → gj_tyf ci k = .int ∧ (q.2.1 k).2.2.2 = false) ∧ (gj_kd ci k = 1 → gj_tyf ci k = .long ∧ (q.2.1 k).2.2.2 = false) ∧ (gj_kd ci k = 3 → gj_tyf ci k = .boolean ∧ (q.2.1 k).2.2.2 = false)
def gj_ok (mt : Nat → gj_M) (M : gj_M) (q : gj_C) : Prop := decode (gj_cc M) q.1 = .ok (q.2.1, q.2.2.1) ∧ gj_len q.2.1 q.2.2.1 ∧ gj_lk mt M q.1 q.2.1 q.2.2.2
-- calls
theorem gj_lw_good : ∀ w ∈ gj_tb, goodWord w = true := fun w hw => (List.mem_filter.mp hw).2
theorem gj_blind {E : gj_E} {om : gj_Om} {SI : gj_I} {SJ : gj_J} {av : List Value} : FrameBlind (va_Pc av (gj_HH E om SI SJ)) := fun a U g mk q => by
  obtain ⟨q0, q1, qP, qK, qS⟩ := q
  exact ⟨q0, q1, qP, va_K.moved (u := U) (U := U.calling g mk a) (Vm.Alike.refl U.vm) qK, gj_Sta.same (s := U) (U := U.calling g mk a) rfl qS⟩
theorem gj_goodIn {M2 : gj_M} (h : Cond.code M2.1 (gj_cc M2) (gj_nL M2) (gj_ret M2) ∈ gj_tb) : GoodIn gj_tb (gj_ws M2) := fun w hw => by
  have hm : w ∈ gj_tb := by
    rcases List.mem_cons.mp hw with rfl | hw
    · exact h
    · exact hw
  exact ⟨hm, good_of_word (gj_lw_good w hm)⟩
section GjC
variable {p : Program} {l : Launch} {e : Env} {R : Room} {s : State} {m : MethodId} {args : Array Value} {below : List Frame} {meth : Method} {c : Code} {H : Heap} {locs : List Loc} {cells slots : Nat} {Qf : State → Prop}
theorem gj_cont {E : gj_E} {om : gj_Om} {Q : Option Value → gj_I → gj_J → Prop} {pc : Nat} {la : Array Slot} {st0 rest : List Value} {a : Array Value} (hr : va_Run p l e R s m args below meth c H locs cells slots 0 0 (F0 m pc la st0) rest (gj_Qc E om Q a) (gj_A E)) (hS : va_S (gj_A E) s.heap H locs)
    (kk : ∀ (r : Option Value) (SI : gj_I) (SJ : gj_J) (H1 : Heap) (locs1 : List Loc), Q r SI SJ → va_P (gj_D E) vwCl (gj_Wd E om SI SJ) H1 → va_S (gj_A E) s.heap H1 locs1 → W p l e R s m args below meth c H1 locs1 cells slots Qf (F0 m (pc + 3) la ((r.map (gj_rv E)).toList ++ rest))) : W p l e R s m args below meth c H locs cells slots Qf (F0 m pc la st0) := by
  intro T hT X
  obtain ⟨v, st₀, t, T', L, h0, X', hL, e1, e2, ⟨⟨r, SI, SJ, hv, hq, hz, hP, hK, hSt⟩, hF⟩, st⟩ := hr T hT X
  cases hv
  obtain ⟨hz2, hk2⟩ := hF
  rw [h0] at hz2 hk2
  obtain ⟨t2, a1, b1⟩ := kk r SI SJ T'.heap (locs ++ L) hq (by rw [e1]; exact hP)
    ⟨Nat.le_trans hS.1 (by rw [e1]; exact hz2), fun q h1 h2 => by rw [e1, hk2 q (Nat.lt_of_lt_of_le h1 hS.1) h2]; exact hS.2.1 q h1 h2, fun q hq => by
      rcases List.mem_append.mp hq with h | h
      · exact hS.2.2 q h
      · exact hL q h⟩ T' rfl X'
  exact ⟨t2, st t2 a1, b1⟩
end GjC
theorem gj_pop_s : ∀ (n : Nat) (As st : List Value) (k : List Value → List Value → Prop), gj_pop n As st k → ∃ B r, st = B.reverse ++ r ∧ B.length = n ∧ k (B ++ As) r
  | 0, As, st, k, h => ⟨[], st, rfl, rfl, h⟩
  | n + 1, As, [], k, h => h.elim
  | n + 1, As, v :: st, k, h => by
    obtain ⟨B, r, h1, h2, h3⟩ := gj_pop_s n (v :: As) st k h
    refine ⟨B ++ [v], r, ?_, by simp [h2], ?_⟩
    · rw [List.reverse_append]; simp [h1]
    · simpa using h3
theorem gj_cat_map (E : gj_E) (st : List Value) : ((st.map (gj_rv E)).map fun v => v.category).sum = gj_cat st := by
  unfold gj_cat
  rw [List.map_map]
  congr 1
  apply List.map_congr_left
  intro v _
  exact gj_rv_cat E v
theorem gj_oldE {E : gj_E} {s : State} {H : Heap} {locs : List Loc} (hS : va_S (gj_A E) s.heap H locs) (h : gj_Sta E s s.heap) {U : State} (hU : U.heap = H) (hW : s.WarmedH U.vm) : gj_Sta E U U.heap := by
  rw [hU]
  exact ((h.kept (fun a h1 h2 => hS.2.1 a h1 h2)).warm hW)
theorem gj_pre {E : gj_E} {om : gj_Om} {SI : gj_I} {SJ : gj_J} {s : State} {H : Heap} {locs : List Loc} {As : List Value} (hz : H.size = gj_b E + om.1) (hP : va_P (gj_D E) vwCl (gj_Wd E om SI SJ) H) (hS : va_S (gj_A E) s.heap H locs) (hK : va_K (gj_D E) vwCl (gj_ty E) s) (hSt : gj_Sta E s s.heap) : PreS s H (va_Pc (As.map (gj_rv E)) (gj_HH E om SI SJ)) (As.map (gj_rv E)) :=
  ⟨gj_blind, fun U hU hW => ⟨rfl, by rw [hU]; exact hz, by rw [hU]; exact hP, va_K.moved hW.alike hK, gj_oldE hS hSt hU hW⟩⟩
theorem gj_sz {p : Program} {l : Launch} {e : Env} {R : Room} {s : State} {m : MethodId} {args : Array Value} {below : List Frame} {meth : Method} {c : Code} {H : Heap} {locs : List Loc} {cells slots : Nat} {Qf : State → Prop} {g : JFrame} (h : H.size ≤ s.heap.size + cells → W p l e R s m args below meth c H locs cells slots Qf g) : W p l e R s m args below meth c H locs cells slots Qf g := fun T hT X => h (by rw [← hT]; exact X.heapSize) T hT X
-- the world behind a write
theorem gj_nb {j k : Nat} (h : j ≠ k) : Nat.beq j k = false := by
  cases hb : Nat.beq j k
  · rfl
  · exact absurd (Nat.eq_of_beq_eq_true hb) h
theorem gj_wrI {E : gj_E} {om : gj_Om} {SI : gj_I} {SJ : gj_J} {a k kd : Nat} {x : Int32} (hk : (gj_Y a).1 = kd) (hkd : kd = 0 ∨ kd = 1) : (gj_Wd E om SI SJ).set a (gj_b E + a, .inl ((if kd = 0 then gj_cI E else gj_cB E), (gj_Y a).2, .inl (upd (SI a) k x))) = gj_Wd E om (gj_u2 SI a k x) SJ := by
  refine gj_rs ?_ ?_
  · have : gj_u2 SI a k x a = upd (SI a) k x := by
      funext j
      unfold gj_u2 upd
      by_cases hj : j = k
      · subst hj; simp
      · have : Nat.beq j k = false := gj_nb hj
        simp [this, hj]
    rcases hkd with rfl | rfl
    · simp only [gj_cell, hk, this, if_true]
    · simp only [gj_cell, hk, this]; rfl
  · intro j hj
    have hb : Nat.beq j a = false := gj_nb hj
    have h1 : gj_u2 SI a k x j = SI j := by funext t; simp [gj_u2, hb]
    have h2 : gj_fs E om (gj_u2 SI a k x) SJ j (gj_Y j).2 = gj_fs E om SI SJ j (gj_Y j).2 := by
      unfold gj_fs; apply List.map_congr_left; intro t _; unfold gj_fv; rw [h1]
    unfold gj_cell; rw [h1, h2]
theorem gj_wrC {E : gj_E} {om : gj_Om} {SI : gj_I} {SJ : gj_J} {a : Nat} {f : Nat → Int32} (hk : (gj_Y a).1 = 0) : (gj_Wd E om SI SJ).set a (gj_b E + a, .inl (gj_cI E, (gj_Y a).2, .inl f)) = gj_Wd E om (gj_ua SI a f) SJ := by
  refine gj_rs ?_ ?_
  · have : gj_ua SI a f a = f := by
      funext j; unfold gj_ua; simp
    simp only [gj_cell, hk, this]
  · intro j hj
    have hb : Nat.beq j a = false := gj_nb hj
    have h1 : gj_ua SI a f j = SI j := by funext t; simp [gj_ua, hb]
    have h2 : gj_fs E om (gj_ua SI a f) SJ j (gj_Y j).2 = gj_fs E om SI SJ j (gj_Y j).2 := by
      unfold gj_fs; apply List.map_congr_left; intro t _; unfold gj_fv; rw [h1]
    unfold gj_cell; rw [h1, h2]
theorem gj_wrJ {E : gj_E} {om : gj_Om} {SI : gj_I} {SJ : gj_J} {a k : Nat} {x : Int64} (hk : (gj_Y a).1 = 2) : (gj_Wd E om SI SJ).set a (gj_b E + a, .inl (gj_cJ E, (gj_Y a).2, .inr (.inl (vp_updL (SJ a) k x)))) = gj_Wd E om SI (gj_w2 SJ a k x) := by
  refine gj_rs ?_ ?_
  · have : gj_w2 SJ a k x a = vp_updL (SJ a) k x := by
      funext j
      unfold gj_w2 vp_updL
      by_cases hj : j = k
      · subst hj; simp
      · have : Nat.beq j k = false := gj_nb hj
        simp [this, hj]
    simp only [gj_cell, hk, this]
  · intro j hj
    have hb : Nat.beq j a = false := gj_nb hj
    have h1 : gj_w2 SJ a k x j = SJ j := by funext t; simp [gj_w2, hb]
    have h2 : gj_fs E om SI (gj_w2 SJ a k x) j (gj_Y j).2 = gj_fs E om SI SJ j (gj_Y j).2 := by
      unfold gj_fs; apply List.map_congr_left; intro t _; unfold gj_fv; rw [h1]
    unfold gj_cell; rw [h1, h2]
theorem gj_cellO {E : gj_E} {om : gj_Om} {SI : gj_I} {SJ : gj_J} {o : Nat} (h : (gj_Y o).1 = 3) : gj_cell E om SI SJ o = .inr ((gj_Y o).2, gj_fs E om SI SJ o (gj_Y o).2) := by unfold gj_cell; rw [h]; rfl
theorem gj_wrFI {E : gj_E} {om : gj_Om} {SI : gj_I} {SJ : gj_J} {o k : Nat} {x : Int32} (ho : (gj_Y o).1 = 3) (hkd : gj_kd (gj_Y o).2 k = 0 ∨ gj_kd (gj_Y o).2 k = 3) : (gj_Wd E om SI SJ).set o (gj_b E + o, .inr ((gj_Y o).2, (gj_fs E om SI SJ o (gj_Y o).2).set k (.int x))) = gj_Wd E om (gj_u2 SI o k x) SJ := by
  refine gj_rs ?_ ?_
  · rw [gj_cellO ho]
    have : gj_fs E om (gj_u2 SI o k x) SJ o (gj_Y o).2 = (gj_fs E om SI SJ o (gj_Y o).2).set k (.int x) := by
      unfold gj_fs
      symm
      refine gj_rs ?_ ?_
      · rcases hkd with h | h <;> rw [h] <;> simp [gj_fv, gj_u2]
      · intro j hj
        have hb : Nat.beq j k = false := gj_nb hj
        unfold gj_fv
        rw [show gj_u2 SI o k x o j = SI o j by simp [gj_u2, hb]]
    rw [this]
  · intro j hj
    have hb : Nat.beq j o = false := gj_nb hj
    have h1 : gj_u2 SI o k x j = SI j := by funext t; simp [gj_u2, hb]
    have h2 : gj_fs E om (gj_u2 SI o k x) SJ j (gj_Y j).2 = gj_fs E om SI SJ j (gj_Y j).2 := by
      unfold gj_fs; apply List.map_congr_left; intro t _; unfold gj_fv; rw [h1]
    unfold gj_cell; rw [h1, h2]
theorem gj_wrFJ {E : gj_E} {om : gj_Om} {SI : gj_I} {SJ : gj_J} {o k : Nat} {x : Int64} (ho : (gj_Y o).1 = 3) (hkd : gj_kd (gj_Y o).2 k = 1) : (gj_Wd E om SI SJ).set o (gj_b E + o, .inr ((gj_Y o).2, (gj_fs E om SI SJ o (gj_Y o).2).set k (.long x))) = gj_Wd E om SI (gj_w2 SJ o k x) := by
  refine gj_rs ?_ ?_
  · rw [gj_cellO ho]
    have : gj_fs E om SI (gj_w2 SJ o k x) o (gj_Y o).2 = (gj_fs E om SI SJ o (gj_Y o).2).set k (.long x) := by
      unfold gj_fs
      symm
      refine gj_rs ?_ ?_
      · rw [hkd]; simp [gj_fv, gj_w2]
      · intro j hj
        have hb : Nat.beq j k = false := gj_nb hj
        unfold gj_fv
        rw [show gj_w2 SJ o k x o j = SJ o j by simp [gj_w2, hb]]
    rw [this]
  · intro j hj
    have hb : Nat.beq j o = false := gj_nb hj
    have h1 : gj_w2 SJ o k x j = SJ j := by funext t; simp [gj_w2, hb]
    have h2 : gj_fs E om SI (gj_w2 SJ o k x) j (gj_Y j).2 = gj_fs E om SI SJ j (gj_Y j).2 := by
      unfold gj_fs; apply List.map_congr_left; intro t _; unfold gj_fv; rw [h1]
    unfold gj_cell; rw [h1, h2]
