/-! 06: THE PURE MACHINE IS SOUND (part 1): words of judgements -/
abbrev gj_M : Type := MethodName × ByteArray × Nat × Option FieldType × Nat × Nat × List gj_C
def gj_cc (M : gj_M) : ByteArray := M.2.1
def gj_nL (M : gj_M) : Nat := M.2.2.1
def gj_ret (M : gj_M) : Option FieldType := M.2.2.2.1
def gj_rm (M : gj_M) : Room := { frames := M.2.2.2.2.1, cells := 0, slots := 0, locals := M.2.2.2.2.2.1 }
def gj_tb : List Cond := lw_tbl.filter goodWord
def gj_isN (w : Cond) : Bool := match w with
  | .fieldLinkNest _ _ _ _ _ _ => true
  | .methodLinkNest _ _ _ _ => true
  | _ => false
def gj_tn : List Cond := lw_tbl.filter gj_isN
def gj_ws (M : gj_M) : List Cond := .code M.1 (gj_cc M) (gj_nL M) (gj_ret M) :: gj_tb
def gj_snm : List (String × String × String) := [("GraspJudge", "ROUGH_M", "[I"), ("GraspJudge", "ROUGH_Q", "[I"), ("GraspJudge", "TILT_X", "[I"), ("GraspJudge", "TILT_Y", "[I")]
def gj_sn (j : Nat) : String × String × String := gj_snm.getD j ("", "", "")
def gj_tx : List (Nat × String) := [(56, "put"), (62, "take"), (64, "tread"), (66, "centre")]
def gj_Sta (E : gj_E) (U : State) (H : Heap) : Prop :=
  (∀ j, gj_stk j = 0 → va_T .int (gj_sa E j) (gj_stn E j) (fun i => .int (gj_stf E j i)) (gj_A E) U H) ∧
  (∀ j, gj_stk j = 1 → va_T .byte (gj_sa E j) (gj_stn E j) (fun i => .int (gj_stf E j i)) (gj_A E) U H) ∧
  (∀ j, j < 4 → va_O "java/lang/String" (gj_sa E (4 + j)) (gj_A E) U H ∧ va_OF "java/lang/String" "coder" "B" (.int 0) (gj_sa E (4 + j)) (gj_A E) U H ∧ va_OF "java/lang/String" "value" "[B" (.ref (gj_sa E (8 + j))) (gj_sa E (4 + j)) (gj_A E) U H) ∧
  (∀ j, j < 4 → va_Z (gj_sn j).1 (gj_sn j).2.1 (gj_sn j).2.2 (.ref (gj_sa E j)) (gj_A E) U H) ∧
  (va_Z "java/lang/String" "COMPACT_STRINGS" "Z" (.int 1) (gj_A E) U H ∧ (va_Z "jdk/internal/util/Preconditions" "SIOOBE_FORMATTER" "Ljava/util/function/BiFunction;" .null (gj_A E) U H ∨ va_Z "jdk/internal/util/Preconditions" "SIOOBE_FORMATTER" "Ljava/util/function/BiFunction;" (.ref (gj_sa E 15)) (gj_A E) U H)) ∧
  (∀ j, j < 4 → vk_R "GraspJudge$Orders" (gj_tx.getD j (0, "")).1 (gj_tx.getD j (0, "")).2 (gj_sa E (4 + j)) U) ∧
  ∀ w ∈ gj_tn, va_Nw w U
theorem gj_isN_warm {w : Cond} (hw : gj_isN w = true) {s U : State} (hW : s.WarmedH U.vm) (h : va_Nw w s) : va_Nw w U := by
  unfold gj_isN at hw
  split at hw
  · exact va_Nw.warmF hW h
  · exact va_Nw.warmM hW h
  · cases hw
theorem gj_isN_same {w : Cond} (hw : gj_isN w = true) {s U : State} (hv : U.vm = s.vm) (h : va_Nw w s) : va_Nw w U := by
  unfold gj_isN at hw
  split at hw
  · exact va_Nw.same rfl hv.symm h
  · exact va_Nw.same rfl hv.symm h
  · cases hw
theorem gj_Sta.kept {E : gj_E} {U : State} {H H1 : Heap} (h : gj_Sta E U H) (hq : ∀ a : Nat, a < H.size → ¬ gj_A E a → H1[a]? = H[a]?) : gj_Sta E U H1 :=
  ⟨fun j k => (h.1 j k).kept hq, fun j k => (h.2.1 j k).kept hq, fun j k => ⟨(h.2.2.1 j k).1.kept hq, (h.2.2.1 j k).2.1.kept hq, (h.2.2.1 j k).2.2.kept hq⟩, fun j k => (h.2.2.2.1 j k).kept hq, ⟨h.2.2.2.2.1.1.kept hq, h.2.2.2.2.1.2.imp (fun z => z.kept hq) (fun z => z.kept hq)⟩, ⟨h.2.2.2.2.2.1, h.2.2.2.2.2.2⟩⟩
theorem gj_Sta.warm {E : gj_E} {s U : State} {H : Heap} (hW : s.WarmedH U.vm) (h : gj_Sta E s H) : gj_Sta E U H :=
  ⟨fun j k => (h.1 j k).moved hW.alike, fun j k => (h.2.1 j k).moved hW.alike, fun j k => ⟨(h.2.2.1 j k).1.moved hW.alike, (h.2.2.1 j k).2.1.moved hW.alike, (h.2.2.1 j k).2.2.moved hW.alike⟩, fun j k => (h.2.2.2.1 j k).moved hW.alike, ⟨h.2.2.2.2.1.1.moved hW.alike, h.2.2.2.2.1.2.imp (fun z => z.moved hW.alike) (fun z => z.moved hW.alike)⟩, ⟨fun j k => (h.2.2.2.2.2.1 j k).warm hW, fun w hw => gj_isN_warm (List.mem_filter.mp hw).2 hW (h.2.2.2.2.2.2 w hw)⟩⟩
theorem gj_Sta.same {E : gj_E} {s U : State} {H : Heap} (hv : U.vm = s.vm) (h : gj_Sta E s H) : gj_Sta E U H := by
  have hA : s.vm.Alike U.vm := by rw [hv]; exact Vm.Alike.refl s.vm
  exact ⟨fun j k => (h.1 j k).moved hA, fun j k => (h.2.1 j k).moved hA, fun j k => ⟨(h.2.2.1 j k).1.moved hA, (h.2.2.1 j k).2.1.moved hA, (h.2.2.1 j k).2.2.moved hA⟩, fun j k => (h.2.2.2.1 j k).moved hA, ⟨h.2.2.2.2.1.1.moved hA, h.2.2.2.2.1.2.imp (fun z => z.moved hA) (fun z => z.moved hA)⟩, ⟨fun j k => (h.2.2.2.2.2.1 j k).same hv, fun w hw => gj_isN_same (List.mem_filter.mp hw).2 hv (h.2.2.2.2.2.2 w hw)⟩⟩
def gj_HH (E : gj_E) (om : gj_Om) (SI : gj_I) (SJ : gj_J) (U : State) : Prop := U.heap.size = gj_b E + om.1 ∧ va_P (gj_D E) vwCl (gj_Wd E om SI SJ) U.heap ∧ va_K (gj_D E) vwCl (gj_ty E) U ∧ gj_Sta E U U.heap
def gj_Qc (E : gj_E) (om : gj_Om) (Q : Option Value → gj_I → gj_J → Prop) : Array Value → State → Outcome → State → Prop := fun _ st oc t => (∃ (r : Option Value) (SI : gj_I) (SJ : gj_J), oc = .returned (r.map (gj_rv E)) ∧ Q r SI SJ ∧ gj_HH E om SI SJ t) ∧ va_F (gj_A E) st t
def gj_Do (E : gj_E) (om : gj_Om) (M : gj_M) (As : List Value) (SI : gj_I) (SJ : gj_J) (Q : Option Value → gj_I → gj_J → Prop) : Prop := Met E.1 M.1 (gj_ws M) (gj_rm M) (va_Pc (As.map (gj_rv E)) (gj_HH E om SI SJ)) (gj_Qc E om Q) 0 0 (gj_A E)
def gj_La (E : gj_E) (la : Array Slot) (nL : Nat) (ls : gj_O) : Prop := la.size = nL ∧ ls.length = nL ∧ lv_wf la ∧ ∀ (i : Nat) (v : Value), ls[i]? = some (some v) → la[i]? = some (.val (gj_rv E v))
abbrev gj_X : Type := Room × Nat × Nat × (State → Prop)
def gj_F (E : gj_E) (om : gj_Om) (M : gj_M) (X : gj_X) (p : Program) (s : State) (m : MethodId) (args : Array Value) (meth : Method) (c : Code) : Prop :=
  p.tables.exec = Jvm.exec ∧ c.code = gj_cc M ∧ c.maxLocals = gj_nL M ∧ s.vm.findClass M.1.cls = some m.cls ∧ (∀ w ∈ gj_tb, w.before args s = true) ∧ meth.sig.returnType = gj_ret M ∧ meth.locks = false ∧ va_K (gj_D E) vwCl (gj_ty E) s ∧ gj_Sta E s s.heap ∧ s.heap.size + X.2.1 = gj_b E + om.1 ∧ X.1.frames = (gj_rm M).frames ∧ X.1.locals = (gj_rm M).locals ∧ X.2.1 ≤ X.1.cells ∧ X.2.2.1 ≤ X.1.slots ∧ gj_b E ≤ s.heap.size
def gj_G (E : gj_E) (om : gj_Om) (M : gj_M) (p : Program) (e : Env) (s : State) (m : MethodId) (args : Array Value) (below : List Frame) (meth : Method) (c : Code) (X : gj_X) (pc : Nat) (ls : gj_O) (st : List Value) (SI : gj_I) (SJ : gj_J) : Prop :=
  ∀ (H : Heap) (locs : List Loc) (la : Array Slot), va_P (gj_D E) vwCl (gj_Wd E om SI SJ) H → va_S (gj_A E) s.heap H locs → gj_La E la (gj_nL M) ls → W p E.1 e X.1 s m args below meth c H locs X.2.1 X.2.2.1 X.2.2.2 (F0 m pc la (st.map (gj_rv E)))
/-- the end of a method's body, with Q of the answer and of the world -/
def gj_RT (E : gj_E) (om : gj_Om) (M : gj_M) (p : Program) (e : Env) (s : State) (m : MethodId) (args : Array Value) (below : List Frame) (meth : Method) (c : Code) (X : gj_X) (Q : Option Value → gj_I → gj_J → Prop) : Prop :=
  ∀ (r : Option Value) (SI : gj_I) (SJ : gj_J) (H : Heap) (locs : List Loc) (la : Array Slot) (pc : Nat) (i : Instr), Q r SI SJ → va_P (gj_D E) vwCl (gj_Wd E om SI SJ) H → va_S (gj_A E) s.heap H locs → decode (gj_cc M) pc = .ok (i, 1) → ((i = .ireturn ∧ ∃ (x : Int32) (ty : FieldType), r = some (.int x) ∧ gj_ret M = some ty ∧ narrow ty (.int x) = .int x) ∨ (i = .lreturn ∧ ∃ x : Int64, r = some (.long x) ∧ gj_ret M = some .long) ∨ (i = .return_ ∧ r = none ∧ gj_ret M = none)) → W p E.1 e X.1 s m args below meth c H locs X.2.1 X.2.2.1 X.2.2.2 (F0 m pc la (r.map (gj_rv E)).toList)
def gj_Goes (E : gj_E) (om : gj_Om) (M : gj_M) (pc : Nat) (ls : gj_O) (st : List Value) (SI : gj_I) (SJ : gj_J) (Q : Option Value → gj_I → gj_J → Prop) : Prop :=
  ∀ (p : Program) (e : Env) (s : State) (m : MethodId) (args : Array Value) (below : List Frame) (meth : Method) (c : Code) (X : gj_X), gj_F E om M X p s m args meth c → gj_RT E om M p e s m args below meth c X Q → gj_G E om M p e s m args below meth c X pc ls st SI SJ
-- lists by ranges
theorem gj_rg {α : Type} {n : Nat} {f : Nat → α} {k : Nat} (h : k < n) : ((List.range n).map f)[k]? = some (f k) := by
  rw [List.getElem?_map, List.getElem?_range h]; rfl
theorem gj_rs {α : Type} {n : Nat} {f g : Nat → α} {k : Nat} {v : α} (h1 : g k = v) (h2 : ∀ j, j ≠ k → g j = f j) : ((List.range n).map f).set k v = (List.range n).map g := by
  apply List.ext_getElem?
  intro j
  rw [List.getElem?_set]
  by_cases hj : k = j
  · subst hj
    rw [if_pos rfl]
    by_cases hn : k < n
    · rw [if_pos (by simpa using hn), gj_rg hn, h1]
    · rw [if_neg (by simpa using hn)]
      symm; apply List.getElem?_eq_none; simpa using hn
  · rw [if_neg hj]
    by_cases hn : j < n
    · rw [gj_rg hn, gj_rg hn, h2 j (fun q => hj q.symm)]
    · rw [List.getElem?_eq_none (by simpa using hn), List.getElem?_eq_none (by simpa using hn)]
theorem gj_at {E : gj_E} {om : gj_Om} {SI : gj_I} {SJ : gj_J} {o : Nat} (h : o < om.1) : (gj_Wd E om SI SJ)[o]? = some (gj_b E + o, gj_cell E om SI SJ o) := gj_rg h
theorem gj_ap (E : gj_E) (om : gj_Om) (SI : gj_I) (SJ : gj_J) : va_D (gj_A E) (gj_Wd E om SI SJ) := by
  have key : ∀ (i : Nat) (p : Nat × va_E), (gj_Wd E om SI SJ)[i]? = some p → p.1 = gj_b E + i := by
    intro i p hp
    by_cases hi : i < om.1
    · rw [gj_at hi] at hp; cases hp; rfl
    · rw [show (gj_Wd E om SI SJ)[i]? = none from List.getElem?_eq_none (by simpa [gj_Wd] using hi)] at hp; cases hp
  refine ⟨fun i j p q hp hq h => ?_, fun k q hk => ?_⟩
  · have a := key i p hp; have b := key j q hq; omega
  · show gj_b E ≤ q.1
    rw [key k q hk]; exact Nat.le_add_right _ _
-- the stack's shapes
theorem gj_i1_s {st : List Value} {k : Int32 → List Value → Prop} (h : gj_i1 st k) : ∃ x r, st = .int x :: r ∧ k x r := by
  unfold gj_i1 at h; split at h
  · exact ⟨_, _, rfl, h⟩
  · exact h.elim
theorem gj_i2_s {st : List Value} {k : Int32 → Int32 → List Value → Prop} (h : gj_i2 st k) : ∃ x y r, st = .int y :: .int x :: r ∧ k x y r := by
  unfold gj_i2 at h; split at h
  · exact ⟨_, _, _, rfl, h⟩
  · exact h.elim
theorem gj_l1_s {st : List Value} {k : Int64 → List Value → Prop} (h : gj_l1 st k) : ∃ x r, st = .long x :: r ∧ k x r := by
  unfold gj_l1 at h; split at h
  · exact ⟨_, _, rfl, h⟩
  · exact h.elim
theorem gj_l2_s {st : List Value} {k : Int64 → Int64 → List Value → Prop} (h : gj_l2 st k) : ∃ x y r, st = .long y :: .long x :: r ∧ k x y r := by
  unfold gj_l2 at h; split at h
  · exact ⟨_, _, _, rfl, h⟩
  · exact h.elim
theorem gj_li_s {st : List Value} {k : Int64 → Int32 → List Value → Prop} (h : gj_li st k) : ∃ x y r, st = .int y :: .long x :: r ∧ k x y r := by
  unfold gj_li at h; split at h
  · exact ⟨_, _, _, rfl, h⟩
  · exact h.elim
theorem gj_r1_s {st : List Value} {k : Nat → List Value → Prop} (h : gj_r1 st k) : ∃ (x : Nat) (r : List Value), st = .ref x :: r ∧ k x r := by
  unfold gj_r1 at h; split at h
  · exact ⟨_, _, rfl, h⟩
  · exact h.elim
theorem gj_ir_s {st : List Value} {k : Int32 → Nat → List Value → Prop} (h : gj_ir st k) : ∃ (i : Int32) (a : Nat) (r : List Value), st = .int i :: .ref a :: r ∧ k i a r := by
  unfold gj_ir at h; split at h
  · exact ⟨_, _, _, rfl, h⟩
  · exact h.elim
theorem gj_gi_s {ls : gj_O} {i : Nat} {k : Int32 → Prop} (h : gj_gi ls i k) : ∃ x, ls[i]? = some (some (.int x)) ∧ k x := by
  unfold gj_gi at h; split at h
  · rename_i x e; exact ⟨x, e, h⟩
  · exact h.elim
theorem gj_gl_s {ls : gj_O} {i : Nat} {k : Int64 → Prop} (h : gj_gl ls i k) : ∃ x, ls[i]? = some (some (.long x)) ∧ k x := by
  unfold gj_gl at h; split at h
  · rename_i x e; exact ⟨x, e, h⟩
  · exact h.elim
theorem gj_ga_s {ls : gj_O} {i : Nat} {k : Nat → Prop} (h : gj_ga ls i k) : ∃ (x : Nat), ls[i]? = some (some (.ref x)) ∧ k x := by
  unfold gj_ga at h; split at h
  · rename_i x e; exact ⟨x, e, h⟩
  · exact h.elim
theorem gj_if {c : Bool} {P : Prop} (h : bif c then P else False) : c = true ∧ P := by
  cases c
  · exact h.elim
  · exact ⟨rfl, h⟩
theorem gj_rv_cat (E : gj_E) (v : Value) : (gj_rv E v).category = v.category := by cases v <;> rfl
theorem gj_c2_cat (v : Value) : gj_c2 v = true ↔ v.category = 2 := by cases v <;> simp [gj_c2, Value.category]
-- locals
def gj_lv (E : gj_E) (ls : gj_O) : List (Nat × Value) := (List.range ls.length).filterMap (fun i => match ls[i]? with
  | some (some v) => some (i, gj_rv E v)
  | _ => none)
theorem gj_lv_mem {E : gj_E} {ls : gj_O} {i : Nat} {v : Value} (h : ls[i]? = some (some v)) : (i, gj_rv E v) ∈ gj_lv E ls := by
  have hi : i < ls.length := by
    rcases Nat.lt_or_ge i ls.length with h1 | h1
    · exact h1
    · rw [List.getElem?_eq_none h1] at h; cases h
  exact List.mem_filterMap.mpr ⟨i, List.mem_range.mpr hi, by simp only [h]⟩
theorem gj_lv_inv {E : gj_E} {ls : gj_O} {q : Nat × Value} (h : q ∈ gj_lv E ls) : ∃ v, ls[q.1]? = some (some v) ∧ q.2 = gj_rv E v := by
  obtain ⟨i, -, hi⟩ := List.mem_filterMap.mp h
  split at hi
  · rename_i v e; cases hi; exact ⟨v, e, rfl⟩
  · cases hi
theorem gj_La.has {E : gj_E} {la : Array Slot} {nL : Nat} {ls : gj_O} (h : gj_La E la nL ls) : lv_has la nL (gj_lv E ls) := ⟨h.1, h.2.2.1, fun q hq => by
  obtain ⟨v, h1, h2⟩ := gj_lv_inv hq
  rw [h2]; exact h.2.2.2 _ _ h1⟩
theorem gj_kl_len (ls : gj_O) (i : Nat) : (gj_kl ls i).length = ls.length := by
  unfold gj_kl
  cases i with
  | zero => rfl
  | succ j =>
    dsimp only
    split
    · rename_i v _; cases gj_c2 v <;> simp
    · rfl
theorem gj_kl_get {ls : gj_O} {i j : Nat} {w : Value} (h : (gj_kl ls i)[j]? = some (some w)) : ls[j]? = some (some w) ∧ ¬ (j + 1 = i ∧ w.category = 2) := by
  unfold gj_kl at h
  cases i with
  | zero => exact ⟨h, fun q => by have := q.1; omega⟩
  | succ t =>
    dsimp only at h
    split at h
    · rename_i v e
      cases hc : gj_c2 v
      · rw [hc] at h
        replace h : ls[j]? = some (some w) := h
        refine ⟨h, fun q => ?_⟩
        have ht : j = t := by omega
        subst ht
        rw [e] at h; cases h
        rw [(gj_c2_cat _).mpr q.2] at hc; cases hc
      · rw [hc] at h
        have h : (ls.set t none)[j]? = some (some w) := h
        rw [List.getElem?_set] at h
        by_cases ht : t = j
        · rw [if_pos ht] at h; split at h <;> cases h
        · rw [if_neg ht] at h; exact ⟨h, fun q => ht (by omega)⟩
    · rename_i e
      refine ⟨h, fun q => ?_⟩
      have ht : j = t := by omega
      subst ht
      exact e _ h
theorem gj_La.st1 {E : gj_E} {la' : Array Slot} {nL : Nat} {ls : gj_O} {i : Nat} {v : Value} (hlen : ls.length = nL) (h : lv_has la' nL ((i, gj_rv E v) :: (gj_lv E ls).filter (fun q => !(q.1 == i) && !(q.1 + 1 == i && q.2.category == 2)))) : gj_La E la' nL ((gj_kl ls i).set i (some v)) := by
  refine ⟨h.1, by rw [List.length_set, gj_kl_len, hlen], h.2.1, fun j w hj => ?_⟩
  rw [List.getElem?_set] at hj
  by_cases hi : i = j
  · subst hi
    rw [if_pos rfl] at hj
    split at hj
    · cases hj; exact h.2.2 (i, gj_rv E v) List.mem_cons_self
    · cases hj
  · rw [if_neg hi] at hj
    obtain ⟨h1, h2⟩ := gj_kl_get hj
    refine h.2.2 (j, gj_rv E w) (List.mem_cons_of_mem _ (List.mem_filter.mpr ⟨gj_lv_mem h1, ?_⟩))
    simp only [Bool.and_eq_true, Bool.not_eq_true', beq_eq_false_iff_ne, ne_eq, Bool.and_eq_false_iff, gj_rv_cat]
    refine ⟨fun q => hi q.symm, ?_⟩
    by_cases hq : j + 1 = i
    · exact Or.inr (fun z => h2 ⟨hq, z⟩)
    · exact Or.inl hq
theorem gj_La.st2 {E : gj_E} {la' : Array Slot} {nL : Nat} {ls : gj_O} {i : Nat} {v : Value} (hlen : ls.length = nL) (h : lv_has la' nL ((i, gj_rv E v) :: (gj_lv E ls).filter (fun q => !(q.1 == i) && (!(q.1 == i + 1) && !(q.1 + 1 == i && q.2.category == 2))))) : gj_La E la' nL (((gj_kl ls i).set i (some v)).set (i + 1) none) := by
  refine ⟨h.1, by rw [List.length_set, List.length_set, gj_kl_len, hlen], h.2.1, fun j w hj => ?_⟩
  rw [List.getElem?_set] at hj
  by_cases hi1 : i + 1 = j
  · rw [if_pos hi1] at hj; split at hj <;> cases hj
  rw [if_neg hi1, List.getElem?_set] at hj
  by_cases hi : i = j
  · subst hi
    rw [if_pos rfl] at hj
    split at hj
    · cases hj; exact h.2.2 (i, gj_rv E v) List.mem_cons_self
    · cases hj
  · rw [if_neg hi] at hj
    obtain ⟨h1, h2⟩ := gj_kl_get hj
    refine h.2.2 (j, gj_rv E w) (List.mem_cons_of_mem _ (List.mem_filter.mpr ⟨gj_lv_mem h1, ?_⟩))
    simp only [Bool.and_eq_true, Bool.not_eq_true', beq_eq_false_iff_ne, ne_eq, Bool.and_eq_false_iff, gj_rv_cat]
    refine ⟨fun q => hi q.symm, fun q => hi1 q.symm, ?_⟩
    by_cases hq : j + 1 = i
    · exact Or.inr (fun z => h2 ⟨hq, z⟩)
    · exact Or.inl hq
