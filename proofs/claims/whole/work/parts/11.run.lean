/-! 11: THE PURE MACHINE IS SOUND (part 6): runs and methods -/
def gj_seq : List gj_C → Bool
  | [] => true
  | [_] => true
  | q :: q2 :: cs => Nat.beq q2.1 (q.1 + q.2.2.1) && gj_seq (q2 :: cs)
def gj_cd (M : gj_M) : List gj_C := M.2.2.2.2.2.2
def gj_okM (mt : Nat → gj_M) (M : gj_M) : Prop := plainName M.1.cls = true ∧ gj_seq (gj_cd M) = true ∧ ∀ q ∈ gj_cd M, gj_ok mt M q
def gj_from (cd : List gj_C) (pc : Nat) : List gj_C := cd.dropWhile (fun q => !Nat.beq q.1 pc)
section GjV
variable {E : gj_E} {om : gj_Om} {mt : Nat → gj_M} {M : gj_M} {Q : Option Value → gj_I → gj_J → Prop} {X : gj_X}
theorem gj_run_s (hcl : gj_clF) {p : Program} {e : Env} {s : State} {m : MethodId} {args : Array Value} {below : List Frame} {meth : Method} {c : Code} {K : Nat → gj_O → List Value → gj_I → gj_J → Prop} (F : gj_F E om M X p s m args meth c) (hT : gj_RT E om M p e s m args below meth c X Q) (hK : ∀ t ls st SI SJ, K t ls st SI SJ → gj_G E om M p e s m args below meth c X t ls st SI SJ) :
    ∀ (cs : List gj_C), (∀ q ∈ cs, gj_ok mt M q) → gj_seq cs = true → ∀ (ls : gj_O) (st : List Value) (SI : gj_I) (SJ : gj_J), gj_wp E om (fun mid => gj_Do E om (mt mid)) K Q cs ls st SI SJ → ∀ q cs', cs = q :: cs' → gj_G E om M p e s m args below meth c X q.1 ls st SI SJ
  | [], _, _, _, _, _, _, _, _, _, h => by cases h
  | q :: cs, h1, h2, ls, st, SI, SJ, h3, q', cs', h4 => by
    cases h4
    have h3 : gj_step E om (fun mid => gj_Do E om (mt mid)) K Q (gj_wp E om (fun mid => gj_Do E om (mt mid)) K Q cs) q.1 q.2.1 q.2.2.2 ls st SI SJ := h3
    refine gj_step_s (n := q.2.2.1) hcl F hT (h1 q List.mem_cons_self) ?_ hK h3
    intro ls st SI SJ h5
    cases cs with
    | nil => exact h5.elim
    | cons q2 cs =>
      have h6 : Nat.beq q2.1 (q.1 + q.2.2.1) = true ∧ gj_seq (q2 :: cs) = true := by simpa [gj_seq] using h2
      have h7 := gj_run_s hcl F hT hK (q2 :: cs) (fun x hx => h1 x (List.mem_cons_of_mem _ hx)) h6.2 ls st SI SJ h5 q2 cs rfl
      rw [Nat.eq_of_beq_eq_true h6.1] at h7
      exact h7
theorem gj_seq_drop (f : gj_C → Bool) : ∀ (cs : List gj_C), gj_seq cs = true → gj_seq (cs.dropWhile f) = true
  | [], _ => rfl
  | [q], _ => by
    rw [List.dropWhile_cons]
    split <;> rfl
  | q :: q2 :: cs, h => by
    have h6 : Nat.beq q2.1 (q.1 + q.2.2.1) = true ∧ gj_seq (q2 :: cs) = true := by simpa [gj_seq] using h
    rw [List.dropWhile_cons]
    split
    · exact gj_seq_drop f (q2 :: cs) h6.2
    · exact h
theorem gj_from_pc (pc : Nat) : ∀ (cs : List gj_C) (q : gj_C) (cs' : List gj_C), gj_from cs pc = q :: cs' → q.1 = pc
  | [], _, _, h => by cases h
  | x :: cs, q, cs', h => by
    unfold gj_from at h
    rw [List.dropWhile_cons] at h
    split at h
    · exact gj_from_pc pc cs q cs' h
    · rename_i hx
      have h8 : x = q := by injection h
      subst h8
      cases hb : Nat.beq x.1 pc
      · rw [hb] at hx; exact absurd rfl hx
      · exact Nat.eq_of_beq_eq_true hb
/-- THE RULE: a method stands at pc; what the machine asks of the run from there, where every jump may be taken as known -/
theorem gj_go (hcl : gj_clF) (hM : gj_okM mt M) {pc : Nat} {ls : gj_O} {st : List Value} {SI : gj_I} {SJ : gj_J} (h : gj_wp E om (fun mid => gj_Do E om (mt mid)) (fun t ls st SI SJ => gj_Goes E om M t ls st SI SJ Q) Q (gj_from (gj_cd M) pc) ls st SI SJ) : gj_Goes E om M pc ls st SI SJ Q := by
  intro p e s m args below meth c X F hT
  cases hc : gj_from (gj_cd M) pc with
  | nil => rw [hc] at h; exact h.elim
  | cons q cs =>
    have h2 := gj_run_s (p := p) (e := e) (s := s) (m := m) (args := args) (below := below) (meth := meth) (c := c) (X := X) (mt := mt) hcl F hT (fun t ls st SI SJ hk => hk p e s m args below meth c X F hT) (gj_from (gj_cd M) pc) (fun x hx => hM.2.2 x ((List.dropWhile_sublist _).subset hx)) (gj_seq_drop _ _ hM.2.1) ls st SI SJ h q cs hc
    rw [gj_from_pc pc _ _ _ hc] at h2
    exact h2
def gj_fl (As : List Value) : gj_O := As.flatMap (fun v => bif gj_c2 v then [some v, none] else [some v])
def gj_ent (As : List Value) (nL : Nat) : gj_O := gj_fl As ++ List.replicate (nL - (gj_fl As).length) none
theorem gj_fl_lv (E : gj_E) : ∀ (As : List Value) (k i : Nat) (v : Value), (gj_fl As)[i]? = some (some v) → (k + i, gj_rv E v) ∈ lv_args k (As.map (gj_rv E))
  | [], _, _, _, h => by simp [gj_fl] at h
  | a :: As, k, i, v, h => by
    show (k + i, gj_rv E v) ∈ (k, gj_rv E a) :: lv_args (if (gj_rv E a).category = 2 then k + 2 else k + 1) (As.map (gj_rv E))
    rw [gj_rv_cat]
    have e1 : gj_fl (a :: As) = (bif gj_c2 a then [some a, none] else [some a]) ++ gj_fl As := by simp [gj_fl]
    rw [e1] at h
    cases hc : gj_c2 a
    · rw [hc] at h
      have hn : ¬ a.category = 2 := fun q => by rw [(gj_c2_cat a).mpr q] at hc; cases hc
      rw [if_neg hn]
      cases i with
      | zero => simp at h; subst h; exact List.mem_cons_self
      | succ i =>
        have h : (gj_fl As)[i]? = some (some v) := by simpa using h
        have := gj_fl_lv E As (k + 1) i v h
        rw [show k + 1 + i = k + (i + 1) by omega] at this
        exact List.mem_cons_of_mem _ this
    · rw [hc] at h
      rw [if_pos ((gj_c2_cat a).mp hc)]
      match i, h with
      | 0, h => simp at h; subst h; exact List.mem_cons_self
      | 1, h => simp at h
      | i + 2, h =>
        have h : (gj_fl As)[i]? = some (some v) := by simpa using h
        have := gj_fl_lv E As (k + 2) i v h
        rw [show k + 2 + i = k + (i + 2) by omega] at this
        exact List.mem_cons_of_mem _ this
theorem gj_fl_len (E : gj_E) : ∀ As : List Value, (lg_sl (As.map (gj_rv E))).length = (gj_fl As).length
  | [] => rfl
  | a :: As => by
    have := gj_fl_len E As
    simp only [lg_sl, gj_fl, List.map_cons, List.flatMap_cons, List.length_append, gj_rv_cat] at this ⊢
    rw [this]
    cases hc : gj_c2 a
    · have hn : ¬ a.category = 2 := fun q => by rw [(gj_c2_cat a).mpr q] at hc; cases hc
      rw [if_neg hn]; rfl
    · rw [if_pos ((gj_c2_cat a).mp hc)]; rfl
theorem gj_RT_met {p : Program} {e : Env} {s : State} {m : MethodId} {args : Array Value} {below : List Frame} {meth : Method} {c : Code} (F : gj_F E om M (gj_rm M, 0, 0, MQ below (gj_Qc E om Q) args s 0 0 (gj_A E)) p s m args meth c) : gj_RT E om M p e s m args below meth c (gj_rm M, 0, 0, MQ below (gj_Qc E om Q) args s 0 0 (gj_A E)) Q := by
  obtain ⟨hx, hb, hml, hown, hts, hr, hlo, hK0, hSt, hsz, -, -, -, -, -⟩ := F
  intro r SI SJ H locs la pc i hq hP hS hd hi
  refine gj_sz fun hz => ?_
  have hret : ∀ t : State, t.heap = H → s.WarmedH t.vm → gj_Qc E om Q args s (.returned (r.map (gj_rv E))) t := by
    intro t ht hW
    have hsz : s.heap.size + 0 = gj_b E + om.1 := hsz
    have hz : H.size ≤ s.heap.size + 0 := hz
    exact ⟨⟨r, SI, SJ, rfl, hq, by rw [ht]; have := hS.1; omega, by rw [ht]; exact hP, va_K.moved hW.alike hK0, gj_oldE hS hSt ht hW⟩, hS.F ht⟩
  rcases hi with ⟨rfl, x, ty, rfl, hl, hn⟩ | ⟨rfl, x, rfl, hl⟩ | ⟨rfl, rfl, hl⟩
  · exact W.zret hx hb (hr.trans hl) hn hret hS.2.2 hd hlo
  · exact W.lret hx hb (hr.trans hl) hret hS.2.2 hd hlo
  · exact W.vret hx hb (hr.trans hl) hret hS.2.2 hd hlo
/-- THE RULE OF A METHOD -/
theorem gj_start (hM : gj_okM mt M) {As : List Value} {SI : gj_I} {SJ : gj_J} (hlen : (gj_fl As).length ≤ gj_nL M) (h : gj_Goes E om M 0 (gj_ent As (gj_nL M)) [] SI SJ Q) : gj_Do E om M As SI SJ Q := by
  refine Met.ofW (cc := gj_cc M) (maxL := gj_nL M) (ret := gj_ret M) hM.1 rfl ?_
  intro p e s m args below meth c s₁ B hml hv
  obtain ⟨rfl, hz, hP, hK, hSt⟩ := hv
  have F : gj_F E om M (gj_rm M, 0, 0, MQ below (gj_Qc E om Q) (As.map (gj_rv E)).toArray s 0 0 (gj_A E)) p s m (As.map (gj_rv E)).toArray meth c := ⟨B.exec, B.bytes, hml, findClass_of_methodNamed B.named, fun w hw => atoms_spec (ws := gj_ws M) B.pre w (List.mem_cons_of_mem _ hw), B.returns, B.notSynchronized, hK, hSt, hz, rfl, rfl, Nat.le_refl _, Nat.le_refl _, by rw [hz]; exact Nat.le_add_right _ _⟩
  have hT := gj_RT_met (Q := Q) (e := e) (below := below) F
  have hl := lv_entry (As.map (gj_rv E)) (n := gj_nL M) (by rw [gj_fl_len]; exact hlen)
  rw [lg_entry_eq]
  refine h p e s m _ below meth c _ F hT s.heap [] _ hP va_S.rf ⟨hl.1, ?_, hl.2.1, ?_⟩
  · unfold gj_ent; rw [List.length_append, List.length_replicate]; omega
  · intro i v hi
    unfold gj_ent at hi
    rw [List.getElem?_append] at hi
    split at hi
    · have := gj_fl_lv E As 0 i v hi
      rw [Nat.zero_add] at this
      exact hl.2.2 _ this
    · rw [List.getElem?_replicate] at hi
      split at hi <;> cases hi
theorem gj_Do.mono {As : List Value} {SI : gj_I} {SJ : gj_J} {Q2 : Option Value → gj_I → gj_J → Prop} (h : gj_Do E om M As SI SJ Q) (hq : ∀ r SI SJ, Q r SI SJ → Q2 r SI SJ) : gj_Do E om M As SI SJ Q2 := by
  unfold gj_Do at h ⊢
  unfold Met at h ⊢
  exact MetFree.mono h (fun _ _ hp => hp) (fun _ _ _ _ _ hk => hk) (fun a s o t _ hh => ⟨⟨by obtain ⟨r, SI, SJ, h1, h2, h3⟩ := hh.1.1; exact ⟨r, SI, SJ, h1, hq _ _ _ h2, h3⟩, hh.1.2⟩, hh.2⟩)
end GjV
