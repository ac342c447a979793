/-! ar: CONSTRUCTION: <init> by contract -/
/-- a constructor's contract: from a world of om it comes to one of om2, nc cells of ns slots are new -/
def gj_rmk (M : gj_M) (nc ns : Nat) : Room := { frames := (gj_rm M).frames, cells := nc, slots := ns, locals := (gj_rm M).locals }
def gj_Mk (E : gj_E) (om om2 : gj_Om) (M : gj_M) (nc ns : Nat) (As : List Value) (SI : gj_I) (SJ : gj_J) (Q : gj_I → gj_J → Prop) : Prop := Met E.1 M.1 (gj_ws M) (gj_rmk M nc ns) (va_Pc (As.map (gj_rv E)) (gj_HH E om SI SJ)) (gj_Qc E om2 (QV Q)) nc ns (gj_A E)
section GjS
variable {p : Program} {l : Launch} {e : Env} {R : Room} {s : State} {m : MethodId} {args : Array Value} {below : List Frame} {meth : Method} {c : Code} {H : Heap} {locs : List Loc} {cells slots mc ms : Nat} {Qf : State → Prop}
theorem gj_contC {E : gj_E} {om : gj_Om} {Q : gj_I → gj_J → Prop} {pc : Nat} {la : Array Slot} {st0 rest : List Value} {a : Array Value} (hr : va_Run p l e R s m args below meth c H locs cells slots mc ms (F0 m pc la st0) rest (gj_Qc E om (QV Q) a) (gj_A E)) (hS : va_S (gj_A E) s.heap H locs)
    (kk : ∀ (SI : gj_I) (SJ : gj_J) (H1 : Heap) (locs1 : List Loc), Q SI SJ → va_P (gj_D E) vwCl (gj_Wd E om SI SJ) H1 → va_S (gj_A E) s.heap H1 locs1 → W p l e R s m args below meth c H1 locs1 (cells + mc) (slots + ms) Qf (F0 m (pc + 3) la rest)) : W p l e R s m args below meth c H locs cells slots Qf (F0 m pc la st0) := by
  intro T hT X
  obtain ⟨v, st₀, t, T', L, h0, X', hL, e1, e2, ⟨⟨r, SI, SJ, hv, hq, hz, hP, hK, hSt⟩, hF⟩, st⟩ := hr T hT X
  obtain ⟨hr0, hq⟩ := hq
  subst hr0
  cases hv
  obtain ⟨hz2, hk2⟩ := hF
  rw [h0] at hz2 hk2
  obtain ⟨t2, a1, b1⟩ := kk SI SJ T'.heap (locs ++ L) hq (by rw [e1]; exact hP)
    ⟨Nat.le_trans hS.1 (by rw [e1]; exact hz2), fun q h1 h2 => by rw [e1, hk2 q (Nat.lt_of_lt_of_le h1 hS.1) h2]; exact hS.2.1 q h1 h2, fun q hq => by
      rcases List.mem_append.mp hq with h | h
      · exact hS.2.2 q h
      · exact hL q h⟩ T' rfl X'
  exact ⟨t2, st t2 a1, b1⟩
end GjS
section GjI
variable {E : gj_E} {M M2 : gj_M} {p : Program} {e : Env} {s : State} {m : MethodId} {args : Array Value} {below : List Frame} {meth : Method} {c : Code} {R : Room} {Qf : State → Prop} {SI : gj_I} {SJ : gj_J} {n nc nk mc ms pc idx o : Nat} {r : Nat → Nat → Option Nat} {om om2 : gj_Om} {ls : gj_O} {st : List Value} {Q : gj_I → gj_J → Prop}
theorem cs_init (F : gj_F E om M (R, nc, nk, Qf) p s m args meth c) (hd : decode (gj_cc M) pc = .ok (.invokespecial idx, 3)) (hm : gj_mok M M2 idx 0) (hnm : M2.1.name = "<init>") (hin : Cond.instanceMethod M2.1 ∈ gj_tb) (hrt : gj_ret M2 = none) (h : gj_Mk E om om2 M2 mc ms [.ref o] SI SJ Q) (hom : om2.1 = om.1 + mc) (hcat : gj_cat st ≤ 8) (hc : nc + mc ≤ R.cells) (hs : nk + ms ≤ R.slots) (kk : ∀ A B, Q A B → gj_F E om2 M (R, nc + mc, nk + ms, Qf) p s m args meth c → gj_G E om2 M p e s m args below meth c (R, nc + mc, nk + ms, Qf) (pc + 3) ls st A B) : gj_G E om M p e s m args below meth c (R, nc, nk, Qf) pc ls (.ref o :: st) SI SJ := by
  have F2 := F
  obtain ⟨hx, hb, hml, hown, hts, hr, hlo, hK0, hSt, hsz, hXf, hXl, hXc, hXs, hXb⟩ := F2
  obtain ⟨hlk, hcode, hini, hds, hR⟩ := hm
  intro H locs la hP hS hL
  refine gj_sz fun hz => ?_
  have hz2 : H.size = gj_b E + om.1 := by
    have h1 : s.heap.size + nc = gj_b E + om.1 := hsz
    have h2 : H.size ≤ s.heap.size + nc := hz
    have h3 := hS.1
    have := gj_lo hP (by omega)
    omega
  have hpre := gj_pre (As := [.ref o]) hz2 hP hS hK0 hSt
  have hW : 2 * (F0 m pc la ((Value.ref o :: st).map (gj_rv E))).monitorRoom + ((st.map (gj_rv E)).map fun v => v.category).sum ≤ 8 := by
    rw [gj_cat_map]; exact lv_room (m := m) (pc := pc) (ls := la) (rest := (Value.ref o :: st).map (gj_rv E)) (st := st) hcat
  have hcode2 := hcode
  rw [hrt] at hcode2
  have kk2 : ∀ (A : gj_I) (B : gj_J) (H1 : Heap) (locs1 : List Loc), Q A B → va_P (gj_D E) vwCl (gj_Wd E om2 A B) H1 → va_S (gj_A E) s.heap H1 locs1 → W p E.1 e R s m args below meth c H1 locs1 (nc + mc) (nk + ms) Qf (F0 m (pc + 3) la (st.map (gj_rv E))) := fun A B H1 locs1 hq hP1 hS1 => kk A B hq (F.al hom hc hs) H1 locs1 la hP1 hS1 hL
  have hwd : gj_ws M2 = .code M2.1 (gj_cc M2) (gj_nL M2) none :: gj_tb := by unfold gj_ws; rw [hrt]
  rcases hlk with hlk | hlk
  · exact gj_contC (va_runI (nL := gj_nL M) (b := gj_ad E o) (As := []) (rest := st.map (gj_rv E)) (bytes := gj_cc M2) (maxL := gj_nL M2) (n := 0) ⟨hx, hb, hml, hown, hts⟩ h ⟨callB_of 0 hts (gj_goodIn hcode) hwd rfl rfl (hts _ hini) (hts _ hlk) hds (by rw [hXf, hXl]; exact hR), hnm, hts _ hin⟩ hpre rfl rfl hL.1 rfl hW hd ⟨hc, hs⟩) hS kk2
  · exact gj_contC (va_runIN (nL := gj_nL M) (host := "GraspJudge") (b := gj_ad E o) (As := []) (rest := st.map (gj_rv E)) (bytes := gj_cc M2) (maxL := gj_nL M2) (n := 0) ⟨hx, hb, hml, hown, hts⟩ h ⟨va_cnB 0 hts (gj_goodIn hcode) hwd rfl rfl (hSt.2.2.2.2.2.2 _ hlk) (hts _ hini) hds (by rw [hXf, hXl]; exact hR), hnm, hts _ hin⟩ hpre rfl rfl hL.1 rfl hW hd ⟨hc, hs⟩) hS kk2
theorem cs_obj {X : gj_X} (F : gj_F E om M X p s m args meth c) (hd : decode (gj_cc M) pc = .ok (.invokespecial idx, 3)) (hlk : Cond.methodLink M.1.cls idx Lib.objectInit ∈ gj_tb) (hin : Cond.instanceMethod Lib.objectInit ∈ gj_tb) (hcode : Cond.code Lib.objectInit ⟨#[0xb1]⟩ 1 none ∈ gj_tb) (hf : 1 ≤ (gj_rm M).frames) (hl : 12 ≤ (gj_rm M).locals) (kk : gj_G E om M p e s m args below meth c X (pc + 3) ls [] SI SJ) : gj_G E om M p e s m args below meth c X pc ls [.ref o] SI SJ := by
  obtain ⟨hx, hb, hml, hown, hts, hr, hlo, hK0, hSt, hsz, hXf, hXl, hXc, hXs, hXb⟩ := F
  intro H locs la hP hS hL
  refine W.objInit (a := gj_ad E o) (rest := []) hx hb hown (hts _ hlk) (hts _ hin) (hts _ hcode) rfl (by rw [hml]; exact hL.1) rfl hd (by rw [hXf]; exact hf) (by rw [hXl]; exact hl) ?_
  exact kk H locs la hP hS hL
theorem cs_ret (F : gj_F E om2 M (R, mc, ms, MQ below (gj_Qc E om2 (QV Q)) args s mc ms (gj_A E)) p s m args meth c) (hd : decode (gj_cc M) pc = .ok (.return_, 1)) (hrt : gj_ret M = none) (hq : Q SI SJ) : gj_G E om2 M p e s m args below meth c (R, mc, ms, MQ below (gj_Qc E om2 (QV Q)) args s mc ms (gj_A E)) pc ls [] SI SJ := by
  obtain ⟨hx, hb, hml, hown, hts, hr, hlo, hK0, hSt, hsz, -, -, -, -, hXb⟩ := F
  intro H locs la hP hS hL
  refine gj_sz fun hz => ?_
  have hret : ∀ t : State, t.heap = H → s.WarmedH t.vm → gj_Qc E om2 (QV Q) args s (.returned none) t := by
    intro t ht hW
    have hsz : s.heap.size + mc = gj_b E + om2.1 := hsz
    have hz : H.size ≤ s.heap.size + mc := hz
    refine ⟨⟨none, SI, SJ, rfl, ⟨rfl, hq⟩, ?_, by rw [ht]; exact hP, va_K.moved hW.alike hK0, gj_oldE hS hSt ht hW⟩, hS.F ht⟩
    rw [ht]
    have h3 := hS.1
    have := gj_lo hP (by omega)
    omega
  exact W.vret hx hb (hr.trans hrt) hret hS.2.2 hd hlo
theorem cs_start (hpl : plainName M.1.cls = true) (hnm : M.1.name = "<init>") (hrt : gj_ret M = none) (hL : gj_nL M = 1) (h : ∀ (p : Program) (e : Env) (s : State) (m : MethodId) (args : Array Value) (below : List Frame) (meth : Method) (c : Code), meth.name = "<init>" → gj_F E om M (gj_rmk M mc ms, 0, 0, MQ below (gj_Qc E om2 (QV Q)) args s mc ms (gj_A E)) p s m args meth c → gj_G E om M p e s m args below meth c (gj_rmk M mc ms, 0, 0, MQ below (gj_Qc E om2 (QV Q)) args s mc ms (gj_A E)) 0 [some (.ref o)] [] SI SJ) : gj_Mk E om om2 M mc ms [.ref o] SI SJ Q := by
  refine Met.ofW (cc := gj_cc M) (maxL := gj_nL M) (ret := gj_ret M) hpl rfl ?_
  intro p e s m args below meth c s₁ B hml hv
  obtain ⟨rfl, hz, hP, hK, hSt⟩ := hv
  have hin : meth.name = "<init>" := ((name_of_methodNamed B.named B.method).1).trans hnm
  have F : gj_F E om M (gj_rmk M mc ms, 0, 0, MQ below (gj_Qc E om2 (QV Q)) ([Value.ref o].map (gj_rv E)).toArray s mc ms (gj_A E)) p s m ([Value.ref o].map (gj_rv E)).toArray meth c := ⟨B.exec, B.bytes, hml, findClass_of_methodNamed B.named, fun w hw => atoms_spec (ws := gj_ws M) B.pre w (List.mem_cons_of_mem _ hw), B.returns, B.notSynchronized, hK, hSt, hz, rfl, rfl, Nat.zero_le _, Nat.zero_le _, by rw [hz]; exact Nat.le_add_right _ _⟩
  have hl := lv_entry ([Value.ref o].map (gj_rv E)) (n := gj_nL M) (by rw [gj_fl_len, hL]; exact Nat.le_refl _)
  rw [lg_entry_eq]
  refine h p e s m _ below meth c hin F s.heap [] _ hP va_S.rf ⟨hl.1, by rw [hL]; rfl, hl.2.1, ?_⟩
  intro i v hi
  have := gj_fl_lv E [.ref o] 0 i v hi
  rw [Nat.zero_add] at this
  exact hl.2.2 _ this
theorem gj_ck1_s {oi : Nat} {q : gj_C} (ho : gj_on.getD oi "" = M.1.cls) (h1 : gj_ck1 oi M q = true) : gj_ok gj_mt M q := by
  unfold gj_ck1 at h1
  rw [Bool.and_eq_true, Bool.and_eq_true, decide_eq_true_eq] at h1
  obtain ⟨⟨h1, h2⟩, h3⟩ := h1
  refine ⟨h1, ?_, gj_lkb_s ho h3⟩
  unfold gj_len
  split at h2
  · rename_i k hk
    rw [hk]; exact Nat.eq_of_beq_eq_true h2
  · rename_i hk
    rw [hk]; trivial
/-- what makes cells or calls <init>, and the one putfield that gj_wF lacks -/
def gj_spq (q : gj_C) : Bool := match q.2.1 with
  | .new _ => true
  | .newarray _ => true
  | .invokespecial _ => true
  | _ => Nat.beq q.2.2.2 201
def gj_ckc (oi : Nat) (M : gj_M) : Bool := (gj_cd M).all (fun q => decide (decode (gj_cc M) q.1 = .ok (q.2.1, q.2.2.1)) && (gj_spq q || gj_ck1 oi M q))
theorem gj_ckc_d {oi j : Nat} {q : gj_C} (h : gj_ckc oi M = true) (hj : (gj_cd M)[j]? = some q) : decode (gj_cc M) q.1 = .ok (q.2.1, q.2.2.1) := by
  have h1 := List.all_eq_true.mp h q (List.mem_of_getElem? hj)
  rw [Bool.and_eq_true, decide_eq_true_eq] at h1
  exact h1.1
theorem gj_ckc_o {oi j : Nat} {q : gj_C} (h : gj_ckc oi M = true) (ho : gj_on.getD oi "" = M.1.cls) (hj : (gj_cd M)[j]? = some q) (hs : gj_spq q = false) : gj_ok gj_mt M q := by
  have h1 := List.all_eq_true.mp h q (List.mem_of_getElem? hj)
  rw [Bool.and_eq_true, hs, Bool.false_or] at h1
  exact gj_ck1_s ho h1.2
end GjI
