/-! 18: runs with cuts: at a pc of 'cuts' the run may stop as a jump does; words for results -/
def gj_wq (E : gj_E) (om : gj_Om) (Dz : Nat → List Value → gj_I → gj_J → (Option Value → gj_I → gj_J → Prop) → Prop) (K : Nat → gj_O → List Value → gj_I → gj_J → Prop) (Q : Option Value → gj_I → gj_J → Prop) (cuts : List Nat) : List gj_C → Bool → gj_O → List Value → gj_I → gj_J → Prop
  | [] => fun _ _ _ _ _ => False
  | q :: cs => fun first ls st SI SJ => bif !first && cuts.contains q.1 then K q.1 ls st SI SJ else gj_step E om Dz K Q (gj_wq E om Dz K Q cuts cs false) q.1 q.2.1 q.2.2.2 ls st SI SJ
section GjX
variable {E : gj_E} {om : gj_Om} {mt : Nat → gj_M} {M : gj_M} {Q : Option Value → gj_I → gj_J → Prop} {X : gj_X}
theorem gj_runq_s (hcl : gj_clF) {p : Program} {e : Env} {s : State} {m : MethodId} {args : Array Value} {below : List Frame} {meth : Method} {c : Code} {K : Nat → gj_O → List Value → gj_I → gj_J → Prop} {cuts : List Nat} (F : gj_F E om M X p s m args meth c) (hT : gj_RT E om M p e s m args below meth c X Q) (hK : ∀ t ls st SI SJ, K t ls st SI SJ → gj_G E om M p e s m args below meth c X t ls st SI SJ) :
    ∀ (cs : List gj_C), (∀ q ∈ cs, gj_ok mt M q) → gj_seq cs = true → ∀ (b : Bool) (ls : gj_O) (st : List Value) (SI : gj_I) (SJ : gj_J), gj_wq E om (fun mid => gj_Do E om (mt mid)) K Q cuts cs b ls st SI SJ → ∀ q cs', cs = q :: cs' → gj_G E om M p e s m args below meth c X q.1 ls st SI SJ
  | [], _, _, _, _, _, _, _, _, _, _, h => by cases h
  | q :: cs, h1, h2, b, ls, st, SI, SJ, h3, q', cs', h4 => by
    cases h4
    unfold gj_wq at h3
    cases hb : (!b && cuts.contains q.1)
    · simp only [hb, cond_false] at h3
      refine gj_step_s (n := q.2.2.1) hcl F hT (h1 q List.mem_cons_self) ?_ hK h3
      intro ls st SI SJ h5
      cases cs with
      | nil => exact h5.elim
      | cons q2 cs =>
        have h6 : Nat.beq q2.1 (q.1 + q.2.2.1) = true ∧ gj_seq (q2 :: cs) = true := by simpa [gj_seq] using h2
        have h7 := gj_runq_s hcl F hT hK (q2 :: cs) (fun x hx => h1 x (List.mem_cons_of_mem _ hx)) h6.2 false ls st SI SJ h5 q2 cs rfl
        rw [Nat.eq_of_beq_eq_true h6.1] at h7
        exact h7
    · simp only [hb, cond_true] at h3
      exact hK _ _ _ _ _ h3
theorem gj_goq (hcl : gj_clF) (hM : gj_okM mt M) (cuts : List Nat) {pc : Nat} {ls : gj_O} {st : List Value} {SI : gj_I} {SJ : gj_J} (h : gj_wq E om (fun mid => gj_Do E om (mt mid)) (fun t ls st SI SJ => gj_Goes E om M t ls st SI SJ Q) Q cuts (gj_from (gj_cd M) pc) true ls st SI SJ) : gj_Goes E om M pc ls st SI SJ Q := by
  intro p e s m args below meth c X F hT
  cases hc : gj_from (gj_cd M) pc with
  | nil => rw [hc] at h; exact h.elim
  | cons q cs =>
    have h2 := gj_runq_s (p := p) (e := e) (s := s) (m := m) (args := args) (below := below) (meth := meth) (c := c) (X := X) (mt := mt) hcl F hT (fun t ls st SI SJ hk => hk p e s m args below meth c X F hT) (gj_from (gj_cd M) pc) (fun x hx => hM.2.2 x ((List.dropWhile_sublist _).subset hx)) (gj_seq_drop _ _ hM.2.1) true ls st SI SJ h q cs hc
    rw [gj_from_pc pc _ _ _ hc] at h2
    exact h2
def gj_Fg : gj_O → gj_O → Prop
  | [], [] => True
  | a :: as, b :: bs => (b = none ∨ a = b) ∧ gj_Fg as bs
  | _, _ => False
theorem gj_Fg_s : ∀ (as bs : gj_O), gj_Fg as bs → as.length = bs.length ∧ ∀ (i : Nat) (v : Value), bs[i]? = some (some v) → as[i]? = some (some v)
  | [], [], _ => ⟨rfl, fun _ _ h => h⟩
  | [], _ :: _, h => h.elim
  | _ :: _, [], h => h.elim
  | a :: as, b :: bs, h => by
    obtain ⟨h1, h2⟩ := h
    obtain ⟨h3, h4⟩ := gj_Fg_s as bs h2
    refine ⟨by simp [h3], fun i v hv => ?_⟩
    cases i with
    | zero =>
      simp at hv
      rcases h1 with h1 | h1
      · rw [h1] at hv; cases hv
      · rw [h1]; simp [hv]
    | succ i => simpa using h4 i v (by simpa using hv)
/-- fewer locals are known -/
theorem gj_fg {pc : Nat} {ls ls' : gj_O} {st : List Value} {SI : gj_I} {SJ : gj_J} (hf : gj_Fg ls ls') (h : gj_Goes E om M pc ls' st SI SJ Q) : gj_Goes E om M pc ls st SI SJ Q := by
  intro p e s m args below meth c X F hT H locs la hP hS hL
  obtain ⟨h1, h2⟩ := gj_Fg_s _ _ hf
  exact h p e s m args below meth c X F hT H locs la hP hS ⟨hL.1, by rw [← h1]; exact hL.2.1, hL.2.2.1, fun i v hv => hL.2.2.2 i v (h2 i v hv)⟩
theorem gj_fh {pc : Nat} {ls ls' : gj_O} {st : List Value} {SI : gj_I} {SJ : gj_J} (h : gj_Goes E om M pc ls' st SI SJ Q) (hf : gj_Fg ls ls') : gj_Goes E om M pc ls st SI SJ Q := gj_fg hf h
end GjX
abbrev i3 (z : Int) : Int32 := Int32.ofInt z
abbrev i6 (z : Int) : Int64 := Int64.ofInt z
theorem lgc_eq {x y : Int64} : lg_cmp x y = 0 ↔ x = y := lg_cmp_eq x y
theorem lgc_lt {x y : Int64} : lg_cmp x y < 0 ↔ x < y := lg_cmp_lt x y
theorem lgc_gt {x y : Int64} : 0 < lg_cmp x y ↔ x > y := lg_cmp_gt x y
theorem lgc_ge {x y : Int64} : 0 ≤ lg_cmp x y ↔ x ≥ y := lg_cmp_ge x y
theorem lgc_le {x y : Int64} : lg_cmp x y ≤ 0 ↔ x ≤ y := lg_cmp_le x y
theorem gj_vin {i : Int32} {n : Nat} (h : ¬ (i < 0 ∨ n ≤ i.toNatClampNeg)) : vp_in i n := h
abbrev gj_n (x : Int32) : Nat := x.toNatClampNeg
def om0 : gj_Om := (103, gj_R0)
def QI (Q : Int32 → gj_I → gj_J → Prop) : Option Value → gj_I → gj_J → Prop := fun v SI SJ => ∃ r, v = some (.int r) ∧ Q r SI SJ
def QL (Q : Int64 → gj_I → gj_J → Prop) : Option Value → gj_I → gj_J → Prop := fun v SI SJ => ∃ r, v = some (.long r) ∧ Q r SI SJ
def QV (Q : gj_I → gj_J → Prop) : Option Value → gj_I → gj_J → Prop := fun v SI SJ => v = none ∧ Q SI SJ
def DoI (E : gj_E) (mid : Nat) (As : List Value) (SI : gj_I) (SJ : gj_J) (Q : Int32 → gj_I → gj_J → Prop) : Prop := gj_Do E om0 (gj_mt mid) As SI SJ (QI Q)
def DoL (E : gj_E) (mid : Nat) (As : List Value) (SI : gj_I) (SJ : gj_J) (Q : Int64 → gj_I → gj_J → Prop) : Prop := gj_Do E om0 (gj_mt mid) As SI SJ (QL Q)
def DoV (E : gj_E) (mid : Nat) (As : List Value) (SI : gj_I) (SJ : gj_J) (Q : gj_I → gj_J → Prop) : Prop := gj_Do E om0 (gj_mt mid) As SI SJ (QV Q)
def GoI (E : gj_E) (M : gj_M) (pc : Nat) (ls : gj_O) (SI : gj_I) (SJ : gj_J) (Q : Int32 → gj_I → gj_J → Prop) : Prop := gj_Goes E om0 M pc ls [] SI SJ (QI Q)
def GoL (E : gj_E) (M : gj_M) (pc : Nat) (ls : gj_O) (SI : gj_I) (SJ : gj_J) (Q : Int64 → gj_I → gj_J → Prop) : Prop := gj_Goes E om0 M pc ls [] SI SJ (QL Q)
def GoV (E : gj_E) (M : gj_M) (pc : Nat) (ls : gj_O) (SI : gj_I) (SJ : gj_J) (Q : gj_I → gj_J → Prop) : Prop := gj_Goes E om0 M pc ls [] SI SJ (QV Q)
theorem DoI.mono {E : gj_E} {mid : Nat} {As : List Value} {SI : gj_I} {SJ : gj_J} {Q Q2 : Int32 → gj_I → gj_J → Prop} (h : DoI E mid As SI SJ Q) (hq : ∀ r SI SJ, Q r SI SJ → Q2 r SI SJ) : DoI E mid As SI SJ Q2 := gj_Do.mono h (fun _ _ _ ⟨r, h1, h2⟩ => ⟨r, h1, hq _ _ _ h2⟩)
theorem DoL.mono {E : gj_E} {mid : Nat} {As : List Value} {SI : gj_I} {SJ : gj_J} {Q Q2 : Int64 → gj_I → gj_J → Prop} (h : DoL E mid As SI SJ Q) (hq : ∀ r SI SJ, Q r SI SJ → Q2 r SI SJ) : DoL E mid As SI SJ Q2 := gj_Do.mono h (fun _ _ _ ⟨r, h1, h2⟩ => ⟨r, h1, hq _ _ _ h2⟩)
theorem DoV.mono {E : gj_E} {mid : Nat} {As : List Value} {SI : gj_I} {SJ : gj_J} {Q Q2 : gj_I → gj_J → Prop} (h : DoV E mid As SI SJ Q) (hq : ∀ SI SJ, Q SI SJ → Q2 SI SJ) : DoV E mid As SI SJ Q2 := gj_Do.mono h (fun _ _ _ ⟨h1, h2⟩ => ⟨h1, hq _ _ h2⟩)
