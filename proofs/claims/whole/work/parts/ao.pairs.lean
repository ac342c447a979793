/-! ao: class and reference side by side: from one abstract state both answer alike and both come to one abstract state again -/
section Pairs
variable {E : gj_E} {SI A A2 : gj_I} {SJ B B2 : gj_J} {F G K T T2 : Nat → Int} {ik : Bool} {tp tq : Int} {P Z : gj_I → gj_J → Prop}
def LCcl (o _k : Nat) : Prop := o ≤ 80
def LRr (o _k : Nat) : Prop := 81 ≤ o
def LMm (o k : Nat) : Prop := 81 ≤ o ∧ o ≠ 83 ∧ o ≠ 89 ∧ ¬ (o = 81 ∧ (k = 3 ∨ k = 13))
def LMq (o k : Nat) : Prop := 81 ≤ o ∧ o ≠ 82 ∧ o ≠ 83 ∧ o ≠ 89 ∧ ¬ (o = 81 ∧ (k = 3 ∨ k = 13))
def LMt (o k : Nat) : Prop := 81 ≤ o ∧ o ≠ 83 ∧ ¬ (o = 81 ∧ k = 3)
def CLS (F K T : Nat → Int) (ik : Bool) (tp : Int) (SI : gj_I) (SJ : gj_J) : Prop := CNT F SI SJ ∧ CTp T tp SI ∧ (ik = true → NS16 K SI) ∧ SI 0 11 = i3 (if ik then 1 else 0)
def REF (F K T : Nat → Int) (ik : Bool) (tp : Int) (SI : gj_I) : Prop := RF F SI ∧ RK K SI ∧ RT T SI ∧ SI 81 13 = i3 tp ∧ SI 81 3 = i3 (if ik then 1 else 0)
def INV (F K : Nat → Int) (ik : Bool) : Prop := IV F ∧ (ik = true → IV K)
def BTH (F K T : Nat → Int) (ik : Bool) (tp : Int) (SI : gj_I) (SJ : gj_J) : Prop := INV F K ik ∧ CLS F K T ik tp SI SJ ∧ REF F K T ik tp SI
theorem NS16.f {L : Nat → Nat → Prop} (h : NS16 F SI) (f : FI L SI A) (hl : ∀ o k, 16 ≤ o → o ≤ 28 → ¬ L o k) : NS16 F A := by
  obtain ⟨hX, hD, hf, hh, hx⟩ := h
  exact ⟨hX.f f ⟨hl _ _ (by omega) (by omega), fun k => ⟨hl _ _ (by omega) (by omega), hl _ _ (by omega) (by omega)⟩⟩, hD.f f ⟨hl _ _ (by omega) (by omega), fun k => ⟨hl _ _ (by omega) (by omega), hl _ _ (by omega) (by omega), hl _ _ (by omega) (by omega), hl _ _ (by omega) (by omega), hl _ _ (by omega) (by omega)⟩⟩, hf.f f ⟨⟨hl _ _ (by omega) (by omega), hl _ _ (by omega) (by omega), hl _ _ (by omega) (by omega), hl _ _ (by omega) (by omega), hl _ _ (by omega) (by omega)⟩, fun k => ⟨hl _ _ (by omega) (by omega), hl _ _ (by omega) (by omega)⟩⟩, hh.f f ⟨hl _ _ (by omega) (by omega), fun k => hl _ _ (by omega) (by omega)⟩, hx.f f ⟨hl _ _ (by omega) (by omega), hl _ _ (by omega) (by omega), fun k => hl _ _ (by omega) (by omega)⟩⟩
theorem CTp.f {L : Nat → Nat → Prop} (h : CTp T tp SI) (f : FI L SI A) (hl : ¬ L 1 1 ∧ ∀ k, ¬ L 2 k) : CTp T tp A :=
  ⟨h.1.f f hl.2, by rw [f _ _ hl.1]; exact h.2.1, h.2.2⟩
theorem CNT.rr (h : CNT F SI SJ) (f : FI LRr SI A) (g : FJ LRr SJ B) : CNT F A B := by
  obtain ⟨h1, ⟨g1, g2, g3, g4⟩, h3⟩ := h
  refine ⟨h1.f f (fun o k h1 h2 => by unfold LRr; omega), ⟨?_, ?_, ?_, ?_⟩, ?_⟩
  · exact LB42.f g1 f g (by unfold LRr; exact ⟨by omega, fun k => by omega⟩) (fun k => by unfold LRr; omega)
  · exact CB42.f g2 f g (fun k => by unfold LRr; omega) (fun k => by unfold LRr; omega)
  · rw [f 0 12 (by unfold LRr; omega)]; exact g3
  · rw [f 0 13 (by unfold LRr; omega)]; exact g4
  · unfold TR
    rw [f 65 4 (by unfold LRr; omega), f 65 5 (by unfold LRr; omega), f 65 6 (by unfold LRr; omega), f 65 7 (by unfold LRr; omega), f 65 8 (by unfold LRr; omega), f 65 9 (by unfold LRr; omega), g 79 0 (by unfold LRr; omega), g 79 1 (by unfold LRr; omega), g 80 0 (by unfold LRr; omega), g 80 1 (by unfold LRr; omega)]
    exact h3
theorem CLS.r (h : CLS F K T ik tp SI SJ) (f : FI LRr SI A) (g : FJ LRr SJ B) : CLS F K T ik tp A B :=
  ⟨h.1.rr f g, h.2.1.f f (by unfold LRr; exact ⟨by omega, fun k => by omega⟩), fun e => (h.2.2.1 e).f f (fun o k h1 h2 => by unfold LRr; omega), by rw [f 0 11 (by unfold LRr; omega)]; exact h.2.2.2⟩
theorem CLS.t (h : CLS F K T ik tp SI SJ) (f : FI LTX SI A) (hT : CTp T2 tq A) (hC : CNT G A B) : CLS G K T2 ik tq A B :=
  ⟨hC, hT, fun e => (h.2.2.1 e).f f (fun o k h1 h2 => by unfold LTX LCT LCI; omega), by rw [f 0 11 (by unfold LTX LCT LCI; omega)]; exact h.2.2.2⟩
theorem CLS.k (h : CLS F K T ik tp SI SJ) (f : FI LCI SI A) (hC : CNT G A B) : CLS G K T ik tp A B :=
  h.t (f.le (fun o k z => Or.inr (Or.inl z))) (h.2.1.f f (by unfold LCI; exact ⟨by omega, fun k => by omega⟩)) hC
theorem REF.c (h : REF F K T ik tp SI) (f : FI LCcl SI A) : REF F K T ik tp A := by
  obtain ⟨h1, h2, h3, h4, h5⟩ := h
  exact ⟨h1.f f (fun k => by unfold LCcl; omega), fun k hk => by rw [f 83 k (by unfold LCcl; omega)]; exact h2 k hk, h3.f f (fun k => by unfold LCcl; omega), by rw [f 81 13 (by unfold LCcl; omega)]; exact h4, by rw [f 81 3 (by unfold LCcl; omega)]; exact h5⟩
theorem REF.t (h : REF F K T ik tp A) (f : FI LMt A A2) (hR : RF G A2) (hT : RT T2 A2) (ht : A2 81 13 = i3 tq) : REF G K T2 ik tq A2 := by
  obtain ⟨h1, h2, h3, h4, h5⟩ := h
  exact ⟨hR, fun k hk => by rw [f 83 k (by unfold LMt; omega)]; exact h2 k hk, hT, ht, by rw [f 81 3 (by unfold LMt; omega)]; exact h5⟩
theorem REF.m (h : REF F K T ik tp A) (f : FI LMm A A2) (hR : RF G A2) : REF G K T ik tp A2 :=
  h.t (f.le (fun o k z => by unfold LMm at z; unfold LMt; omega)) hR (h.2.2.1.f f (fun k => by unfold LMm; omega)) (by rw [f 81 13 (by unfold LMm; omega)]; exact h.2.2.2.1)
theorem REF.q (h : REF F K T ik tp A) (f : FI LMq A A2) : REF F K T ik tp A2 :=
  h.m (f.le (fun o k z => by unfold LMq at z; unfold LMm; omega)) (h.1.f f (fun k => by unfold LMq; omega))
theorem LMq.r (f : FI LMq A A2) : FI LRr A A2 := f.le (fun o k z => z.1)
theorem LMm.r (f : FI LMm A A2) : FI LRr A A2 := f.le (fun o k z => z.1)
theorem LMt.r (f : FI LMt A A2) : FI LRr A A2 := f.le (fun o k z => z.1)
theorem qLI1 (f : FI LI1 A A2) : FI LMq A A2 := f.le (fun o k z => by unfold LI1 at z; unfold LMq; omega)
theorem qLRI (f : FI LRI A A2) : FI LMq A A2 := f.le (fun o k z => by unfold LRI at z; unfold LMq; omega)
theorem qLIg (f : FI LIg A A2) : FI LMq A A2 := f.le (fun o k z => by unfold LIg LI1 LIf at z; unfold LMq; omega)
theorem mLI2 (f : FI LI2 A A2) : FI LMm A A2 := f.le (fun o k z => by unfold LI2 LI1 at z; unfold LMm; omega)
theorem tLPl (f : FI LPl A A2) : FI LMt A A2 := f.le (fun o k z => by unfold LPl LLy LRC at z; unfold LMt; omega)
theorem tLOr (f : FI LOr A A2) : FI LMt A A2 := f.le (fun o k z => by unfold LOr LRC LI2 LI1 at z; unfold LMt; omega)
theorem jLJ1 (f : FJ LJ1 B B2) : FJ LRr B B2 := f.le (fun o k z => by unfold LJ1 at z; unfold LRr; omega)
theorem jLRJ (f : FJ LRJ B B2) : FJ LRr B B2 := f.le (fun o k z => z.1)
theorem jLJg (f : FJ LJg B B2) : FJ LRr B B2 := f.le (fun o k z => by unfold LJg LJ1 LJf at z; unfold LRr; omega)
theorem jLOJ (f : FJ LOJ B B2) : FJ LRr B B2 := f.le (fun o k z => by unfold LOJ LJ1 LJW at z; unfold LRr; omega)
theorem cLCI (f : FI LCI A A2) : FI LCcl A A2 := f.le (fun o k z => by unfold LCI at z; unfold LCcl; omega)
theorem cLTX (f : FI LTX A A2) : FI LCcl A A2 := f.le (fun o k z => by unfold LTX LCT LCI at z; unfold LCcl; omega)
theorem cLCT (f : FI LCT A A2) : FI LCcl A A2 := f.le (fun o k z => by unfold LCT at z; unfold LCcl; omega)
theorem kLIfc (f : FI LIfc A A2) : FI LCI A A2 := f.le (fun o k z => by unfold LIfc at z; unfold LCI; omega)
theorem end_q {α : Type} {r : α} (hp : ∀ F K T ik tp A B, BTH F K T ik tp A B → P A B) (hi : INV F K ik) (hc : CLS F K T ik tp A B) (hr : REF F K T ik tp A) (f : FI LMq A A2) (g : FJ LRr B B2) : (r = r → P A2 B2) ∧ (¬ r = r → Z A2 B2) :=
  ⟨fun _ => hp _ _ _ _ _ _ _ ⟨hi, hc.r (LMq.r f) g, hr.q f⟩, fun z => absurd rfl z⟩
theorem end_m {α : Type} {r : α} (hp : ∀ F K T ik tp A B, BTH F K T ik tp A B → P A B) (hi : INV G K ik) (hc : CLS G K T ik tp A B) (hr : REF F K T ik tp A) (hR : RF G A2) (f : FI LMm A A2) (g : FJ LRr B B2) : (r = r → P A2 B2) ∧ (¬ r = r → Z A2 B2) :=
  ⟨fun _ => hp _ _ _ _ _ _ _ ⟨hi, hc.r (LMm.r f) g, hr.m f hR⟩, fun z => absurd rfl z⟩
theorem end_t {α : Type} {r : α} (hp : ∀ F K T ik tp A B, BTH F K T ik tp A B → P A B) (hi : INV G K ik) (hc : CLS G K T2 ik tq A B) (hr : REF F K T ik tp A) (hR : RF G A2) (hT : RT T2 A2) (ht : A2 81 13 = i3 tq) (f : FI LMt A A2) (g : FJ LRr B B2) : (r = r → P A2 B2) ∧ (¬ r = r → Z A2 B2) :=
  ⟨fun _ => hp _ _ _ _ _ _ _ ⟨hi, hc.r (LMt.r f) g, hr.t f hR hT ht⟩, fun z => absurd rfl z⟩
theorem pr_load (h : BTH F K T ik tp SI SJ) (hp : ∀ F K T ik tp A B, BTH F K T ik tp A B → P A B) (a1 : Int32) : DoL E 142 [(.ref 0), (.int a1)] SI SJ (fun r1 A B => DoL E 239 [(.ref 81), (.int a1)] A B (fun r3 A2 B2 => (r1 = r3 → P A2 B2) ∧ (¬ r1 = r3 → Z A2 B2))) := by
  obtain ⟨hi, hc, hr⟩ := h
  have w := hi.1.1
  obtain ⟨x1, l1, u1, e1⟩ := i3_of a1
  refine sp_loadC hc.1 w x1 ⟨l1, u1⟩ e1 (fun A B f g hC => ?_)
  have hc2 := hc.k f hC
  have hr2 := hr.c (cLCI f)
  refine sp_load hr2.1 w.1 w.2.1 w.2.2.1 w.2.2.2.2.2 x1 ⟨l1, u1⟩ e1 (fun A2 B2 f2 g2 => ?_)
  exact end_q hp hi hc2 hr2 (qLRI f2) (jLRJ g2)
theorem pr_count (h : BTH F K T ik tp SI SJ) (hp : ∀ F K T ik tp A B, BTH F K T ik tp A B → P A B) (a1 : Int32) : DoI E 115 [(.ref 0), (.int a1)] SI SJ (fun r1 A B => DoI E 274 [(.ref 81), (.int a1)] A B (fun r3 A2 B2 => (r1 = r3 → P A2 B2) ∧ (¬ r1 = r3 → Z A2 B2))) := by
  obtain ⟨hi, hc, hr⟩ := h
  have w := hi.1.1
  obtain ⟨x1, l1, u1, e1⟩ := i3_of a1
  refine sp_countC hc.1 w tp hc.2.1.2.1 x1 ⟨l1, u1⟩ e1 ?_
  refine sp_count hr.1 w.1 w.2.1 w.2.2.1 tp hr.2.2.2.1 x1 ⟨l1, u1⟩ e1 (fun A2 B2 f2 g2 => ?_)
  exact end_q hp hi hc hr (qLI1 f2) (jLJ1 g2)
theorem pr_corner (h : BTH F K T ik tp SI SJ) (hp : ∀ F K T ik tp A B, BTH F K T ik tp A B → P A B) (a1 a2 : Int32) : DoI E 116 [(.ref 0), (.int a1), (.int a2)] SI SJ (fun r1 A B => DoI E 275 [(.ref 81), (.int a1), (.int a2)] A B (fun r3 A2 B2 => (r1 = r3 → P A2 B2) ∧ (¬ r1 = r3 → Z A2 B2))) := by
  obtain ⟨hi, hc, hr⟩ := h
  have w := hi.1.1
  obtain ⟨x1, l1, u1, e1⟩ := i3_of a1
  obtain ⟨x2, l2, u2, e2⟩ := i3_of a2
  refine sp_cornerC hc.1.1.1 w.1.1 x1 x2 ⟨l1, u1⟩ ⟨l2, u2⟩ e1 e2 ?_
  refine sp_corner hr.1 w.1.1 x1 x2 ⟨l1, u1⟩ ⟨l2, u2⟩ e1 e2 ?_
  exact end_q hp hi hc hr FI.rf FJ.rf
theorem pr_edge (h : BTH F K T ik tp SI SJ) (hp : ∀ F K T ik tp A B, BTH F K T ik tp A B → P A B) (a1 a2 : Int32) : DoL E 117 [(.ref 0), (.int a1), (.int a2)] SI SJ (fun r1 A B => DoL E 276 [(.ref 81), (.int a1), (.int a2)] A B (fun r3 A2 B2 => (r1 = r3 → P A2 B2) ∧ (¬ r1 = r3 → Z A2 B2))) := by
  obtain ⟨hi, hc, hr⟩ := h
  have w := hi.1.1
  obtain ⟨x1, l1, u1, e1⟩ := i3_of a1
  obtain ⟨x2, l2, u2, e2⟩ := i3_of a2
  refine sp_edgeC hc.1.1.1 hc.1.1.2.1 w.1.1 x1 x2 ⟨l1, u1⟩ ⟨l2, u2⟩ e1 e2 ?_
  refine sp_edge hr.1 w.1 x1 x2 ⟨l1, u1⟩ ⟨l2, u2⟩ e1 e2 ?_
  exact end_q hp hi hc hr FI.rf FJ.rf
theorem pr_place (h : BTH F K T ik tp SI SJ) (hp : ∀ F K T ik tp A B, BTH F K T ik tp A B → P A B) (a1 a2 : Int32) : DoI E 118 [(.ref 0), (.int a1), (.int a2)] SI SJ (fun r1 A B => DoI E 277 [(.ref 81), (.int a1), (.int a2)] A B (fun r3 A2 B2 => (r1 = r3 → P A2 B2) ∧ (¬ r1 = r3 → Z A2 B2))) := by
  obtain ⟨hi, hc, hr⟩ := h
  have w := hi.1.1
  obtain ⟨x1, l1, u1, e1⟩ := i3_of a1
  obtain ⟨x2, l2, u2, e2⟩ := i3_of a2
  refine sp_placeC hc.1.1 w x1 x2 ⟨l1, u1⟩ ⟨l2, u2⟩ e1 e2 ?_
  refine sp_place hr.1 w.1 w.2.1 w.2.2.2.1 x1 x2 ⟨l1, u1⟩ ⟨l2, u2⟩ e1 e2 ?_
  exact end_q hp hi hc hr FI.rf FJ.rf
theorem pr_inside (h : BTH F K T ik tp SI SJ) (hp : ∀ F K T ik tp A B, BTH F K T ik tp A B → P A B) (a1 a2 : Int32) : DoI E 119 [(.ref 0), (.int a1), (.int a2)] SI SJ (fun r1 A B => DoI E 278 [(.ref 81), (.int a1), (.int a2)] A B (fun r3 A2 B2 => (r1 = r3 → P A2 B2) ∧ (¬ r1 = r3 → Z A2 B2))) := by
  obtain ⟨hi, hc, hr⟩ := h
  have w := hi.1.1
  obtain ⟨x1, l1, u1, e1⟩ := i3_of a1
  obtain ⟨x2, l2, u2, e2⟩ := i3_of a2
  refine sp_insideC hc.1.1.1 w.1.1 x1 x2 ⟨l1, u1⟩ ⟨l2, u2⟩ e1 e2 ?_
  refine sp_inside hr.1 w.1.1 x1 x2 ⟨l1, u1⟩ ⟨l2, u2⟩ e1 e2 ?_
  exact end_q hp hi hc hr FI.rf FJ.rf
theorem pr_finger (h : BTH F K T ik tp SI SJ) (hp : ∀ F K T ik tp A B, BTH F K T ik tp A B → P A B) (a1 a2 : Int32) : DoI E 124 [(.ref 0), (.int a1), (.int a2)] SI SJ (fun r1 A B => DoI E 279 [(.ref 81), (.int a1), (.int a2)] A B (fun r3 A2 B2 => (r1 = r3 → P A2 B2) ∧ (¬ r1 = r3 → Z A2 B2))) := by
  obtain ⟨hi, hc, hr⟩ := h
  have w := hi.1.1
  obtain ⟨x1, l1, u1, e1⟩ := i3_of a1
  obtain ⟨x2, l2, u2, e2⟩ := i3_of a2
  refine sp_fingerC hc.1 w x1 x2 ⟨l1, u1⟩ ⟨l2, u2⟩ e1 e2 ?_
  refine sp_finger hr.1 w.1 w.2.1 w.2.2.1 w.2.2.2.1 x1 x2 ⟨l1, u1⟩ ⟨l2, u2⟩ e1 e2 (fun A2 B2 f2 g2 => ?_)
  exact end_q hp hi hc hr (qLI1 f2) (jLJ1 g2)
theorem pr_wrench (h : BTH F K T ik tp SI SJ) (hp : ∀ F K T ik tp A B, BTH F K T ik tp A B → P A B) (a1 a2 : Int32) : DoL E 125 [(.ref 0), (.int a1), (.int a2)] SI SJ (fun r1 A B => DoL E 280 [(.ref 81), (.int a1), (.int a2)] A B (fun r3 A2 B2 => (r1 = r3 → P A2 B2) ∧ (¬ r1 = r3 → Z A2 B2))) := by
  obtain ⟨hi, hc, hr⟩ := h
  have w := hi.1.1
  obtain ⟨x1, l1, u1, e1⟩ := i3_of a1
  obtain ⟨x2, l2, u2, e2⟩ := i3_of a2
  refine sp_wrenchC hc.1.2.1 w.2.2.1 x1 x2 ⟨l1, u1⟩ ⟨l2, u2⟩ e1 e2 ?_
  refine sp_wrench hr.1 w.1 w.2.1 w.2.2.1 x1 x2 ⟨l1, u1⟩ ⟨l2, u2⟩ e1 e2 (fun A2 B2 f2 g2 => ?_)
  exact end_q hp hi hc hr (qLI1 f2) (jLJ1 g2)
theorem pr_free (h : BTH F K T ik tp SI SJ) (hp : ∀ F K T ik tp A B, BTH F K T ik tp A B → P A B) (a1 : Int32) : DoL E 135 [(.ref 0), (.int a1)] SI SJ (fun r1 A B => DoL E 245 [(.ref 81), (.int a1)] A B (fun r3 A2 B2 => (r1 = r3 → P A2 B2) ∧ (¬ r1 = r3 → Z A2 B2))) := by
  obtain ⟨hi, hc, hr⟩ := h
  have w := hi.1.1
  obtain ⟨x1, l1, u1, e1⟩ := i3_of a1
  refine sp_freeC hc.1 w x1 ⟨l1, u1⟩ e1 (fun A B f g hC => ?_)
  replace f := kLIfc f
  have hc2 := hc.k f hC
  have hr2 := hr.c (cLCI f)
  refine sp_free hr2.1 w.1 w.2.1 w.2.2.1 x1 ⟨l1, u1⟩ e1 (fun A2 B2 f2 g2 => ?_)
  exact end_q hp hi hc2 hr2 (qLI1 f2) (jLJ1 g2)
theorem pr_frees (h : BTH F K T ik tp SI SJ) (hp : ∀ F K T ik tp A B, BTH F K T ik tp A B → P A B) (a1 a2 : Int32) : DoL E 136 [(.ref 0), (.int a1), (.int a2)] SI SJ (fun r1 A B => DoL E 248 [(.ref 81), (.int a1), (.int a2)] A B (fun r3 A2 B2 => (r1 = r3 → P A2 B2) ∧ (¬ r1 = r3 → Z A2 B2))) := by
  obtain ⟨hi, hc, hr⟩ := h
  have w := hi.1.1
  obtain ⟨x1, l1, u1, e1⟩ := i3_of a1
  obtain ⟨x2, l2, u2, e2⟩ := i3_of a2
  refine sp_freesC hc.1 w x1 x2 ⟨l1, u1⟩ ⟨l2, u2⟩ e1 e2 (fun A B f g hC => ?_)
  replace f := kLIfc f
  have hc2 := hc.k f hC
  have hr2 := hr.c (cLCI f)
  refine sp_frees hr2.1 w.1 w.2.1 w.2.2.1 x1 x2 ⟨l1, u1⟩ ⟨l2, u2⟩ e1 e2 (fun A2 B2 f2 g2 => ?_)
  exact end_q hp hi hc2 hr2 (qLIg f2) (jLJg g2)
theorem pr_held (h : BTH F K T ik tp SI SJ) (hp : ∀ F K T ik tp A B, BTH F K T ik tp A B → P A B) (a1 a2 a3 : Int32) : DoI E 139 [(.ref 0), (.int a1), (.int a2), (.int a3)] SI SJ (fun r1 A B => DoI E 229 [(.ref 81), (.int a1), (.int a2), (.int a3)] A B (fun r3 A2 B2 => (r1 = r3 → P A2 B2) ∧ (¬ r1 = r3 → Z A2 B2))) := by
  obtain ⟨hi, hc, hr⟩ := h
  have w := hi.1.1
  obtain ⟨x1, l1, u1, e1⟩ := i3_of a1
  obtain ⟨x2, l2, u2, e2⟩ := i3_of a2
  obtain ⟨x3, l3, u3, e3⟩ := i3_of a3
  refine sp_heldC hc.1 w x1 x2 x3 ⟨l1, u1⟩ ⟨l2, u2⟩ ⟨l3, u3⟩ e1 e2 e3 (fun A B f g hC => ?_)
  have hc2 := hc.k f hC
  have hr2 := hr.c (cLCI f)
  refine sp_held hr2.1 w.1 w.2.1 w.2.2.1 x1 x2 x3 ⟨l1, u1⟩ ⟨l2, u2⟩ ⟨l3, u3⟩ e1 e2 e3 (fun A2 B2 f2 g2 => ?_)
  exact end_q hp hi hc2 hr2 (qLRI f2) (jLRJ g2)
theorem pr_effort (h : BTH F K T ik tp SI SJ) (hp : ∀ F K T ik tp A B, BTH F K T ik tp A B → P A B) (a1 a2 a3 a4 : Int32) : DoL E 140 [(.ref 0), (.int a1), (.int a2), (.int a3), (.int a4)] SI SJ (fun r1 A B => DoL E 230 [(.ref 81), (.int a1), (.int a2), (.int a3), (.int a4)] A B (fun r3 A2 B2 => (r1 = r3 → P A2 B2) ∧ (¬ r1 = r3 → Z A2 B2))) := by
  obtain ⟨hi, hc, hr⟩ := h
  have w := hi.1.1
  obtain ⟨x1, l1, u1, e1⟩ := i3_of a1
  obtain ⟨x2, l2, u2, e2⟩ := i3_of a2
  obtain ⟨x3, l3, u3, e3⟩ := i3_of a3
  obtain ⟨x4, l4, u4, e4⟩ := i3_of a4
  refine sp_effortC hc.1 w x1 x2 x3 x4 ⟨l1, u1⟩ ⟨l2, u2⟩ ⟨l3, u3⟩ ⟨l4, u4⟩ e1 e2 e3 e4 (fun A B f g hC => ?_)
  have hc2 := hc.k f hC
  have hr2 := hr.c (cLCI f)
  refine sp_effort hr2.1 w.1 w.2.1 w.2.2.1 x1 x2 x3 x4 ⟨l1, u1⟩ ⟨l2, u2⟩ ⟨l3, u3⟩ ⟨l4, u4⟩ e1 e2 e3 e4 (fun A2 B2 f2 g2 => ?_)
  exact end_q hp hi hc2 hr2 (qLRI f2) (jLRJ g2)
theorem pr_holder (h : BTH F K T ik tp SI SJ) (hp : ∀ F K T ik tp A B, BTH F K T ik tp A B → P A B) (a1 a2 a3 a4 a5 : Int32) : DoL E 141 [(.ref 0), (.int a1), (.int a2), (.int a3), (.int a4), (.int a5)] SI SJ (fun r1 A B => DoL E 231 [(.ref 81), (.int a1), (.int a2), (.int a3), (.int a4), (.int a5)] A B (fun r3 A2 B2 => (r1 = r3 → P A2 B2) ∧ (¬ r1 = r3 → Z A2 B2))) := by
  obtain ⟨hi, hc, hr⟩ := h
  have w := hi.1.1
  obtain ⟨x1, l1, u1, e1⟩ := i3_of a1
  obtain ⟨x2, l2, u2, e2⟩ := i3_of a2
  obtain ⟨x3, l3, u3, e3⟩ := i3_of a3
  obtain ⟨x4, l4, u4, e4⟩ := i3_of a4
  obtain ⟨x5, l5, u5, e5⟩ := i3_of a5
  refine sp_holderC hc.1 w x1 x2 x3 x4 x5 ⟨l1, u1⟩ ⟨l2, u2⟩ ⟨l3, u3⟩ ⟨l4, u4⟩ ⟨l5, u5⟩ e1 e2 e3 e4 e5 (fun A B f g hC => ?_)
  have hc2 := hc.k f hC
  have hr2 := hr.c (cLCI f)
  refine sp_holder hr2.1 w.1 w.2.1 w.2.2.1 x1 x2 x3 x4 x5 ⟨l1, u1⟩ ⟨l2, u2⟩ ⟨l3, u3⟩ ⟨l4, u4⟩ ⟨l5, u5⟩ e1 e2 e3 e4 e5 (fun A2 B2 f2 g2 => ?_)
  exact end_q hp hi hc2 hr2 (qLRI f2) (jLRJ g2)
theorem pr_weak (h : BTH F K T ik tp SI SJ) (hp : ∀ F K T ik tp A B, BTH F K T ik tp A B → P A B) (a1 : Int32) : DoL E 137 [(.ref 0), (.int a1)] SI SJ (fun r1 A B => DoL E 254 [(.ref 81), (.int a1)] A B (fun r3 A2 B2 => (r1 = r3 → P A2 B2) ∧ (¬ r1 = r3 → Z A2 B2))) := by
  obtain ⟨hi, hc, hr⟩ := h
  have w := hi.1.1
  obtain ⟨x1, l1, u1, e1⟩ := i3_of a1
  refine sp_weakC hc.1 w x1 ⟨l1, u1⟩ e1 (fun A B f g hC => ?_)
  have hc2 := hc.k f hC
  have hr2 := hr.c (cLCI f)
  refine sp_weak hr2.1 w.1 w.2.1 w.2.2.1 (side_all _ _) x1 ⟨l1, u1⟩ e1 (fun A2 B2 f2 g2 => ?_)
  exact end_q hp hi hc2 hr2 (qLRI f2) (jLRJ g2)
theorem pr_proof (h : BTH F K T ik tp SI SJ) (hp : ∀ F K T ik tp A B, BTH F K T ik tp A B → P A B) (a1 : Int32) : DoL E 138 [(.ref 0), (.int a1)] SI SJ (fun r1 A B => DoL E 258 [(.ref 81), (.int a1)] A B (fun r3 A2 B2 => (r1 = r3 → P A2 B2) ∧ (¬ r1 = r3 → Z A2 B2))) := by
  obtain ⟨hi, hc, hr⟩ := h
  have w := hi.1.1
  obtain ⟨x1, l1, u1, e1⟩ := i3_of a1
  refine sp_proofC hc.1 w x1 ⟨l1, u1⟩ e1 ?_
  refine sp_proof hr.1 w.1 w.2.1 w.2.2.1 x1 ⟨l1, u1⟩ e1 (fun A2 B2 f2 g2 => ?_)
  exact end_q hp hi hc hr (qLI1 f2) (jLJ1 g2)
theorem pr_safe (h : BTH F K T ik tp SI SJ) (hp : ∀ F K T ik tp A B, BTH F K T ik tp A B → P A B) (a1 : Int32) : DoI E 130 [(.ref 0), (.int a1)] SI SJ (fun r1 A B => DoI E 262 [(.ref 81), (.int a1)] A B (fun r3 A2 B2 => (r1 = r3 → P A2 B2) ∧ (¬ r1 = r3 → Z A2 B2))) := by
  obtain ⟨hi, hc, hr⟩ := h
  have w := hi.1.1
  obtain ⟨x1, l1, u1, e1⟩ := i3_of a1
  refine sp_safeC hc.1.1.2.2.1.1 hc.1.2.1 w x1 ⟨l1, u1⟩ e1 ?_
  refine sp_safe hr.1 w.1 w.2.1 w.2.2.1 x1 ⟨l1, u1⟩ e1 (fun A2 B2 f2 g2 => ?_)
  exact end_q hp hi hc hr (qLI1 f2) (jLJ1 g2)
theorem pr_best (h : BTH F K T ik tp SI SJ) (hp : ∀ F K T ik tp A B, BTH F K T ik tp A B → P A B) (a1 : Int32) : DoL E 133 [(.ref 0), (.int a1)] SI SJ (fun r1 A B => DoL E 263 [(.ref 81), (.int a1)] A B (fun r3 A2 B2 => (r1 = r3 → P A2 B2) ∧ (¬ r1 = r3 → Z A2 B2))) := by
  obtain ⟨hi, hc, hr⟩ := h
  have w := hi.1.1
  obtain ⟨x1, l1, u1, e1⟩ := i3_of a1
  refine sp_bestC hc.1 w x1 ⟨l1, u1⟩ e1 (fun A B f g hC => ?_)
  have hc2 := hc.k f hC
  have hr2 := hr.c (cLCI f)
  refine sp_best hr2.1 w.1 w.2.1 w.2.2.1 w.2.2.2.1 side_all x1 ⟨l1, u1⟩ e1 (fun A2 B2 f2 g2 => ?_)
  exact end_q hp hi hc2 hr2 (qLRI f2) (jLRJ g2)
theorem pr_two (h : BTH F K T ik tp SI SJ) (hp : ∀ F K T ik tp A B, BTH F K T ik tp A B → P A B) (a1 : Int32) : DoL E 134 [(.ref 0), (.int a1)] SI SJ (fun r1 A B => DoL E 264 [(.ref 81), (.int a1)] A B (fun r3 A2 B2 => (r1 = r3 → P A2 B2) ∧ (¬ r1 = r3 → Z A2 B2))) := by
  obtain ⟨hi, hc, hr⟩ := h
  have w := hi.1.1
  obtain ⟨x1, l1, u1, e1⟩ := i3_of a1
  refine sp_twoC hc.1 w x1 ⟨l1, u1⟩ e1 (fun A B f g hC => ?_)
  have hc2 := hc.k f hC
  have hr2 := hr.c (cLCI f)
  refine sp_two hr2.1 w.1 w.2.1 side_all x1 ⟨l1, u1⟩ e1 (fun A2 B2 f2 g2 => ?_)
  exact end_q hp hi hc2 hr2 (qLRI f2) (jLRJ g2)
theorem pr_slide (h : BTH F K T ik tp SI SJ) (hp : ∀ F K T ik tp A B, BTH F K T ik tp A B → P A B) (a1 a2 : Int32) : DoI E 131 [(.ref 0), (.int a1), (.int a2)] SI SJ (fun r1 A B => DoI E 266 [(.ref 81), (.int a1), (.int a2)] A B (fun r3 A2 B2 => (r1 = r3 → P A2 B2) ∧ (¬ r1 = r3 → Z A2 B2))) := by
  obtain ⟨hi, hc, hr⟩ := h
  have w := hi.1.1
  obtain ⟨x1, l1, u1, e1⟩ := i3_of a1
  obtain ⟨x2, l2, u2, e2⟩ := i3_of a2
  refine sp_slideC hc.1 w x1 x2 ⟨l1, u1⟩ ⟨l2, u2⟩ e1 e2 (fun A B f g hC => ?_)
  have hc2 := hc.k f hC
  have hr2 := hr.c (cLCI f)
  refine sp_slide hr2.1 w.1 w.2.1 w.2.2.1 w.2.2.2.1 x1 x2 ⟨l1, u1⟩ ⟨l2, u2⟩ e1 e2 (fun A2 B2 f2 g2 => ?_)
  exact end_q hp hi hc2 hr2 (qLI1 f2) (jLJ1 g2)
theorem pr_rough (hE : Tbr E) (h : BTH F K T ik tp SI SJ) (hp : ∀ F K T ik tp A B, BTH F K T ik tp A B → P A B) (a1 : Int32) : DoI E 132 [(.ref 0), (.int a1)] SI SJ (fun r1 A B => DoI E 267 [(.ref 81), (.int a1)] A B (fun r3 A2 B2 => (r1 = r3 → P A2 B2) ∧ (¬ r1 = r3 → Z A2 B2))) := by
  obtain ⟨hi, hc, hr⟩ := h
  have w := hi.1.1
  obtain ⟨x1, l1, u1, e1⟩ := i3_of a1
  refine sp_roughC hE hc.1 w x1 ⟨l1, u1⟩ e1 (fun A B f g hC => ?_)
  have hc2 := hc.k f hC
  have hr2 := hr.c (cLCI f)
  refine sp_rough hr2.1 w.1 w.2.1 w.2.2.1 x1 ⟨l1, u1⟩ e1 (fun A2 B2 f2 g2 => ?_)
  exact end_q hp hi hc2 hr2 (qLI1 f2) (jLJ1 g2)
theorem pr_opposite (h : BTH F K T ik tp SI SJ) (hp : ∀ F K T ik tp A B, BTH F K T ik tp A B → P A B) (a1 a2 : Int32) : DoI E 120 [(.ref 0), (.int a1), (.int a2)] SI SJ (fun r1 A B => DoI E 270 [(.ref 81), (.int a1), (.int a2)] A B (fun r3 A2 B2 => (r1 = r3 → P A2 B2) ∧ (¬ r1 = r3 → Z A2 B2))) := by
  obtain ⟨hi, hc, hr⟩ := h
  have w := hi.1.1
  obtain ⟨x1, l1, u1, e1⟩ := i3_of a1
  obtain ⟨x2, l2, u2, e2⟩ := i3_of a2
  refine sp_oppositeC hc.1.1 w x1 x2 ⟨l1, u1⟩ ⟨l2, u2⟩ e1 e2 ?_
  refine sp_opposite hr.1 w.1 w.2.1 x1 x2 ⟨l1, u1⟩ ⟨l2, u2⟩ e1 e2 ?_
  exact end_q hp hi hc hr FI.rf FJ.rf
theorem pr_weight (h : BTH F K T ik tp SI SJ) (hp : ∀ F K T ik tp A B, BTH F K T ik tp A B → P A B) (a1 a2 a3 : Int32) : DoL E 147 [(.ref 0), (.int a1), (.int a2), (.int a3)] SI SJ (fun r1 A B => DoL E 234 [(.ref 81), (.int a1), (.int a2), (.int a3)] A B (fun r3 A2 B2 => (r1 = r3 → P A2 B2) ∧ (¬ r1 = r3 → Z A2 B2))) := by
  obtain ⟨hi, hc, hr⟩ := h
  have w := hi.1.1
  obtain ⟨x1, l1, u1, e1⟩ := i3_of a1
  obtain ⟨x2, l2, u2, e2⟩ := i3_of a2
  obtain ⟨x3, l3, u3, e3⟩ := i3_of a3
  refine sp_weightC hc.1 w hi.1.2 x1 x2 x3 ⟨l1, u1⟩ ⟨l2, u2⟩ ⟨l3, u3⟩ e1 e2 e3 (fun A B f g hC => ?_)
  have hc2 := hc.k f hC
  have hr2 := hr.c (cLCI f)
  refine sp_weight hr2.1 w.1 w.2.1 w.2.2.1 hi.1.2 x1 x2 x3 ⟨l1, u1⟩ ⟨l2, u2⟩ ⟨l3, u3⟩ e1 e2 e3 (fun A2 B2 f2 g2 => ?_)
  exact end_q hp hi hc2 hr2 (qLRI f2) (jLRJ g2)
theorem pr_tilt (hE : Tbl E) (h : BTH F K T ik tp SI SJ) (hp : ∀ F K T ik tp A B, BTH F K T ik tp A B → P A B) (a1 : Int32) : DoI E 149 [(.ref 0), (.int a1)] SI SJ (fun r1 A B => DoI E 235 [(.ref 81), (.int a1)] A B (fun r3 A2 B2 => (r1 = r3 → P A2 B2) ∧ (¬ r1 = r3 → Z A2 B2))) := by
  obtain ⟨hi, hc, hr⟩ := h
  have w := hi.1.1
  obtain ⟨x1, l1, u1, e1⟩ := i3_of a1
  refine sp_tiltC hE hc.1 w hi.1.2 x1 ⟨l1, u1⟩ e1 (fun A B f g hC => ?_)
  have hc2 := hc.k f hC
  have hr2 := hr.c (cLCI f)
  refine sp_tilt hr2.1 w.1 w.2.1 w.2.2.1 hi.1.2 x1 ⟨l1, u1⟩ e1 (fun A2 B2 f2 g2 => ?_)
  exact end_q hp hi hc2 hr2 (qLRI f2) (jLRJ g2)
theorem pr_storm (h : BTH F K T ik tp SI SJ) (hp : ∀ F K T ik tp A B, BTH F K T ik tp A B → P A B) (a1 a2 : Int32) : DoI E 150 [(.ref 0), (.int a1), (.int a2)] SI SJ (fun r1 A B => DoI E 237 [(.ref 81), (.int a1), (.int a2)] A B (fun r3 A2 B2 => (r1 = r3 → P A2 B2) ∧ (¬ r1 = r3 → Z A2 B2))) := by
  obtain ⟨hi, hc, hr⟩ := h
  have w := hi.1.1
  obtain ⟨x1, l1, u1, e1⟩ := i3_of a1
  obtain ⟨x2, l2, u2, e2⟩ := i3_of a2
  refine sp_stormC hc.1 w x1 x2 ⟨l1, u1⟩ ⟨l2, u2⟩ e1 e2 (fun A B f g hC => ?_)
  have hc2 := hc.k f hC
  have hr2 := hr.c (cLCI f)
  refine sp_storm hr2.1 w.1 w.2.1 w.2.2.1 ⟨w.2.2.2.2.2.1, w.2.2.2.2.2.2.1⟩ x1 x2 ⟨l1, u1⟩ ⟨l2, u2⟩ e1 e2 (fun A2 B2 f2 g2 => ?_)
  exact end_q hp hi hc2 hr2 (qLRI f2) (jLRJ g2)
theorem pr_past (h : BTH F K T ik tp SI SJ) (hp : ∀ F K T ik tp A B, BTH F K T ik tp A B → P A B) (a1 a2 : Int32) : DoI E 109 [(.ref 0), (.int a1), (.int a2)] SI SJ (fun r1 A B => DoI E 197 [(.ref 81), (.int a1), (.int a2)] A B (fun r3 A2 B2 => (r1 = r3 → P A2 B2) ∧ (¬ r1 = r3 → Z A2 B2))) := by
  obtain ⟨hi, hc, hr⟩ := h
  have w := hi.1.1
  obtain ⟨x1, l1, u1, e1⟩ := i3_of a1
  obtain ⟨x2, l2, u2, e2⟩ := i3_of a2
  refine sp_pastC hc.1.1.2.2.2.1 ⟨w.2.2.2.2.1.1, w.2.2.2.2.1.2.1⟩ x1 x2 ⟨l1, u1⟩ ⟨l2, u2⟩ e1 e2 ?_
  refine sp_past hr.1 w x1 x2 ⟨l1, u1⟩ ⟨l2, u2⟩ e1 e2 ?_
  exact end_q hp hi hc hr FI.rf FJ.rf
theorem pr_put (h : BTH F K T ik tp SI SJ) (hp : ∀ F K T ik tp A B, BTH F K T ik tp A B → P A B) (a1 a2 : Int32) : DoI E 100 [(.ref 0), (.int a1), (.int a2)] SI SJ (fun r1 A B => DoI E 198 [(.ref 81), (.int a1), (.int a2)] A B (fun r3 A2 B2 => (r1 = r3 → P A2 B2) ∧ (¬ r1 = r3 → Z A2 B2))) := by
  obtain ⟨hi, hc, hr⟩ := h
  have w := hi.1.1
  obtain ⟨x1, l1, u1, e1⟩ := i3_of a1
  obtain ⟨x2, l2, u2, e2⟩ := i3_of a2
  refine st_100 _ _ SI SJ (sp_putC hc.1 w x1 x2 ⟨l1, u1⟩ ⟨l2, u2⟩ e1 e2 (fun A B f g hC => ?_))
  have hr2 := hr.c (cLCI f)
  refine sp_put hr2.1 w x1 x2 ⟨l1, u1⟩ ⟨l2, u2⟩ e1 e2 (fun A2 B2 hR f2 g2 => ?_)
  exact end_m hp ⟨hi.1.put _ _, hi.2⟩ (hc.k f hC) hr2 hR (mLI2 f2) (jLJ1 g2)
theorem pr_take (h : BTH F K T ik tp SI SJ) (hp : ∀ F K T ik tp A B, BTH F K T ik tp A B → P A B) (a1 : Int32) : DoI E 102 [(.ref 0), (.int a1)] SI SJ (fun r1 A B => DoI E 200 [(.ref 81), (.int a1)] A B (fun r3 A2 B2 => (r1 = r3 → P A2 B2) ∧ (¬ r1 = r3 → Z A2 B2))) := by
  obtain ⟨hi, hc, hr⟩ := h
  have w := hi.1.1
  obtain ⟨x1, l1, u1, e1⟩ := i3_of a1
  refine st_102 _ SI SJ (sp_takeC hc.1 w x1 ⟨l1, u1⟩ e1 (fun A B f g hC => ?_))
  have hr2 := hr.c (cLCI f)
  refine sp_take hr2.1 w x1 ⟨l1, u1⟩ e1 (fun A2 B2 hR f2 g2 => ?_)
  exact end_m hp ⟨hi.1.take _, hi.2⟩ (hc.k f hC) hr2 hR (mLI2 f2) (jLJ1 g2)
theorem pr_tread (h : BTH F K T ik tp SI SJ) (hp : ∀ F K T ik tp A B, BTH F K T ik tp A B → P A B) (a1 a2 : Int32) : DoI E 104 [(.ref 0), (.int a1), (.int a2)] SI SJ (fun r1 A B => DoI E 201 [(.ref 81), (.int a1), (.int a2)] A B (fun r3 A2 B2 => (r1 = r3 → P A2 B2) ∧ (¬ r1 = r3 → Z A2 B2))) := by
  obtain ⟨hi, hc, hr⟩ := h
  have w := hi.1.1
  obtain ⟨x1, l1, u1, e1⟩ := i3_of a1
  obtain ⟨x2, l2, u2, e2⟩ := i3_of a2
  refine st_104 _ _ SI SJ (sp_treadC hc.1 w x1 x2 ⟨l1, u1⟩ ⟨l2, u2⟩ e1 e2 (fun A B f g hC => ?_))
  have hr2 := hr.c (cLCI f)
  refine sp_tread hr2.1 w x1 x2 ⟨l1, u1⟩ ⟨l2, u2⟩ e1 e2 (fun A2 B2 hR f2 g2 => ?_)
  exact end_m hp ⟨hi.1.tread _ _, hi.2⟩ (hc.k f hC) hr2 hR (mLI2 f2) (jLJ1 g2)
theorem pr_centre (h : BTH F K T ik tp SI SJ) (hp : ∀ F K T ik tp A B, BTH F K T ik tp A B → P A B) (a1 a2 : Int32) : DoI E 106 [(.ref 0), (.int a1), (.int a2)] SI SJ (fun r1 A B => DoI E 202 [(.ref 81), (.int a1), (.int a2)] A B (fun r3 A2 B2 => (r1 = r3 → P A2 B2) ∧ (¬ r1 = r3 → Z A2 B2))) := by
  obtain ⟨hi, hc, hr⟩ := h
  have w := hi.1.1
  obtain ⟨x1, l1, u1, e1⟩ := i3_of a1
  obtain ⟨x2, l2, u2, e2⟩ := i3_of a2
  refine st_106 _ _ SI SJ (sp_centreC hc.1 w x1 x2 ⟨l1, u1⟩ ⟨l2, u2⟩ e1 e2 (fun A B f g hC => ?_))
  have hr2 := hr.c (cLCI f)
  refine sp_centre hr2.1 w x1 x2 ⟨l1, u1⟩ ⟨l2, u2⟩ e1 e2 (fun A2 B2 hR f2 g2 => ?_)
  exact end_m hp ⟨hi.1.centre _ _, hi.2⟩ (hc.k f hC) hr2 hR (mLI2 f2) (jLJ1 g2)
theorem pr_turn (h : BTH F K T ik tp SI SJ) (hp : ∀ F K T ik tp A B, BTH F K T ik tp A B → P A B) : DoI E 108 [(.ref 0)] SI SJ (fun r1 A B => DoI E 204 [(.ref 81)] A B (fun r3 A2 B2 => (r1 = r3 → P A2 B2) ∧ (¬ r1 = r3 → Z A2 B2))) := by
  obtain ⟨hi, hc, hr⟩ := h
  have w := hi.1.1
  refine sp_turnC hc.1 w  (fun A B f g hC => ?_)
  have hr2 := hr.c (cLCI f)
  refine sp_turn hr2.1 w  (fun A2 B2 hR f2 g2 => ?_)
  exact end_m hp ⟨hi.1.turn, hi.2⟩ (hc.k f hC) hr2 hR (mLI2 f2) (jLJ1 g2)
theorem pr_seed (h : BTH F K T ik tp SI SJ) (hp : ∀ F K T ik tp A B, BTH F K T ik tp A B → P A B) (a1 : Int32) : DoI E 110 [(.ref 0), (.int a1)] SI SJ (fun r1 A B => DoI E 238 [(.ref 81), (.int a1)] A B (fun r3 A2 B2 => (r1 = r3 → P A2 B2) ∧ (¬ r1 = r3 → Z A2 B2))) := by
  obtain ⟨hi, hc, hr⟩ := h
  have w := hi.1.1
  obtain ⟨x1, l1, u1, e1⟩ := i3_of a1
  refine sp_seedC hc.1 w x1 ⟨l1, u1⟩ e1 (fun A f hC => ?_)
  have hr2 := hr.c (cLCI f)
  refine sp_seed hr2.1 x1 ⟨l1, u1⟩ e1 (fun A2 hR f2 => ?_)
  exact end_m hp ⟨hi.1.seed _, hi.2⟩ (hc.k f hC) hr2 hR (mLI2 f2) FJ.rf
theorem pr_plate (h : BTH F K T ik tp SI SJ) (hp : ∀ F K T ik tp A B, BTH F K T ik tp A B → P A B) (a1 : Int32) : DoI E 92 [(.ref 0), (.int a1)] SI SJ (fun r1 A B => DoI E 215 [(.ref 81), (.int a1)] A B (fun r3 A2 B2 => (r1 = r3 → P A2 B2) ∧ (¬ r1 = r3 → Z A2 B2))) := by
  obtain ⟨hi, hc, hr⟩ := h
  have w := hi.1.1
  obtain ⟨x1, l1, u1, e1⟩ := i3_of a1
  refine sp_plateC hc.1 w tp hc.2.1 x1 ⟨l1, u1⟩ e1 (fun A B f g hT hC => ?_)
  have hr2 := hr.c (cLTX f)
  have hc2 := hc.t f hT hC
  refine sp_plate hr2.1 w.1.1 hr2.2.2.1 tp x1 ⟨l1, u1⟩ hr2.2.2.2.1 hc.2.1.2.2 e1 (fun A2 hR ht2 f2 => ?_)
  exact end_t hp ⟨hi.1.plate T tp x1, hi.2⟩ hc2 hr2 hR (hr2.2.2.1.f f2 (fun k => by unfold LPl LLy LRC; omega)) ht2 (tLPl f2) FJ.rf
theorem pr_orders (h : BTH F K T ik tp SI SJ) (hp : ∀ F K T ik tp A B, BTH F K T ik tp A B → P A B) (a1 : Int32) : DoI E 93 [(.ref 0), (.int a1)] SI SJ (fun r1 A B => DoI E 218 [(.ref 81), (.int a1)] A B (fun r3 A2 B2 => (r1 = r3 → P A2 B2) ∧ (¬ r1 = r3 → Z A2 B2))) := by
  obtain ⟨hi, hc, hr⟩ := h
  have w := hi.1.1
  obtain ⟨x1, l1, u1, e1⟩ := i3_of a1
  refine sp_ordersC hc.1 w tp hc.2.1 x1 ⟨l1, u1⟩ e1 (fun A B f g hT hC => ?_)
  have hr2 := hr.c (cLTX f)
  have hc2 := hc.t f hT hC
  refine sp_orders hr2.1 w hr2.2.2.1 tp x1 ⟨l1, u1⟩ hr2.2.2.2.1 hc.2.1.2.2 e1 (fun A2 B2 hR ht2 f2 g2 => ?_)
  exact end_t hp ⟨hi.1.orders T tp x1, hi.2⟩ hc2 hr2 hR (hr2.2.2.1.f f2 (fun k => by unfold LOr LRC LI2 LI1; omega)) ht2 (tLOr f2) (jLOJ g2)
theorem pr_loads (h : BTH F K T ik tp SI SJ) (hp : ∀ F K T ik tp A B, BTH F K T ik tp A B → P A B) (a1 : Int32) : DoI E 95 [(.ref 0), (.int a1)] SI SJ (fun r1 A B => DoI E 220 [(.ref 81), (.int a1)] A B (fun r3 A2 B2 => (r1 = r3 → P A2 B2) ∧ (¬ r1 = r3 → Z A2 B2))) := by
  obtain ⟨hi, hc, hr⟩ := h
  have w := hi.1.1
  obtain ⟨x1, l1, u1, e1⟩ := i3_of a1
  refine sp_loadsC hc.1 w tp hc.2.1 x1 ⟨l1, u1⟩ e1 (fun A f hT hC => ?_)
  have hr2 := hr.c (cLTX f)
  have hc2 := hc.t f hT hC
  refine sp_loads hr2.1  hr2.2.2.1 tp x1 ⟨l1, u1⟩ hr2.2.2.2.1 hc.2.1.2.2 e1 (fun A2 hR ht2 f2 => ?_)
  exact end_t hp ⟨hi.1.loads T tp x1, hi.2⟩ hc2 hr2 hR (hr2.2.2.1.f f2 (fun k => by unfold LOr LRC LI2 LI1; omega)) ht2 (tLOr f2) FJ.rf
theorem pr_feed (h : BTH F K T ik tp SI SJ) (hp : ∀ F K T ik tp A B, BTH F K T ik tp A B → P A B) (a1 a2 a3 a4 a5 : Int32) : DoI E 91 [(.ref 0), (.int a1), (.int a2), (.int a3), (.int a4), (.int a5)] SI SJ (fun r1 A B => DoI E 206 [(.ref 81), (.int a1), (.int a2), (.int a3), (.int a4), (.int a5)] A B (fun r3 A2 B2 => (r1 = r3 → P A2 B2) ∧ (¬ r1 = r3 → Z A2 B2))) := by
  obtain ⟨hi, hc, hr⟩ := h
  have w := hi.1.1
  refine sp_feedC tp hc.2.1 (fun A hT f => ?_)
  have hr2 := hr.c (cLCT f)
  have hC : CNT F A SJ := hc.1.same f (fun o k z => by unfold LCT; omega)
  refine sp_feed hr2.2.2.1 tp hr2.2.2.2.1 hc.2.1.2.2 (fun A2 hT2 ht2 f2 => ?_)
  exact end_t hp hi (hc.t (f.le (fun o k z => Or.inl z)) hT hC) hr2 (hr2.1.f f2 (fun k => by unfold LFd; omega)) hT2 ht2 (f2.le (fun o k z => by unfold LFd at z; unfold LMt; omega)) FJ.rf
theorem pr_check (h : BTH F K T ik tp SI SJ) (hp : ∀ F K T ik tp A B, BTH F K T ik tp A B → P A B) (a1 : Int32) : DoI E 98 [(.ref 0), (.int a1)] SI SJ (fun r1 A B => DoI E 283 [(.ref 81), (.int a1)] A B (fun r3 A2 B2 => (r1 = r3 → P A2 B2) ∧ (¬ r1 = r3 → Z A2 B2))) := by
  obtain ⟨hi, hc, hr⟩ := h
  have w := hi.1.1
  obtain ⟨x1, l1, u1, e1⟩ := i3_of a1
  refine sp_checkC hc.1.1 w.2.2.2.1 tp hc.2.1 x1 ⟨l1, u1⟩ e1 (fun A hT f => ?_)
  have hr2 := hr.c (cLCT f)
  have hC : CNT F A SJ := hc.1.same f (fun o k z => by unfold LCT; omega)
  refine sp_check hr2.1 w.2.2.2.1 hr2.2.2.1 tp x1 ⟨l1, u1⟩ hr2.2.2.2.1 hc.2.1.2.2 e1 (fun A2 ht2 f2 => ?_)
  exact end_t hp hi (hc.t (f.le (fun o k z => Or.inl z)) hT hC) hr2 (hr2.1.f f2 (fun k => by omega)) (hr2.2.2.1.f f2 (fun k => by omega)) ht2 (f2.le (fun o k z => by unfold LMt; omega)) FJ.rf
theorem pr_keep (h : BTH F K T ik tp SI SJ) (hp : ∀ F K T ik tp A B, BTH F K T ik tp A B → P A B) : DoI E 111 [(.ref 0)] SI SJ (fun r1 A B => DoI E 281 [(.ref 81)] A B (fun r3 A2 B2 => (r1 = r3 → P A2 B2) ∧ (¬ r1 = r3 → Z A2 B2))) := by
  obtain ⟨hi, hc, hr⟩ := h
  have w := hi.1.1
  refine sp_keepC hc.1 w (fun A f hC hK h11 => ?_)
  have hr2 := hr.c (f.le (fun o k z => by unfold LCcl; omega))
  refine sp_keep hr2.1 (fun A2 hR hRK h3 f2 => ?_)
  have hcl : CLS F F T true tp A SJ := ⟨hC, hc.2.1.f f ⟨by omega, fun k => by omega⟩, fun _ => hK, h11⟩
  exact ⟨fun _ => hp _ _ _ _ _ _ _ ⟨⟨hi.1, fun _ => hi.1⟩, hcl.r (f2.le (fun o k z => by unfold LRr; omega)) FJ.rf, ⟨hR, hRK, hr2.2.2.1.f f2 (fun k => by omega), by rw [f2 81 13 (by omega)]; exact hr2.2.2.2.1, h3⟩⟩, fun z => absurd rfl z⟩
theorem pr_undo (h : BTH F K T ik tp SI SJ) (hp : ∀ F K T ik tp A B, BTH F K T ik tp A B → P A B) : DoI E 112 [(.ref 0)] SI SJ (fun r1 A B => DoI E 282 [(.ref 81)] A B (fun r3 A2 B2 => (r1 = r3 → P A2 B2) ∧ (¬ r1 = r3 → Z A2 B2))) := by
  obtain ⟨hi, hc, hr⟩ := h
  have w := hi.1.1
  refine sp_undoC ik hc.1 w (fun e => ⟨hc.2.2.1 e, (hi.2 e).1⟩) hc.2.2.2 (fun A B f g hC => ?_)
  have hr2 := hr.c (cLCI f)
  refine sp_undo ik hr2.1 hr2.2.1 hr2.2.2.2.2 (fun A2 hR f2 => ?_)
  refine end_m hp ⟨?_, hi.2⟩ (hc.k f hC) hr2 hR (f2.le (fun o k z => by unfold LMm; omega)) FJ.rf
  cases ik with
  | false => exact hi.1
  | true => exact hi.2 rfl
end Pairs
