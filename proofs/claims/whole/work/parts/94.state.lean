/-! 94: the class's state; refresh, settle -/
theorem Ap.q {F G : Nat → Int} (h : Ap F G) (hW : Wc F) : pl G = pl F ∧ pn G = pn F ∧ pe G = pe F ∧ ps G = ps F := by
  have e1 : pl G = pl F := by
    funext e
    induction e with
    | zero => rfl
    | succ e ih => show pl G e + stp G e - 1 = pl F e + stp F e - 1; rw [ih, (h.s hW).1]
  have e3 : pe G = pe F := by funext i; unfold pe; rw [h.n, e1]
  refine ⟨e1, ?_, e3, ?_⟩
  · unfold pn; rw [e1, h.n]
  · funext i; unfold ps; rw [e1, e3]
theorem PX4.ap {F G : Nat → Int} {SI : gj_I} (h : PX4 F SI) (hp : Ap F G) (hW : Wc F) : PX4 G SI := by
  refine ⟨by rw [hp 0 (by decide)]; exact h.1, fun i hi => ?_⟩
  rw [hp.n] at hi
  rw [(hp.x hW).1, (hp.x hW).2]; exact h.2 i hi
theorem PD4.ap {F G : Nat → Int} {SI : gj_I} (h : PD4 F SI) (hp : Ap F G) (hW : Wc F) : PD4 G SI := by
  obtain ⟨h1, h2, h3⟩ := h
  obtain ⟨q1, q2, q3, q4⟩ := hp.q hW
  refine ⟨fun e he => ?_, by rw [q2]; exact h2, fun i hi => ?_⟩
  · rw [hp.n] at he
    rw [(hp.s hW).2.1, (hp.s hW).2.2.1, (hp.s hW).1]; exact h1 e he
  · rw [q2] at hi
    rw [q3, q4]; exact h3 i hi
theorem PX17.ap {F G : Nat → Int} {SI : gj_I} (h : PX17 F SI) (hp : Ap F G) (hW : Wc F) : PX17 G SI := by
  refine ⟨by rw [hp 0 (by decide)]; exact h.1, fun i hi => ?_⟩
  rw [hp.n] at hi
  rw [(hp.x hW).1, (hp.x hW).2]; exact h.2 i hi
theorem PD17.ap {F G : Nat → Int} {SI : gj_I} (h : PD17 F SI) (hp : Ap F G) (hW : Wc F) : PD17 G SI := by
  obtain ⟨h1, h2, h3⟩ := h
  obtain ⟨q1, q2, q3, q4⟩ := hp.q hW
  refine ⟨fun e he => ?_, by rw [q2]; exact h2, fun i hi => ?_⟩
  · rw [hp.n] at he
    rw [(hp.s hW).2.1, (hp.s hW).2.2.1, (hp.s hW).1]; exact h1 e he
  · rw [q2] at hi
    rw [q3, q4]; exact h3 i hi
def NSf3 (F : Nat → Int) (SI : gj_I) : Prop := SI 3 5 = i3 (F 17) ∧ (∀ i : Nat, (i : Int) < F 17 → SI 12 i = i3 (F (18 + i)) ∧ SI 13 i = i3 (F (24 + i))) ∧ SI 3 6 = i3 (F 30) ∧ SI 3 7 = i3 (F 31) ∧ SI 3 8 = i3 (F 32) ∧ SI 3 9 = i3 (F 33)
def NSh3 (F : Nat → Int) (SI : gj_I) : Prop := SI 3 11 = i3 (F 35) ∧ ∀ k w : Nat, (k : Int) < F 35 → w < 4 → SI 14 (4 * k + w) = i3 (F (36 + 4 * ((F 35).toNat - 1 - k) + w))
def NSx3 (F : Nat → Int) (SI : gj_I) : Prop := SI 3 10 = i3 (F 34) ∧ SI 3 12 = i3 (F 116) ∧ ∀ k : Nat, (k : Int) < 3 * F 116 → SI 15 k = i3 (F (117 + k))
def NS3 (F : Nat → Int) (SI : gj_I) : Prop := PX4 F SI ∧ PD4 F SI ∧ NSf3 F SI ∧ NSh3 F SI ∧ NSx3 F SI
theorem NSf3.f {F : Nat → Int} {SI A : gj_I} {L : Nat → Nat → Prop} (h : NSf3 F SI) (f : FI L SI A) (hl : (¬ L 3 5 ∧ ¬ L 3 6 ∧ ¬ L 3 7 ∧ ¬ L 3 8 ∧ ¬ L 3 9) ∧ ∀ k, ¬ L 12 k ∧ ¬ L 13 k) : NSf3 F A := by
  obtain ⟨h1, h2, h3, h4, h5, h6⟩ := h
  obtain ⟨⟨l1, l2, l3, l4, l5⟩, l6⟩ := hl
  refine ⟨by rw [f _ _ l1]; exact h1, fun i hi => ?_, by rw [f _ _ l2]; exact h3, by rw [f _ _ l3]; exact h4, by rw [f _ _ l4]; exact h5, by rw [f _ _ l5]; exact h6⟩
  rw [f _ _ (l6 i).1, f _ _ (l6 i).2]; exact h2 i hi
theorem NSh3.f {F : Nat → Int} {SI A : gj_I} {L : Nat → Nat → Prop} (h : NSh3 F SI) (f : FI L SI A) (hl : ¬ L 3 11 ∧ ∀ k, ¬ L 14 k) : NSh3 F A :=
  ⟨by rw [f _ _ hl.1]; exact h.1, fun k w h1 h2 => by rw [f _ _ (hl.2 _)]; exact h.2 k w h1 h2⟩
theorem NSx3.f {F : Nat → Int} {SI A : gj_I} {L : Nat → Nat → Prop} (h : NSx3 F SI) (f : FI L SI A) (hl : ¬ L 3 10 ∧ ¬ L 3 12 ∧ ∀ k, ¬ L 15 k) : NSx3 F A :=
  ⟨by rw [f _ _ hl.1]; exact h.1, by rw [f _ _ hl.2.1]; exact h.2.1, fun k h1 => by rw [f _ _ (hl.2.2 _)]; exact h.2.2 k h1⟩
theorem NSf3.c {F G : Nat → Int} {SI : gj_I} (h : NSf3 F SI) (e : ∀ k, 17 ≤ k → k < 34 → G k = F k) (h6 : F 17 ≤ 6) : NSf3 G SI := by
  obtain ⟨h1, h2, h3, h4, h5, h7⟩ := h
  refine ⟨by rw [e 17 (by decide) (by decide)]; exact h1, fun i hi => ?_, by rw [e 30 (by decide) (by decide)]; exact h3, by rw [e 31 (by decide) (by decide)]; exact h4, by rw [e 32 (by decide) (by decide)]; exact h5, by rw [e 33 (by decide) (by decide)]; exact h7⟩
  rw [e 17 (by decide) (by decide)] at hi
  rw [e _ (by omega) (by omega), e _ (by omega) (by omega)]; exact h2 i hi
theorem NSh3.c {F G : Nat → Int} {SI : gj_I} (h : NSh3 F SI) (e : ∀ k, 35 ≤ k → k < 116 → G k = F k) (h6 : 0 ≤ F 35 ∧ F 35 ≤ 20) : NSh3 G SI := by
  refine ⟨by rw [e 35 (by decide) (by decide)]; exact h.1, fun k w h1 h2 => ?_⟩
  rw [e 35 (by decide) (by decide)] at h1 ⊢
  rw [e _ (by omega) (by omega)]; exact h.2 k w h1 h2
theorem NSx3.c {F G : Nat → Int} {SI : gj_I} (h : NSx3 F SI) (e : ∀ k, k = 34 ∨ 116 ≤ k → G k = F k) : NSx3 G SI := by
  refine ⟨by rw [e 34 (Or.inl rfl)]; exact h.1, by rw [e 116 (Or.inr (by decide))]; exact h.2.1, fun k h1 => ?_⟩
  rw [e 116 (Or.inr (by decide))] at h1
  rw [e _ (by omega)]; exact h.2.2 k h1
def NSf16 (F : Nat → Int) (SI : gj_I) : Prop := SI 16 5 = i3 (F 17) ∧ (∀ i : Nat, (i : Int) < F 17 → SI 25 i = i3 (F (18 + i)) ∧ SI 26 i = i3 (F (24 + i))) ∧ SI 16 6 = i3 (F 30) ∧ SI 16 7 = i3 (F 31) ∧ SI 16 8 = i3 (F 32) ∧ SI 16 9 = i3 (F 33)
def NSh16 (F : Nat → Int) (SI : gj_I) : Prop := SI 16 11 = i3 (F 35) ∧ ∀ k w : Nat, (k : Int) < F 35 → w < 4 → SI 27 (4 * k + w) = i3 (F (36 + 4 * ((F 35).toNat - 1 - k) + w))
def NSx16 (F : Nat → Int) (SI : gj_I) : Prop := SI 16 10 = i3 (F 34) ∧ SI 16 12 = i3 (F 116) ∧ ∀ k : Nat, (k : Int) < 3 * F 116 → SI 28 k = i3 (F (117 + k))
def NS16 (F : Nat → Int) (SI : gj_I) : Prop := PX17 F SI ∧ PD17 F SI ∧ NSf16 F SI ∧ NSh16 F SI ∧ NSx16 F SI
theorem NSf16.f {F : Nat → Int} {SI A : gj_I} {L : Nat → Nat → Prop} (h : NSf16 F SI) (f : FI L SI A) (hl : (¬ L 16 5 ∧ ¬ L 16 6 ∧ ¬ L 16 7 ∧ ¬ L 16 8 ∧ ¬ L 16 9) ∧ ∀ k, ¬ L 25 k ∧ ¬ L 26 k) : NSf16 F A := by
  obtain ⟨h1, h2, h3, h4, h5, h6⟩ := h
  obtain ⟨⟨l1, l2, l3, l4, l5⟩, l6⟩ := hl
  refine ⟨by rw [f _ _ l1]; exact h1, fun i hi => ?_, by rw [f _ _ l2]; exact h3, by rw [f _ _ l3]; exact h4, by rw [f _ _ l4]; exact h5, by rw [f _ _ l5]; exact h6⟩
  rw [f _ _ (l6 i).1, f _ _ (l6 i).2]; exact h2 i hi
theorem NSh16.f {F : Nat → Int} {SI A : gj_I} {L : Nat → Nat → Prop} (h : NSh16 F SI) (f : FI L SI A) (hl : ¬ L 16 11 ∧ ∀ k, ¬ L 27 k) : NSh16 F A :=
  ⟨by rw [f _ _ hl.1]; exact h.1, fun k w h1 h2 => by rw [f _ _ (hl.2 _)]; exact h.2 k w h1 h2⟩
theorem NSx16.f {F : Nat → Int} {SI A : gj_I} {L : Nat → Nat → Prop} (h : NSx16 F SI) (f : FI L SI A) (hl : ¬ L 16 10 ∧ ¬ L 16 12 ∧ ∀ k, ¬ L 28 k) : NSx16 F A :=
  ⟨by rw [f _ _ hl.1]; exact h.1, by rw [f _ _ hl.2.1]; exact h.2.1, fun k h1 => by rw [f _ _ (hl.2.2 _)]; exact h.2.2 k h1⟩
theorem NSf16.c {F G : Nat → Int} {SI : gj_I} (h : NSf16 F SI) (e : ∀ k, 17 ≤ k → k < 34 → G k = F k) (h6 : F 17 ≤ 6) : NSf16 G SI := by
  obtain ⟨h1, h2, h3, h4, h5, h7⟩ := h
  refine ⟨by rw [e 17 (by decide) (by decide)]; exact h1, fun i hi => ?_, by rw [e 30 (by decide) (by decide)]; exact h3, by rw [e 31 (by decide) (by decide)]; exact h4, by rw [e 32 (by decide) (by decide)]; exact h5, by rw [e 33 (by decide) (by decide)]; exact h7⟩
  rw [e 17 (by decide) (by decide)] at hi
  rw [e _ (by omega) (by omega), e _ (by omega) (by omega)]; exact h2 i hi
theorem NSh16.c {F G : Nat → Int} {SI : gj_I} (h : NSh16 F SI) (e : ∀ k, 35 ≤ k → k < 116 → G k = F k) (h6 : 0 ≤ F 35 ∧ F 35 ≤ 20) : NSh16 G SI := by
  refine ⟨by rw [e 35 (by decide) (by decide)]; exact h.1, fun k w h1 h2 => ?_⟩
  rw [e 35 (by decide) (by decide)] at h1 ⊢
  rw [e _ (by omega) (by omega)]; exact h.2 k w h1 h2
theorem NSx16.c {F G : Nat → Int} {SI : gj_I} (h : NSx16 F SI) (e : ∀ k, k = 34 ∨ 116 ≤ k → G k = F k) : NSx16 G SI := by
  refine ⟨by rw [e 34 (Or.inl rfl)]; exact h.1, by rw [e 116 (Or.inr (by decide))]; exact h.2.1, fun k h1 => ?_⟩
  rw [e 116 (Or.inr (by decide))] at h1
  rw [e _ (by omega)]; exact h.2.2 k h1
/-- the wrenches at hand, rank, firmness -/
def GR (F : Nat → Int) (SI : gj_I) (SJ : gj_J) : Prop := LB42 (WW F) (fun j => ((j / fc F : Nat) : Int)) (nW F) SI SJ ∧ PB42 (WW F) (nW F) SI SJ ∧ SI 0 12 = i3 (rkF F) ∧ SI 0 13 = ibc (firmF F)
def LIg2 (o k : Nat) : Prop := o = 46 ∨ o = 50 ∨ o = 51 ∨ (o = 42 ∧ k = 9) ∨ (o = 0 ∧ (k = 12 ∨ k = 13)) ∨ (o = 65 ∧ (k = 4 ∨ k = 5))
def LJg2 (o _k : Nat) : Prop := 43 ≤ o ∧ o ≤ 49
section Refresh
variable {E : gj_E} {SI : gj_I} {SJ : gj_J} {F : Nat → Int}
theorem sp_refresh {Q : gj_I → gj_J → Prop} (hX : PX4 F SI) (hD : PD4 F SI) (hf : NSf3 F SI) (hW : Wp F) (hT : Wt F) (hN : Wn F) (h : ∀ SI' SJ', FI LIg2 SI SI' → FJ LJg2 SJ SJ' → GR F SI' SJ' → SI' 65 4 = i3 0 → SI' 65 5 = i3 0 → Q SI' SJ') : DoV E 114 [(.ref 0)] SI SJ Q := by
  have nb := nw_b hN
  have hB := Wl_b hW hT (hN.ok hW.1)
  have hfb := fullS_b (n := nf F * fc F) (by omega)
  have n0 := hN.1; have n6 := hN.2.1
  have en : F 17 = nf F := by unfold nf; omega
  obtain ⟨f5, fe, f6, f7, f8, f9⟩ := hf
  have ia : ∀ {A B : gj_I}, FI LIa42 A B → FI LIg2 A B := fun z => z.le (fun o k y => by unfold LIa42 at y; unfold LIg2; omega)
  have ja : ∀ {A B : gj_J}, FJ LJa42 A B → FJ LJg2 A B := fun z => z.le (fun o k y => by unfold LJa42 at y; unfold LJg2; omega)
  refine st_114 SI SJ (sp_clear42 ?_)
  refine up_lp (α := Unit) (P := fun i _ A B => FI LIa42 SI A ∧ FJ LJa42 SJ B ∧ LB42 (Wl F (ctF F)) (fun j => (fun t : Nat => (t : Int)) (j / fc F)) (i * fc F) A B) (G := fun i _ A B => GoV E mt_114 9 [some (.ref 0), some (.int (i3 (i : Nat)))] A B Q) (nf F) ?_ ?_ 0 () _ SJ (by omega) ⟨FI.rf.u (Or.inr ⟨rfl, rfl⟩), FJ.rf, ⟨by rw [u2_s, Nat.zero_mul]; rfl, fun j hj => by rw [Nat.zero_mul] at hj; exact absurd hj (Nat.not_lt_zero j)⟩⟩
  · rintro _ A B ⟨g1, g2, g3⟩
    have e5 : A 3 5 = i3 (F 17) := by rw [g1 3 5 (by unfold LIa42; omega)]; exact f5
    refine lp_114_9 _ A B ⟨fun _ => sp_pair42 g3 (by omega) hB (fun A2 B2 k1 k2 k3 k4 => ?_), fun c => ?_⟩
    · refine sp_height k3.1 k4 (by omega) hB (fun r hr hr2 => ?_)
      have er : r = rkF F := rkI_un hr (rkF_I F).1
      subst er
      have k5 : (gj_u2 A2 0 12 (i3 (rkF F))) 42 9 = i3 (nf F * fc F : Nat) := by rw [u2_n (by omega)]; exact k3.1
      have k6 : PB42 (Wl F (ctF F)) (nf F * fc F) (gj_u2 A2 0 12 (i3 (rkF F))) B2 := CB42.f (L := fun o k => o = 0 ∧ k = 12) (M := fun _ _ => False) k4 (FI.rf.u ⟨rfl, rfl⟩) FJ.rf (fun k => by omega) (fun k => ⟨fun z => z, fun z => z, fun z => z⟩)
      refine sp_everyone42 k5 (by omega) (sp_spans42 k5 k6 (by omega) hB (fullS (nf F * fc F)) (by omega) rfl ⟨ibc_01, ?_⟩)
      refine st_80 _ _ ?_
      have fI : FI LIg2 SI (gj_u2 (gj_u2 (gj_u2 (gj_u2 A2 0 12 (i3 (rkF F))) 0 13 (ibc (firm (Wl F (ctF F)) (nf F * fc F) (fullS (nf F * fc F))))) 65 4 (i3 0)) 65 5 (i3 0)) := (((((ia g1).tr (k1.le (fun o k y => by unfold LIb42 at y; unfold LIg2; omega))).u (by unfold LIg2; omega)).u (by unfold LIg2; omega)).u (by unfold LIg2; omega)).u (by unfold LIg2; omega)
      have fJ : FJ LJg2 SJ B2 := (ja g2).tr (k2.le (fun o k y => by unfold LJb42 at y; unfold LJg2; omega))
      refine h _ _ fI fJ ⟨?_, ?_, ?_, ?_⟩ (by rw [u2_n (by omega), u2_s]) (by rw [u2_s])
      · exact LB42.f (L := fun o k => (o = 0 ∧ (k = 12 ∨ k = 13)) ∨ (o = 65 ∧ (k = 4 ∨ k = 5))) (M := fun _ _ => False) k3 ((((FI.rf.u (by omega)).u (by omega)).u (by omega)).u (by omega)) FJ.rf ⟨by omega, fun k => by omega⟩ (fun k => ⟨fun z => z, fun z => z, fun z => z⟩)
      · exact CB42.f (L := fun o k => (o = 0 ∧ (k = 12 ∨ k = 13)) ∨ (o = 65 ∧ (k = 4 ∨ k = 5))) (M := fun _ _ => False) k4 ((((FI.rf.u (by omega)).u (by omega)).u (by omega)).u (by omega)) FJ.rf (fun k => by omega) (fun k => ⟨fun z => z, fun z => z, fun z => z⟩)
      · rw [u2_n (by omega), u2_n (by omega), u2_n (by omega), u2_s]
      · rw [u2_n (by omega), u2_n (by omega), u2_s]; rfl
    · rw [e5, en, i3_le (by omega) (by omega) (by omega) (by omega)] at c; omega
  · rintro i _ A B hi ⟨g1, g2, g3⟩ ih
    have ga : ∀ o k, ¬ LIa42 o k → A o k = SI o k := g1
    have e5 : A 3 5 = i3 (F 17) := by rw [ga 3 5 (by unfold LIa42; omega)]; exact f5
    have hXA : PX4 F A := hX.f g1 (by unfold LIa42; exact ⟨by omega, fun k => by omega⟩)
    have hDA : PD4 F A := hD.f g1 (by unfold LIa42; exact ⟨by omega, fun k => by omega⟩)
    obtain ⟨c1, c2, c3, c4⟩ := hN.c hW.1 (i := i) hi
    obtain ⟨w1, w2, w3, w4⟩ := hN.2.2 i (by omega)
    obtain ⟨s1, s2⟩ := fe i (by omega)
    refine lp_114_9 _ A B ⟨fun c => ?_, fun c => ⟨by rw [i3_in (by omega) (by omega)]; omega, ?_⟩⟩
    · rw [e5, en, i3_le (by omega) (by omega) (by omega) (by omega)] at c; omega
    · rw [i3_n (by omega) (by omega), show ((i : Nat) : Int).toNat = i by omega, i3_add]
      refine sp_press42 (ct := ctF F) (O := fun t : Nat => (t : Int)) hXA hDA hW hT (by rw [ga 3 8 (by unfold LIa42; omega)]; exact f8) (by rw [ga 3 9 (by unfold LIa42; omega)]; exact f9) i c1 ⟨w3, w4⟩ (by omega) g3 rfl (by rw [ga 12 i (by unfold LIa42; omega), s1]; exact i3_c c4) (by rw [ga 13 i (by unfold LIa42; omega), s2]; rfl) (by rw [ga 3 6 (by unfold LIa42; omega)]; exact f6) (by rw [ga 3 7 (by unfold LIa42; omega)]; exact f7) (fun A2 B2 k1 k2 k3 => ih () A2 B2 ⟨g1.tr k1, g2.tr k2, k3⟩)
theorem GR.ag {F G : Nat → Int} {SI : gj_I} {SJ : gj_J} (h : GR F SI SJ) (g : Ag F G) (hW : Wc F) (hN : Wn F) : GR G SI SJ := by
  obtain ⟨h1, h2, h3, h4⟩ := h
  have e : ∀ j, j < nf F * fc F → Wl G (ctF G) j = Wl F (ctF F) j := by
    intro j hj
    rw [g.eW hW]
    exact Wl_ct (fun i hi => g.eCt hN i hi) j hj
  have ef := g.eFirm hW hN
  have en : nW G = nW F := by unfold nW; rw [g.eNf, g.eFc]
  refine ⟨?_, ?_, ?_, ?_⟩
  · rw [en]
    refine ⟨h1.1, fun j hj => ?_⟩
    have := h1.2 j hj
    rw [show WW G j = WW F j from e j hj, g.eFc]; exact this
  · intro i j hij hj _
    rw [en] at hj
    have q := h2 i j hij hj trivial
    have e1 : WW G i = WW F i := e i (Nat.lt_trans hij hj)
    have e2 : WW G j = WW F j := e j hj
    have ab : ∀ p n, n ≤ nW F → abS (WW G) p n = abS (WW F) p n ∧ beS (WW G) p n = beS (WW F) p n := by
      intro p n
      induction n with
      | zero => intro _; exact ⟨rfl, rfl⟩
      | succ n ih =>
        intro hn
        obtain ⟨i1, i2⟩ := ih (by omega)
        have e3 : WW G n = WW F n := e n hn
        refine ⟨?_, ?_⟩
        · show (if 0 < dot (WW G n) p then abS (WW G) p n ||| 2 ^ n else abS (WW G) p n) = (if 0 < dot (WW F n) p then abS (WW F) p n ||| 2 ^ n else abS (WW F) p n); rw [e3, i1]
        · show (if dot (WW G n) p < 0 then beS (WW G) p n ||| 2 ^ n else beS (WW G) p n) = (if dot (WW F n) p < 0 then beS (WW F) p n ||| 2 ^ n else beS (WW F) p n); rw [e3, i2]
    rw [en, e1, e2, (ab _ _ (Nat.le_refl _)).1, (ab _ _ (Nat.le_refl _)).2]
    exact q
  · rw [h3]
    exact i3_c (rkI_un ((ef.2 (rkF F)).mpr (rkF_I F).1) (rkF_I G).1)
  · rw [h4]; exact ibc_c ef.1.symm
theorem nt_at {w b r : Int} {j d : Nat} (h35 : 0 ≤ F 35 ∧ F 35 ≤ 20) (hj : (j : Int) < npt F) (hd : d < 4) : nt F w b r (36 + 4 * j + d) = if F 35 = 20 then F (36 + 4 * (j + 1) + d) else F (36 + 4 * j + d) := by
  unfold nt
  rw [if_neg (by omega), if_neg (by omega), if_neg (by omega), if_neg (by omega), if_neg (by omega)]
  unfold gpt
  by_cases q : F 35 = 20
  · rw [if_pos (by unfold npt at *; rw [if_pos q] at *; omega), if_pos q]; congr 1; omega
  · rw [if_neg (by omega), if_neg q]
def LIst (o k : Nat) : Prop := LIg2 o k ∨ o = 14 ∨ (o = 3 ∧ k = 11)
/-- what the class keeps of its grasp -/
def CN (F : Nat → Int) (SI : gj_I) (SJ : gj_J) : Prop := NS3 F SI ∧ GR F SI SJ
theorem sp_settle {Q : gj_I → gj_J → Prop} {a : Int32} (hX : PX4 F SI) (hD : PD4 F SI) (hf : NSf3 F SI) (hh : NSh3 F SI) (hx : NSx3 F SI) (hF : WF F) (w : Int) (hw : 0 ≤ w ∧ w ≤ 4) (ha : a = i3 w) (h : ∀ SI' SJ', FI LIst SI SI' → FJ LJg2 SJ SJ' → CN (ntd F w) SI' SJ' → SI' 65 4 = i3 0 → SI' 65 5 = i3 0 → Q SI' SJ') : DoV E 113 [(.ref 0), (.int a)] SI SJ Q := by
  subst ha
  have hF2 := hF
  obtain ⟨h1, h2, h3, h4, h5, h6⟩ := hF2
  have p1 := h5.1; have p2 := h5.2.1
  have n0 := h3.1; have n6 := h3.2.1
  refine st_113 _ SI SJ (sp_refresh hX hD hf h1 h2 h3 (fun A B f1 f2 hg k4 k5 => ?_))
  have g : Ag F (ntd F w) := fun k hk => nt_lo p1 (by omega)
  have u : ∀ k, 116 ≤ k → ntd F w k = F k := fun k hk => nt_hi ⟨p1, p2⟩ hk
  have np : 0 ≤ npt F ∧ npt F ≤ 19 := by unfold npt; split <;> omega
  have e35 : ntd F w 35 = npt F + 1 := by unfold ntd nt; rw [if_pos rfl]
  have rb := (rkF_I F).2
  have A5 : A 3 5 = i3 (F 17) := by rw [f1 3 5 (by unfold LIg2; omega)]; exact hf.1
  have A11 : A 3 11 = i3 (F 35) := by rw [f1 3 11 (by unfold LIg2; omega)]; exact hh.1
  have A14 : ∀ k, A 14 k = SI 14 k := fun k => f1 14 k (by unfold LIg2; omega)
  rw [hg.2.2.2]
  refine st_152 _ A B ⟨fun c => ?_, fun c => ?_⟩
  all_goals
    have eb : ibc (firmF F) = i3 (bz (firmF F)) := bz_i _
    refine st_62 _ _ _ A B ?_
    rw [hg.2.2.1, A5, A11, i3_add, i3_ifmin (by omega) (by omega) (by omega) (by omega)]
    refine h _ _ ?_ f2 ⟨⟨?_, ?_, ?_, ?_, ?_⟩, ?_⟩ ?_ ?_
    · exact ((((((f1.le (fun o k z => Or.inl z) : FI LIst SI A).ua (fun k => Or.inr (Or.inl rfl))).u (Or.inr (Or.inl rfl))).u (Or.inr (Or.inl rfl))).u (Or.inr (Or.inl rfl))).u (Or.inr (Or.inl rfl))).u (Or.inr (Or.inr ⟨rfl, rfl⟩))
    · refine (hX.f (L := LIst) ?_ ?_).ap g.ap h1.1
      · exact ((((((f1.le (fun o k z => Or.inl z) : FI LIst SI A).ua (fun k => Or.inr (Or.inl rfl))).u (Or.inr (Or.inl rfl))).u (Or.inr (Or.inl rfl))).u (Or.inr (Or.inl rfl))).u (Or.inr (Or.inl rfl))).u (Or.inr (Or.inr ⟨rfl, rfl⟩))
      · unfold LIst LIg2; exact ⟨by omega, fun k => by omega⟩
    · refine (hD.f (L := LIst) ?_ ?_).ap g.ap h1.1
      · exact ((((((f1.le (fun o k z => Or.inl z) : FI LIst SI A).ua (fun k => Or.inr (Or.inl rfl))).u (Or.inr (Or.inl rfl))).u (Or.inr (Or.inl rfl))).u (Or.inr (Or.inl rfl))).u (Or.inr (Or.inl rfl))).u (Or.inr (Or.inr ⟨rfl, rfl⟩))
      · unfold LIst LIg2; exact ⟨by omega, fun k => by omega⟩
    · refine (hf.f (L := LIst) ?_ ?_).c (fun k _ hk => g k hk) n6
      · exact ((((((f1.le (fun o k z => Or.inl z) : FI LIst SI A).ua (fun k => Or.inr (Or.inl rfl))).u (Or.inr (Or.inl rfl))).u (Or.inr (Or.inl rfl))).u (Or.inr (Or.inl rfl))).u (Or.inr (Or.inl rfl))).u (Or.inr (Or.inr ⟨rfl, rfl⟩))
      · unfold LIst LIg2; exact ⟨by omega, fun k => by omega⟩
    · refine ⟨?_, fun k t hk ht => ?_⟩
      · rw [u2_s, e35]
        refine i3_c ?_
        unfold npt
        split <;> split <;> omega
      · rw [e35] at hk ⊢
        rw [u2_n (by omega)]
        by_cases k0 : k = 0
        · subst k0
          have ix : 36 + 4 * ((npt F + 1).toNat - 1 - 0) + t = 36 + 4 * (npt F).toNat + t := by omega
          rw [ix]
          have tt : t = 0 ∨ t = 1 ∨ t = 2 ∨ t = 3 := by omega
          unfold ntd nt
          rcases tt with rfl | rfl | rfl | rfl
          · rw [u2_n (by omega), u2_n (by omega), u2_n (by omega), u2_s, if_neg (by omega), if_pos (by omega)]
          · rw [u2_n (by omega), u2_n (by omega), u2_s, if_neg (by omega), if_neg (by omega), if_pos (by omega)]
          · rw [u2_n (by omega), u2_s, if_neg (by omega), if_neg (by omega), if_neg (by omega), if_pos (by omega)]
            first
              | exact (by rw [eb] at c; by_cases q : firmF F; rw [bz_t q] at c; exact absurd c (by decide); rw [bz_f q])
              | exact (by rw [eb] at c; by_cases q : firmF F; rw [bz_t q]; rw [bz_f q] at c; exact absurd rfl c)
          · rw [u2_s, if_neg (by omega), if_neg (by omega), if_neg (by omega), if_neg (by omega), if_pos (by omega)]
        · rw [u2_n (by omega), u2_n (by omega), u2_n (by omega), u2_n (by omega), ua_s]
          unfold va_cpy
          rw [if_pos (by omega), A14, show 0 + (4 * k + t - 4) = 4 * (k - 1) + t by omega, hh.2 (k - 1) t (by unfold npt at hk; split at hk <;> omega) ht]
          refine i3_c ?_
          have ix : 36 + 4 * ((npt F + 1).toNat - 1 - k) + t = 36 + 4 * ((npt F).toNat - k) + t := by omega
          unfold ntd
          rw [ix, nt_at ⟨p1, p2⟩ (by omega) ht]
          by_cases q : F 35 = 20
          · rw [if_pos q]; congr 1; unfold npt at *; rw [if_pos q] at *; omega
          · rw [if_neg q]; congr 1; unfold npt at *; rw [if_neg q] at *; omega
    · refine (hx.f (L := LIst) ?_ ?_).c (fun k hk => ?_)
      · exact ((((((f1.le (fun o k z => Or.inl z) : FI LIst SI A).ua (fun k => Or.inr (Or.inl rfl))).u (Or.inr (Or.inl rfl))).u (Or.inr (Or.inl rfl))).u (Or.inr (Or.inl rfl))).u (Or.inr (Or.inl rfl))).u (Or.inr (Or.inr ⟨rfl, rfl⟩))
      · unfold LIst LIg2; exact ⟨by omega, by omega, fun k => by omega⟩
      · rcases hk with hk | hk
        · rw [hk]; exact nt_lo p1 (by decide)
        · exact u k hk
    · refine GR.ag ?_ g h1.1 h3
      obtain ⟨q1, q2, q3, q4⟩ := hg
      have fz : ∀ x y : Int32, FI (fun o k => o = 14 ∨ (o = 3 ∧ k = 11)) A (gj_u2 (gj_u2 (gj_u2 (gj_u2 (gj_u2 (gj_ua A 14 (va_cpy (A 14) (A 14) 0 4 76)) 14 0 (i3 w)) 14 1 (i3 (F 17))) 14 2 x) 14 3 (i3 (rkF F))) 3 11 y) := fun x y => (((((FI.rf.ua (fun k => Or.inl rfl)).u (Or.inl rfl)).u (Or.inl rfl)).u (Or.inl rfl)).u (Or.inl rfl)).u (Or.inr ⟨rfl, rfl⟩)
      refine ⟨q1.f (fz _ _) (FJ.rf (L := fun _ _ => False)) ⟨by omega, fun k => by omega⟩ (fun k => ⟨fun z => z, fun z => z, fun z => z⟩), CB42.f q2 (fz _ _) (FJ.rf (L := fun _ _ => False)) (fun k => by omega) (fun k => ⟨fun z => z, fun z => z, fun z => z⟩), ?_, ?_⟩
      · rw [fz _ _ 0 12 (by omega)]; exact q3
      · rw [fz _ _ 0 13 (by omega)]; exact q4
    · rw [u2_n (by omega), u2_n (by omega), u2_n (by omega), u2_n (by omega), u2_n (by omega), ua_n (by omega)]; exact k4
    · rw [u2_n (by omega), u2_n (by omega), u2_n (by omega), u2_n (by omega), u2_n (by omega), ua_n (by omega)]; exact k5
end Refresh
