/-! 9m: slide of the class -/
def LI66 (o k : Nat) : Prop := o = 70 ∨ o = 74 ∨ o = 75 ∨ (o = 66 ∧ k = 9)
def LJ66 (o _k : Nat) : Prop := 67 ≤ o ∧ o ≤ 73
theorem LI66_C {A B : gj_I} (h : FI LI66 A B) : FI LCI A B := h.le (fun o k z => by unfold LI66 at z; unfold LCI; omega)
theorem LJ66_C {A B : gj_J} (h : FJ LJ66 A B) : FJ LCJ A B := h.le (fun o k z => by unfold LJ66 at z; unfold LCJ; omega)
section SlideC
variable {E : gj_E} {SI : gj_I} {SJ : gj_J} {F : Nat → Int}
theorem CNT.t {A : gj_I} {B : gj_J} (h : CNT F SI SJ) (f : FI LI66 SI A) (g : FJ LJ66 SJ B) : CNT F A B := by
  obtain ⟨h1, ⟨g1, g2, g3, g4⟩, h3⟩ := h
  refine ⟨h1.f f (fun o k h1 h2 => by unfold LI66; omega), ⟨?_, ?_, ?_, ?_⟩, ?_⟩
  · exact LB42.f g1 f g (by unfold LI66; exact ⟨by omega, fun k => by omega⟩) (fun k => by unfold LJ66; omega)
  · exact CB42.f g2 f g (fun k => by unfold LI66; omega) (fun k => by unfold LJ66; omega)
  · rw [f 0 12 (by unfold LI66; omega)]; exact g3
  · rw [f 0 13 (by unfold LI66; omega)]; exact g4
  · unfold TR
    rw [f 65 4 (by unfold LI66; omega), f 65 5 (by unfold LI66; omega), f 65 6 (by unfold LI66; omega), f 65 7 (by unfold LI66; omega), f 65 8 (by unfold LI66; omega), f 65 9 (by unfold LI66; omega), g 79 0 (by unfold LJ66; omega), g 79 1 (by unfold LJ66; omega), g 80 0 (by unfold LJ66; omega), g 80 1 (by unfold LJ66; omega)]
    exact h3
theorem sp_firm66 {Q : Int32 → gj_I → gj_J → Prop} {G : Nat → Int} (hW : Wp G) (hT : Wt G) (hN : Wn G) (hL : LB66 (Wl G (ctF G)) (fun j => (fun t : Nat => (t : Int)) (j / fc G)) (nf G * fc G) SI SJ) (h : ∀ SI' SJ', FI LIb66 SI SI' → FJ LJb66 SJ SJ' → Q (ibc (firmF G)) SI' SJ') : DoI E 81 [(.ref 65)] SI SJ Q := by
  have nb := nw_b hN
  have hB := Wl_b hW hT (hN.ok hW.1)
  have hfb := fullS_b (n := nf G * fc G) (by omega)
  refine st_81 SI SJ (sp_pair66 hL (by omega) hB (fun A2 B2 k1 k2 k3 k4 => ?_))
  exact sp_everyone66 k3.1 (by omega) (sp_spans66 k3.1 k4 (by omega) hB (fullS (nf G * fc G)) (by omega) rfl ⟨ibc_01, h A2 B2 k1 k2⟩)
theorem ia66 {A B : gj_I} (z : FI LIa66 A B) : FI LI66 A B := z.le (fun o k y => by unfold LIa66 at y; unfold LI66; omega)
theorem ja66 {A B : gj_J} (z : FJ LJa66 A B) : FJ LJ66 A B := z.le (fun o k y => by unfold LJa66 at y; unfold LJ66; omega)
theorem ib66 {A B : gj_I} (z : FI LIb66 A B) : FI LI66 A B := z.le (fun o k y => by unfold LIb66 at y; unfold LI66; omega)
theorem jb66 {A B : gj_J} (z : FJ LJb66 A B) : FJ LJ66 A B := z.le (fun o k y => by unfold LJb66 at y; unfold LJ66; omega)
theorem sp_movedC {Q : Int32 → gj_I → gj_J → Prop} {a b : Int32} (hC : NS3 F SI) (hF : WF F) (n : Nat) (hn : (n : Int) < F 17) (k : Int) (h1 : 1 ≤ k) (h2 : k < stp F (F (18 + n)).toNat) (ha : a = i3 n) (hb : b = i3 k) (h : ∀ SI' SJ', FI LI66 SI SI' → FJ LJ66 SJ SJ' → Q (ibc (firmF (fu F (24 + n) k))) SI' SJ') : DoI E 89 [(.ref 65), (.ref 3), (.int a), (.int b)] SI SJ Q := by
  subst ha; subst hb
  obtain ⟨hX, hD, ⟨f5, fe, f6, f7, f8, f9⟩, -, -⟩ := hC
  obtain ⟨hW, hT, hN, -, -, -⟩ := hF
  have n6 := hN.2.1
  have n0 := hN.1
  have ap : Ap F (fu F (24 + n) k) := Ap_fu (by omega)
  have hT2 : Wt (fu F (24 + n) k) := by unfold Wt; rw [fu_n (by omega), fu_n (by omega), fu_n (by omega), fu_n (by omega)]; exact hT
  have hN2 := Wn_step hW.1 hN n hn k h1 h2
  have hW2 := ap.p hW
  have k17 : fu F (24 + n) k 17 = F 17 := fu_n (by omega)
  have k30 : fu F (24 + n) k 30 = F 30 := fu_n (by omega)
  have k31 : fu F (24 + n) k 31 = F 31 := fu_n (by omega)
  have k32 : fu F (24 + n) k 32 = F 32 := fu_n (by omega)
  have k33 : fu F (24 + n) k 33 = F 33 := fu_n (by omega)
  have k18 : ∀ i : Nat, (i : Int) < F 17 → fu F (24 + n) k (18 + i) = F (18 + i) := fun i hi => fu_n (by omega)
  have k24 : ∀ i : Nat, (i : Int) < F 17 → i ≠ n → fu F (24 + n) k (24 + i) = F (24 + i) := fun i hi z => fu_n (by omega)
  have kn : fu F (24 + n) k (24 + n) = k := fu_s
  obtain ⟨G, hG⟩ : ∃ G, fu F (24 + n) k = G := ⟨_, rfl⟩
  rw [hG] at ap hT2 hN2 hW2 k17 k30 k31 k32 k33 k18 k24 kn h
  have en : F 17 = nf G := by unfold nf; rw [k17]; omega
  have hXG := hX.ap ap hW.1
  have hDG := hD.ap ap hW.1
  refine st_89 _ _ SI SJ (sp_clear66 ?_)
  refine up_lp (α := Unit) (P := fun i _ A B => FI LIa66 SI A ∧ FJ LJa66 SJ B ∧ LB66 (Wl G (ctF G)) (fun j => (fun t : Nat => (t : Int)) (j / fc G)) (i * fc G) A B) (G := fun i _ A B => GoI E mt_89 10 [some (.ref 65), some (.ref 3), some (.int (i3 (n : Nat))), some (.int (i3 k)), some (.int (i3 (i : Nat))), none] A B Q) (nf G) ?_ ?_ 0 () _ SJ (by omega) ⟨FI.rf.u (Or.inr ⟨rfl, rfl⟩), FJ.rf, ⟨by rw [u2_s, Nat.zero_mul]; rfl, fun j hj => by rw [Nat.zero_mul] at hj; exact absurd hj (Nat.not_lt_zero j)⟩⟩
  · rintro _ A B ⟨g1, g2, g3⟩
    have e5 : A 3 5 = i3 (F 17) := by rw [g1 3 5 (by unfold LIa66; omega)]; exact f5
    refine lp_89_10 _ _ _ A B ⟨fun _ => sp_firm66 hW2 hT2 hN2 g3 (fun A2 B2 l1 l2 => ⟨ibc_01, h A2 B2 ((ia66 g1).tr (ib66 l1)) ((ja66 g2).tr (jb66 l2))⟩), fun c => ?_⟩
    rw [e5, en, i3_le (by omega) (by omega) (by omega) (by omega)] at c; omega
  · rintro i _ A B hi ⟨g1, g2, g3⟩ ih
    have ga : ∀ o k, ¬ LIa66 o k → A o k = SI o k := g1
    have e5 : A 3 5 = i3 (F 17) := by rw [ga 3 5 (by unfold LIa66; omega)]; exact f5
    have hXA : PX4 G A := hXG.f g1 (by unfold LIa66; exact ⟨by omega, fun k => by omega⟩)
    have hDA : PD4 G A := hDG.f g1 (by unfold LIa66; exact ⟨by omega, fun k => by omega⟩)
    obtain ⟨c1, c2, c3, c4⟩ := hN2.c hW2.1 (i := i) hi
    obtain ⟨w1, w2, w3, w4⟩ := hN2.2.2 i (by omega)
    obtain ⟨s1, s2⟩ := fe i (by omega)
    have a12 : A 12 i = i3 (F (18 + i)) := by rw [ga 12 i (by unfold LIa66; omega)]; exact s1
    have a13 : A 13 i = i3 (F (24 + i)) := by rw [ga 13 i (by unfold LIa66; omega)]; exact s2
    have a6 : A 3 6 = i3 (F 30) := by rw [ga 3 6 (by unfold LIa66; omega)]; exact f6
    have a7 : A 3 7 = i3 (F 31) := by rw [ga 3 7 (by unfold LIa66; omega)]; exact f7
    have a8 : A 3 8 = i3 (G 32) := by rw [ga 3 8 (by unfold LIa66; omega), k32]; exact f8
    have a9 : A 3 9 = i3 (G 33) := by rw [ga 3 9 (by unfold LIa66; omega), k33]; exact f9
    have e18 := k18 i (by omega)
    refine lp_89_10 _ _ _ A B ⟨fun c => ?_, fun c => ?_⟩
    · rw [e5, en, i3_le (by omega) (by omega) (by omega) (by omega)] at c; omega
    · rw [i3_eq (by omega) (by omega) (by omega) (by omega), i3_in (by omega) (by omega), i3_n (by omega) (by omega), show ((i : Nat) : Int).toNat = i by omega, i3_add, a12, a13, a6, a7, ← e18]
      refine ⟨fun z => ⟨by omega, ?_⟩, fun z => ⟨by omega, ?_⟩⟩
      · rw [← k24 i (by omega) (by omega)]
        refine sp_press66 (ct := ctF G) (O := fun t : Nat => (t : Int)) hXA hDA hW2 hT2 a8 a9 i c1 ⟨w3, w4⟩ (by omega) g3 rfl (i3_c c4) rfl (by rw [k30]) (by rw [k31]) (fun A2 B2 k1 k2 k3 => ih () A2 B2 ⟨g1.tr k1, g2.tr k2, k3⟩)
      · have zz : i = n := by omega
        subst zz
        have e24 : (ctF G i).2 = k := kn
        refine sp_press66 (ct := ctF G) (O := fun t : Nat => (t : Int)) hXA hDA hW2 hT2 a8 a9 i c1 ⟨w3, w4⟩ (by omega) g3 rfl (i3_c c4) (by rw [e24]) (by rw [k30]) (by rw [k31]) (fun A2 B2 k1 k2 k3 => ih () A2 B2 ⟨g1.tr k1, g2.tr k2, k3⟩)
theorem sp_farthest {Q : Int32 → gj_I → gj_J → Prop} {a b : Int32} (hC : CNT F SI SJ) (hF : WF F) (n : Nat) (hn : (n : Int) < F 17) (d : Int) (hd : d = 1 ∨ d = -1) (ha : a = i3 n) (hb : b = i3 d) (h : ∀ SI' SJ', FI LI66 SI SI' → FJ LJ66 SJ SJ' → Q (i3 (slK F n (F (18 + n)).toNat d 9 (F (24 + n)))) SI' SJ') : DoI E 88 [(.ref 65), (.ref 3), (.int a), (.int b)] SI SJ Q := by
  subst ha; subst hb
  have hW := hF.1
  have hN := hF.2.2.1
  have hG := hF.2.2.2.1
  obtain ⟨m1, m2, m3⟩ := hW.1.n
  obtain ⟨c1, c2, c3, c4⟩ := hN.2.2 n hn
  have n6 := hN.2.1
  obtain ⟨s1, s2⟩ := hC.1.2.2.1.2.1 n hn
  refine st_88 _ _ SI SJ ?_
  rw [i3_in (by omega) (by omega), i3_n (by omega) (by omega), show ((n : Nat) : Int).toNat = n by omega, s1, s2]
  refine ⟨by omega, ?_⟩
  obtain ⟨e0, he0⟩ : ∃ e0 : Nat, F (18 + n) = e0 := ⟨(F (18 + n)).toNat, by omega⟩
  rw [he0] at h c4 ⊢
  rw [show ((e0 : Nat) : Int).toNat = e0 by omega] at h c4
  have sb := hW.1.s e0
  have lp : ∀ (f j : Nat) (k : Int) (A' : gj_I) (B' : gj_J), j + f = 9 → 1 ≤ k → k < stp F e0 → FI LI66 SI A' → FJ LJ66 SJ B' → slK F n e0 d f k = slK F n e0 d 9 (F (24 + n)) → GoI E mt_88 19 [some (.ref 65), some (.ref 3), some (.int (i3 (n : Nat))), some (.int (i3 d)), some (.int (i3 (e0 : Nat))), some (.int (i3 k)), some (.int (i3 (j : Nat))), none] A' B' Q := by
    intro f
    induction f with
    | zero =>
      intro j k A' B' hj k1 k2 g1 g2 ek
      refine lp_88_19 _ _ _ _ _ A' B' ⟨fun _ => ?_, fun c => ?_⟩
      · rw [← ek] at h; exact h A' B' g1 g2
      · rw [i3_le (by omega) (by omega) (by omega) (by omega)] at c; omega
    | succ f ih =>
      intro j k A' B' hj k1 k2 g1 g2 ek
      have hC' := hC.t g1 g2
      have hC2 := hC'
      obtain ⟨⟨hX, hD, hf, -, -⟩, -, -⟩ := hC2
      have st : ∀ A2 B2, FI LI66 SI A2 → FJ LJ66 SJ B2 → ¬ slP F n e0 (k + d) → Q (i3 k) A2 B2 := by
        intro A2 B2 l1 l2 q
        have e5 : slK F n e0 d (f + 1) k = k := ic_f q
        rw [← ek, e5] at h; exact h A2 B2 l1 l2
      refine lp_88_19 _ _ _ _ _ A' B' ⟨fun c => ?_, fun c => ?_⟩
      · rw [i3_le (by omega) (by omega) (by omega) (by omega)] at c; omega
      · rw [i3_add, i3_add]
        refine sp_hasPlace hX hD hW e0 (k + d) (by omega) (by omega) rfl rfl ⟨fun q => ?_, fun q => ?_⟩
        · rw [ibc_0, show ((e0 : Nat) : Int).toNat = e0 by omega] at q
          exact st A' B' g1 g2 (fun c => by have := c.1; omega)
        · rw [ibc_0, Classical.not_not, show ((e0 : Nat) : Int).toNat = e0 by omega] at q
          have fb := fgA_b hG e0 (k + d)
          refine sp_fingerAtC hf.1 hf.2.1 hG e0 (k + d) (fgA F e0 (k + d)) (by omega) (by omega) rfl rfl (fgA_I F e0 (k + d)) ?_
          rw [i3_lt0 (by omega) (by omega)]
          refine ⟨fun q2 => ?_, fun q2 => st A' B' g1 g2 (fun c => by have := c.2.1; omega)⟩
          refine sp_movedC hC'.1 hF n hn (k + d) (by omega) (by rw [he0, show ((e0 : Nat) : Int).toNat = e0 by omega]; omega) rfl rfl (fun A2 B2 l1 l2 => ⟨fun q3 => ?_, fun q3 => ?_⟩)
          · rw [ibc_0, Classical.not_not] at q3
            have e5 : slK F n e0 d (f + 1) k = slK F n e0 d f (k + d) := ic_t ⟨by omega, by omega, q3⟩
            exact ih (j + 1) (k + d) A2 B2 (by omega) (by omega) (by omega) (g1.tr l1) (g2.tr l2) (by rw [← e5]; exact ek)
          · rw [ibc_0] at q3
            exact st A2 B2 (g1.tr l1) (g2.tr l2) (fun c => q3 c.2.2)
  exact lp 9 0 _ SI SJ (by omega) (by omega) (by omega) FI.rf FJ.rf rfl
theorem sp_slideC {Q : Int32 → gj_I → gj_J → Prop} {a b : Int32} (hC : CNT F SI SJ) (hF : WF F) (i w : Int) (ir : -2147483648 ≤ i ∧ i < 2147483648) (wr : -2147483648 ≤ w ∧ w < 2147483648) (ha : a = i3 i) (hb : b = i3 w) (h : ∀ SI' SJ', FI LCI SI SI' → FJ LCJ SJ SJ' → CNT F SI' SJ' → Q (i3 (slideA F i w)) SI' SJ') : DoI E 131 [(.ref 0), (.int a), (.int b)] SI SJ Q := by
  subst ha; subst hb
  have n6 := hF.2.2.1.2.1
  have n0 := hF.2.2.1.1
  have bad : ¬ (0 ≤ i ∧ i < F 17 ∧ 0 ≤ w ∧ w ≤ 1) → Q (i3 (-1)) SI SJ := by
    intro z
    have e : slideA F i w = -1 := ic_f z
    have hh := h SI SJ FI.rf FJ.rf hC
    rw [e] at hh; exact hh
  refine st_131 _ _ SI SJ ?_
  rw [hC.1.2.2.1.1, hC.2.1.2.2.2, i3_lt0 (by omega) (by omega), i3_lt0 (by omega) (by omega), i3_le (by omega) (by omega) (by omega) (by omega), i3_le (by omega) (by omega) (by omega) (by omega), i3_eq0 (by omega) (by omega)]
  refine ⟨fun c => bad (by omega), fun c1 => ⟨fun c => bad (by omega), fun c2 => ⟨fun c => bad (by omega), fun c3 => ⟨fun c4 => ⟨fun y => ?_, fun y => ?_⟩, fun c => bad (by omega)⟩⟩⟩⟩
  · rw [ibc_0, Classical.not_not] at y
    obtain ⟨n, hn⟩ : ∃ n : Nat, i = n := ⟨i.toNat, by omega⟩
    subst hn
    have e : slideA F n w = slK F n (F (18 + n)).toNat (if w = 0 then -1 else 1) 9 (F (24 + n)) := by
      unfold slideA; rw [ic_t (by omega), ic_t y]; rfl
    rw [e] at h
    refine ⟨fun z => ?_, fun z => ?_⟩
    · rw [if_neg z] at h
      exact sp_farthest hC hF n (by omega) 1 (Or.inl rfl) rfl rfl (fun A B f1 f2 => h A B (LI66_C f1) (LJ66_C f2) (hC.t f1 f2))
    · rw [if_pos z] at h
      exact sp_farthest hC hF n (by omega) (-1) (Or.inr rfl) rfl rfl (fun A B f1 f2 => h A B (LI66_C f1) (LJ66_C f2) (hC.t f1 f2))
  · rw [ibc_0] at y
    have e : slideA F i w = -2 := by unfold slideA; rw [ic_t (by omega), ic_f y]
    have hh := h SI SJ FI.rf FJ.rf hC
    rw [e] at hh; exact hh
end SlideC
