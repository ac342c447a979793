/-! 71: the reference's slide, rough -/
noncomputable def slP (F : Nat → Int) (i : Nat) (e : Nat) (k : Int) : Prop := (1 ≤ k ∧ k ≤ stp F e - 1) ∧ fgA F e k = -1 ∧ firmF (fu F (24 + i) k)
noncomputable def slK (F : Nat → Int) (i e : Nat) (d : Int) : Nat → Int → Int
  | 0, k => k
  | n + 1, k => ic (slP F i e (k + d)) (slK F i e d n (k + d)) k
noncomputable def slideA (F : Nat → Int) (i w : Int) : Int := ic (0 ≤ i ∧ i < F 17 ∧ 0 ≤ w ∧ w ≤ 1) (ic (firmF F) (slK F i.toNat (F (18 + i.toNat)).toNat (if w = 0 then -1 else 1) 9 (F (24 + i.toNat))) (-2)) (-1)
theorem fu_lt {F : Nat → Int} {k j : Nat} {v : Int} (h : j < k) : fu F k v j = F j := fu_n (by omega)
section Slide
variable {E : gj_E} {SI : gj_I} {SJ : gj_J} {F : Nat → Int}
theorem Ap_fu {k : Nat} {v : Int} (h : 17 ≤ k) : Ap F (fu F k v) := fun j hj => fu_n (by omega)
theorem Wn_step (hW : Wc F) (hN : Wn F) (i : Nat) (hi : (i : Int) < F 17) (k : Int) (h1 : 1 ≤ k) (h2 : k < stp F (F (18 + i)).toNat) : Wn (fu F (24 + i) k) := by
  obtain ⟨n1, n2, n3⟩ := hN
  have ap : Ap F (fu F (24 + i) k) := Ap_fu (by omega)
  refine ⟨by rw [fu_n (by omega)]; exact n1, by rw [fu_n (by omega)]; exact n2, fun j hj => ?_⟩
  rw [fu_n (by omega)] at hj
  rw [fu_n (j := 18 + j) (by omega), ap.n, (ap.s hW).1]
  by_cases q : j = i
  · subst q
    rw [fu_s]
    have := n3 j hj; omega
  · rw [fu_n (by omega)]; exact n3 j hj
theorem sp_isFirmAt {Q : Int32 → gj_I → gj_J → Prop} {a b : Int32} (hR : RF F SI) (hW : Wp F) (hT : Wt F) (hN : Wn F) (i : Nat) (hi : (i : Int) < F 17) (k : Int) (h1 : 1 ≤ k) (h2 : k < stp F (F (18 + i)).toNat) (ha : a = i3 i) (hb : b = i3 k) (h : ∀ SI' SJ', FI LI1 SI SI' → FJ LJ1 SJ SJ' → Q (ibc (firmF (fu F (24 + i) k))) SI' SJ') : DoI E 265 [(.ref 81), (.int a), (.int b)] SI SJ Q := by
  subst ha; subst hb
  have n6 := hN.2.1
  refine st_265 _ _ SI SJ ?_
  rw [i3_add, i3_in (by omega) (by omega), i3_n (by omega) (by omega), show (24 + (i : Int)).toNat = 24 + i by omega]
  have ap : Ap F (fu F (24 + i) k) := Ap_fu (by omega)
  have hT2 : Wt (fu F (24 + i) k) := by unfold Wt; rw [fu_n (by omega), fu_n (by omega), fu_n (by omega), fu_n (by omega)]; exact hT
  refine ⟨by omega, sp_isFirmNow (hR.u (24 + i) k rfl) (ap.p hW) hT2 (Wn_step hW.1 hN i hi k h1 h2) (fun A B f1 f2 _ => ⟨ibc_01, h _ _ (fun o j hj => ?_) f2⟩)⟩
  by_cases q : o = 82 ∧ j = 24 + i
  · rw [q.1, q.2, u2_s]
  · rw [u2_n q, f1 o j hj, u2_n q]
theorem sp_slide {Q : Int32 → gj_I → gj_J → Prop} {a b : Int32} (hR : RF F SI) (hW : Wp F) (hT : Wt F) (hN : Wn F) (hG : Wg F) (i w : Int) (ir : -2147483648 ≤ i ∧ i < 2147483648) (wr : -2147483648 ≤ w ∧ w < 2147483648) (ha : a = i3 i) (hb : b = i3 w) (h : ∀ SI' SJ', FI LI1 SI SI' → FJ LJ1 SJ SJ' → Q (i3 (slideA F i w)) SI' SJ') : DoI E 266 [(.ref 81), (.int a), (.int b)] SI SJ Q := by
  subst ha; subst hb
  obtain ⟨m1, m2, m3⟩ := hW.1.n
  have bad : ¬ (0 ≤ i ∧ i < F 17 ∧ 0 ≤ w ∧ w ≤ 1) → Q (i3 (-1)) SI SJ := by
    intro z
    have e : slideA F i w = -1 := ic_f z
    have hh := h SI SJ FI.rf FJ.rf
    rw [e] at hh; exact hh
  refine st_266 _ _ SI SJ (sp_isFinger hR hG i ir rfl ⟨fun z => ?_, fun z => ?_⟩)
  · rw [ibc_0] at z; exact bad (fun c => z ⟨c.1, c.2.1⟩)
  · rw [ibc_0, Classical.not_not] at z
    rw [i3_64 (by omega) (by omega)]
    refine sp_in (by omega) (by omega) (by omega) (by omega) (by omega) (by omega) ⟨fun z2 => ?_, fun z2 => ?_⟩
    · rw [ib_0, Decidable.not_not] at z2
      obtain ⟨n, hn⟩ : ∃ n : Nat, i = n := ⟨i.toNat, by omega⟩
      subst hn
      have e : slideA F n w = ic (firmF F) (slK F n (F (18 + n)).toNat (if w = 0 then -1 else 1) 9 (F (24 + n))) (-2) := ic_t ⟨z.1, z.2, z2⟩
      rw [e] at h
      obtain ⟨c1, c2, c3, c4⟩ := hN.2.2 n z.2
      have n6 := hN.2.1
      refine sp_isFirmNow hR hW hT hN (fun A B f1 f2 hL => ⟨fun y => ?_, fun y => ?_⟩)
      · rw [ibc_0, Classical.not_not] at y
        rw [ic_t y] at h
        have hRA := hR.f f1 LI1_n
        rw [i3_add, i3_in (by omega) (by omega), i3_n (by omega) (by omega), i3_add, i3_in (by omega) (by omega), i3_n (by omega) (by omega), show (18 + (n : Int)).toNat = 18 + n by omega, show (24 + (n : Int)).toNat = 24 + n by omega, hRA _ (by omega), hRA (24 + n) (by omega), i3_eq0 (by omega) (by omega)]
        obtain ⟨e0, he0⟩ : ∃ e0 : Nat, F (18 + n) = e0 := ⟨(F (18 + n)).toNat, by omega⟩
        rw [he0] at h c4 ⊢
        rw [show ((e0 : Nat) : Int).toNat = e0 by omega] at h c4
        have sb := hW.1.s e0
        have key : ∀ (d : Int), d = 1 ∨ d = -1 → (∀ SI' SJ', FI LI1 SI SI' → FJ LJ1 SJ SJ' → Q (i3 (slK F n e0 d 9 (F (24 + n)))) SI' SJ') → GoI E mt_266 62 [some (.ref 81), some (.int (i3 (n : Int))), none, some (.int (i3 (e0 : Int))), some (.int (i3 d)), some (.int (i3 (F (24 + n))))] A B Q := by
          intro d hd h
          have lp : ∀ (f : Nat) (k : Int) (A' : gj_I) (B' : gj_J), 1 ≤ k → k < stp F e0 → (d = 1 → 9 ≤ k + f) → (d = -1 → k ≤ f) → FI LI1 SI A' → FJ LJ1 SJ B' → slK F n e0 d f k = slK F n e0 d 9 (F (24 + n)) → GoI E mt_266 62 [some (.ref 81), some (.int (i3 (n : Int))), none, some (.int (i3 (e0 : Int))), some (.int (i3 d)), some (.int (i3 k))] A' B' Q := by
            intro f
            induction f with
            | zero =>
              intro k A' B' k1 k2 k3 k4 g1 g2 ek
              have hRB := hR.f g1 LI1_n
              refine lp_266_62 _ _ _ _ A' B' (sp_stepsOf hRB hW.1 e0 (by omega) rfl ?_)
              rw [i3_add, i3_sub, i3_64 (by omega) (by omega), i3_64 (by omega) (by omega)]
              refine sp_in (by omega) (by omega) (by omega) (by omega) (by omega) (by omega) ⟨fun q => ?_, fun q => ?_⟩
              · rw [← ek] at h; exact h A' B' g1 g2
              · rw [ib_0, Decidable.not_not] at q; omega
            | succ f ih =>
              intro k A' B' k1 k2 k3 k4 g1 g2 ek
              have hRB := hR.f g1 LI1_n
              have st : ¬ slP F n e0 (k + d) → Q (i3 k) A' B' := by
                intro q
                have e5 : slK F n e0 d (f + 1) k = k := ic_f q
                rw [← ek, e5] at h; exact h A' B' g1 g2
              refine lp_266_62 _ _ _ _ A' B' (sp_stepsOf hRB hW.1 e0 (by omega) rfl ?_)
              rw [i3_add, i3_sub, i3_64 (by omega) (by omega), i3_64 (by omega) (by omega)]
              refine sp_in (by omega) (by omega) (by omega) (by omega) (by omega) (by omega) ⟨fun q => ?_, fun q => ?_⟩
              · rw [ib_0] at q; exact st (fun c => q c.1)
              · rw [ib_0, Decidable.not_not] at q
                have fb := fgA_b hG e0 (k + d)
                refine sp_fingerAt hRB hG e0 (k + d) (fgA F e0 (k + d)) (by omega) (by omega) rfl rfl (fgA_I F e0 (k + d)) ?_
                rw [i3_eq (by omega) (by omega) (by omega) (by omega)]
                refine ⟨fun q2 => st (fun c => q2 c.2.1), fun q2 => ?_⟩
                refine sp_isFirmAt hRB hW hT hN n z.2 (k + d) (by omega) (by rw [he0, show ((e0 : Nat) : Int).toNat = e0 by omega]; omega) rfl rfl (fun A2 B2 l1 l2 => ⟨fun q3 => ?_, fun q3 => ?_⟩)
                · rw [ibc_0] at q3
                  have e5 : slK F n e0 d (f + 1) k = k := ic_f (fun c => q3 c.2.2)
                  rw [← ek, e5] at h; exact h A2 B2 (g1.tr l1) (g2.tr l2)
                · rw [ibc_0, Classical.not_not] at q3
                  have e5 : slK F n e0 d (f + 1) k = slK F n e0 d f (k + d) := ic_t ⟨q, q2, q3⟩
                  exact ih (k + d) A2 B2 (by omega) (by omega) (by omega) (by omega) (g1.tr l1) (g2.tr l2) (by rw [← e5]; exact ek)
          exact lp 9 _ A B (by omega) (by omega) (by omega) (by omega) f1 f2 rfl
        refine ⟨by omega, fun q => ⟨by omega, ?_⟩, fun q => ⟨by omega, ?_⟩⟩
        · rw [if_neg q] at h; exact key 1 (Or.inl rfl) h
        · rw [if_pos q] at h; exact key (-1) (Or.inr rfl) h
      · rw [ibc_0] at y
        rw [ic_f y] at h; exact h A B f1 f2
    · rw [ib_0] at z2; exact bad (fun c => z2 c.2.2)
/-- the file with another tread -/
def trd (F : Nat → Int) (m q : Int) : Nat → Int := fu (fu F 30 m) 31 q
noncomputable def roS (F : Nat → Int) (a b : Nat) (x : Int × Int) : Int × Int := if x.1 ≠ -1 ∧ x.1 * b ≤ a * x.2 then x else ic (firmF (trd F a b)) ((a : Int), (b : Int)) x
noncomputable def roAll (F : Nat → Int) : Int × Int := forN (fun a x => forN (roS F a) 1 3 x) 0 4 (-1, 1)
noncomputable def roughA (F : Nat → Int) (w : Int) : Int := if 0 ≤ w ∧ w ≤ 1 then (if (roAll F).1 = -1 then -2 else if w = 0 then lox (roAll F).1 (roAll F).2 else loy (roAll F).1 (roAll F).2) else -1
def LIr (o k : Nat) : Prop := LI1 o k ∨ (o = 82 ∧ (k = 30 ∨ k = 31))
theorem trd_n {m q : Int} {k : Nat} (h : k ≠ 30 ∧ k ≠ 31) : trd F m q k = F k := by unfold trd; rw [fu_n h.2, fu_n h.1]
theorem Wn_trd (hW : Wc F) (hN : Wn F) (m q : Int) : Wn (trd F m q) := by
  obtain ⟨n1, n2, n3⟩ := hN
  have ap : Ap F (trd F m q) := fun k hk => trd_n (by omega)
  refine ⟨by rw [trd_n (by omega)]; exact n1, by rw [trd_n (by omega)]; exact n2, fun j hj => ?_⟩
  rw [trd_n (by omega)] at hj
  rw [trd_n (by omega), trd_n (by omega), ap.n, (ap.s hW).1]
  exact n3 j hj
theorem Wt_trd (hT : Wt F) {m q : Int} (h1 : 0 ≤ m ∧ m ≤ 3) (h2 : 1 ≤ q ∧ q ≤ 3) : Wt (trd F m q) := by
  obtain ⟨-, -, -, -, t5, t6, t7, t8⟩ := hT
  unfold Wt
  rw [trd_n (k := 32) (by omega), trd_n (k := 33) (by omega)]
  refine ⟨?_, ?_, ?_, ?_, t5, t6, t7, t8⟩
  · unfold trd; rw [fu_n (by omega), fu_s]; omega
  · unfold trd; rw [fu_n (by omega), fu_s]; omega
  · unfold trd; rw [fu_s]; omega
  · unfold trd; rw [fu_s]; omega
theorem sp_rough {Q : Int32 → gj_I → gj_J → Prop} {a1 : Int32} (hR : RF F SI) (hW : Wp F) (hT : Wt F) (hN : Wn F) (w : Int) (wr : -2147483648 ≤ w ∧ w < 2147483648) (e1 : a1 = i3 w) (h : ∀ SI' SJ', FI LI1 SI SI' → FJ LJ1 SJ SJ' → Q (i3 (roughA F w)) SI' SJ') : DoI E 267 [(.ref 81), (.int a1)] SI SJ Q := by
  subst e1
  refine st_267 _ SI SJ ?_
  rw [i3_64 (by omega) (by omega)]
  refine sp_in (by omega) (by omega) (by omega) (by omega) (by omega) (by omega) ⟨fun z => ?_, fun z => ?_⟩
  · rw [ib_0, Decidable.not_not] at z
    have e : roughA F w = (if (roAll F).1 = -1 then -2 else if w = 0 then lox (roAll F).1 (roAll F).2 else loy (roAll F).1 (roAll F).2) := if_pos z
    rw [e] at h
    have r30 := hR 30 (by decide)
    have r31 := hR 31 (by decide)
    rw [r30, r31]
    let HR : Int × Int → gj_I → gj_J → Prop := fun x A B => FI LIr SI A ∧ FJ LJ1 SJ B ∧ (x.1 = -1 ∨ (0 ≤ x.1 ∧ x.1 ≤ 3)) ∧ 1 ≤ x.2 ∧ x.2 ≤ 3
    have rf : ∀ A (a b : Int), FI LIr SI A → RF (trd F a b) (gj_u2 (gj_u2 A 82 30 (i3 a)) 82 31 (i3 b)) := by
      intro A a b f k hk
      unfold trd
      by_cases q1 : k = 31
      · subst q1; rw [u2_s, fu_s]
      · rw [u2_n (by omega), fu_n q1]
        by_cases q2 : k = 30
        · subst q2; rw [u2_s, fu_s]
        · rw [u2_n (by omega), fu_n q2, f 82 k (by unfold LIr LI1; omega)]; exact hR k hk
    have inner : ∀ (a : Nat) (x : Int × Int) (A : gj_I) (B : gj_J), a < 4 → HR x A B → (∀ A' B', HR (forN (roS F a) 1 3 x) A' B' → GoI E mt_267 37 [some (.ref 81), some (.int (i3 w)), some (.int (i3 (F 30))), some (.int (i3 (F 31))), some (.int (i3 (forN (roS F a) 1 3 x).1)), some (.int (i3 (forN (roS F a) 1 3 x).2)), some (.int (i3 ((a : Int) + 1))), none] A' B' Q) → GoI E mt_267 46 [some (.ref 81), some (.int (i3 w)), some (.int (i3 (F 30))), some (.int (i3 (F 31))), some (.int (i3 x.1)), some (.int (i3 x.2)), some (.int (i3 (a : Int))), some (.int (i3 1))] A B Q := by
      intro a x A B ha hH hc
      refine for_lp (f := roS F a) (n := 4) (R := fun i x A B => HR x A B ∧ 1 ≤ i) (G := fun i x A B => GoI E mt_267 46 [some (.ref 81), some (.int (i3 w)), some (.int (i3 (F 30))), some (.int (i3 (F 31))), some (.int (i3 x.1)), some (.int (i3 x.2)), some (.int (i3 (a : Int))), some (.int (i3 (i : Nat)))] A B Q) ?_ 3 1 x A B (by omega) ⟨hH, by decide⟩ ?_
      · rintro b x A B hb ⟨⟨g1, g2, g3, g4, g5⟩, hb1⟩ ih
        obtain ⟨m, q⟩ := x
        dsimp only at g3 g4 g5 ih ⊢
        have firmcall : (¬ (m ≠ -1 ∧ m * (b : Int) ≤ (a : Int) * q)) → DoI E 195 [(.ref 81)] (gj_u2 (gj_u2 A 82 30 (i3 (a : Int))) 82 31 (i3 (b : Int))) B (fun r1 SI2 SJ2 => (¬ r1 = 0 → GoI E mt_267 46 [some (.ref 81), some (.int (i3 w)), some (.int (i3 (F 30))), some (.int (i3 (F 31))), some (.int (i3 (a : Int))), some (.int (i3 (b : Int))), some (.int (i3 (a : Int))), some (.int (i3 (b : Int) + (i3 1)))] SI2 SJ2 Q) ∧ (r1 = 0 → GoI E mt_267 46 [some (.ref 81), some (.int (i3 w)), some (.int (i3 (F 30))), some (.int (i3 (F 31))), some (.int (i3 m)), some (.int (i3 q)), some (.int (i3 (a : Int))), some (.int (i3 (b : Int) + (i3 1)))] SI2 SJ2 Q)) := by
          intro hn
          have er : roS F a b (m, q) = ic (firmF (trd F a b)) ((a : Int), (b : Int)) (m, q) := if_neg hn
          rw [er] at ih
          have ap : Ap F (trd F a b) := fun k hk => trd_n (by omega)
          refine sp_isFirmNow (rf A a b g1) (ap.p hW) (Wt_trd hT (by omega) (by omega)) (Wn_trd hW.1 hN a b) (fun A2 B2 l1 l2 _ => ?_)
          have fA : FI LIr SI A2 := ((g1.u (Or.inr ⟨rfl, Or.inl rfl⟩)).u (Or.inr ⟨rfl, Or.inr rfl⟩)).tr (l1.le (fun o k z => Or.inl z))
          rw [i3_add]
          refine ⟨fun y => ?_, fun y => ?_⟩
          · rw [ibc_0, Classical.not_not] at y
            rw [ic_t y] at ih
            exact ih A2 B2 ⟨⟨fA, g2.tr l2, Or.inr (by dsimp only; omega), by dsimp only; omega, by dsimp only; omega⟩, by omega⟩
          · rw [ibc_0] at y
            rw [ic_f y] at ih
            exact ih A2 B2 ⟨⟨fA, g2.tr l2, g3, g4, g5⟩, by omega⟩
        have mb1 := mul_b (a := m) (b := (b : Int)) (m := 3) (n := 3) (by omega) (by omega)
        have mb2 := mul_b (a := (a : Int)) (b := q) (m := 3) (n := 3) (by omega) (by omega)
        refine lp_267_46 _ _ _ _ _ _ _ A B ⟨fun y => ?_, fun y => ?_⟩
        · rw [i3_le (by omega) (by omega) (by omega) (by omega)] at y; omega
        · rw [i3_eq (by omega) (by omega) (by omega) (by omega), i3_mul, i3_mul, i3_le (by omega) (by omega) (by omega) (by omega)]
          refine ⟨fun c => firmcall (fun d => d.1 c), fun c => ⟨fun d => ?_, fun d => firmcall (fun k => d k.2)⟩⟩
          have er : roS F a b (m, q) = (m, q) := if_pos ⟨c, d⟩
          rw [er] at ih
          rw [i3_add]
          exact ih _ _ ⟨⟨(g1.u (Or.inr ⟨rfl, Or.inl rfl⟩)).u (Or.inr ⟨rfl, Or.inr rfl⟩), g2, g3, g4, g5⟩, by omega⟩
      · rintro A' B' ⟨hH', -⟩
        refine lp_267_46 _ _ _ _ _ _ _ A' B' ⟨fun _ => ?_, fun y => absurd (by decide) y⟩
        rw [i3_add]; exact hc A' B' hH'
    refine for_lp (f := fun a x => forN (roS F a) 1 3 x) (n := 4) (R := fun _ x A B => HR x A B) (G := fun i x A B => GoI E mt_267 37 [some (.ref 81), some (.int (i3 w)), some (.int (i3 (F 30))), some (.int (i3 (F 31))), some (.int (i3 x.1)), some (.int (i3 x.2)), some (.int (i3 (i : Nat))), none] A B Q) ?_ 4 0 (-1, 1) SI SJ (by omega) ⟨FI.rf, FJ.rf, Or.inl rfl, by decide, by decide⟩ ?_
    · intro a x A B ha hH ih
      refine lp_267_37 _ _ _ _ _ _ A B ⟨fun y => ?_, fun y => ?_⟩
      · rw [i3_le (by omega) (by omega) (by omega) (by omega)] at y; omega
      · exact inner a x A B ha hH ih
    · show ∀ A' B', HR (roAll F) A' B' → GoI E mt_267 37 [some (.ref 81), some (.int (i3 w)), some (.int (i3 (F 30))), some (.int (i3 (F 31))), some (.int (i3 (roAll F).1)), some (.int (i3 (roAll F).2)), some (.int (i3 (4 : Nat))), none] A' B' Q
      generalize roAll F = x at *
      obtain ⟨m, q⟩ := x
      rintro A B ⟨g1, g2, g3, g4, g5⟩
      dsimp only at g3 g4 g5 h ⊢
      have fin : FI LI1 SI (gj_u2 (gj_u2 A 82 30 (i3 (F 30))) 82 31 (i3 (F 31))) := by
        intro o k hk
        by_cases q1 : o = 82 ∧ k = 31
        · rw [q1.1, q1.2, u2_s]; exact r31.symm
        · rw [u2_n q1]
          by_cases q2 : o = 82 ∧ k = 30
          · rw [q2.1, q2.2, u2_s]; exact r30.symm
          · rw [u2_n q2]; exact g1 o k (fun z => Or.elim z hk (fun y => by omega))
      have hh := h _ _ fin g2
      refine lp_267_37 _ _ _ _ _ _ A B ⟨fun _ => ?_, fun y => absurd (by decide) y⟩
      rw [i3_eq (by omega) (by omega) (by omega) (by omega)]
      refine ⟨fun c => ?_, fun c => ?_⟩
      · rw [if_neg c] at hh
        rw [i3_64 (by omega) (by omega), i3_64 (by omega) (by omega)]
        have lg := lo_gcd (u := m) (l := q) (by omega)
        have gl : ((Int.gcd m q : Nat) : Int) ≤ 3 := by
          have := Int.gcd_le_right (a := m) (b := q) (by omega); omega
        refine sp_common (by omega) (by omega) (by omega) (by omega) ?_
        rw [i6_32 (by omega) (by omega), i3_eq0 (by omega) (by omega), i3_eq0 (by omega) (by omega), i3_div (by omega) (by omega) (by omega) (by omega), i3_div (by omega) (by omega) (by omega) (by omega)]
        refine ⟨fun c0 => ⟨by omega, ?_⟩, fun c0 => ⟨by omega, ?_⟩⟩
        · rw [if_neg c0] at hh; exact hh
        · rw [if_pos c0] at hh; exact hh
      · rw [if_pos c] at hh; exact hh
  · rw [ib_0] at z
    have e : roughA F w = -1 := if_neg z
    have hh := h SI SJ FI.rf FJ.rf
    rw [e] at hh; exact hh
end Slide
