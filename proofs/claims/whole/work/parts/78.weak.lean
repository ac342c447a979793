/-! 78: findsSides, weak: the reference -/
def LJq (o k : Nat) : Prop := LJp o k ∨ LJS o k
section Weak
variable {E : gj_E} {SI : gj_I} {SJ : gj_J} {F : Nat → Int} {W : Nat → V3} {O : Nat → Int} {n : Nat}
theorem RSd.p {s : Sds} {B : gj_J} (h : RSd s SI SJ) (f : FJ LJp SJ B) : RSd s SI B := by
  obtain ⟨h0, h1, h2⟩ := h
  refine ⟨h0, fun k hk => ?_, fun h3 => ?_⟩
  · rw [f 100 k (by unfold LJp; omega), f 101 k (by unfold LJp; omega), f 102 k (by unfold LJp; omega)]; exact h1 k hk
  · rw [f 81 39 (by unfold LJp; omega), f 81 40 (by unfold LJp; omega), f 81 41 (by unfold LJp; omega), f 81 42 (by unfold LJp; omega), f 81 43 (by unfold LJp; omega), f 81 44 (by unfold LJp; omega)]; exact h2 h3
theorem sp_findsSides {Q : gj_I → gj_J → Prop} (hL : LW W O n SI SJ) (hn : n ≤ 14) (hB : Wb W n) (h : ∀ SI' SJ', FI LIS SI SI' → FJ LJq SJ SJ' → LW W O n SI' SJ' → RSd (sdA W n) SI' SJ' → WSd (sdA W n) → (sdA W n).1 ≤ 364 → Q SI' SJ') : DoV E 253 [(.ref 81)] SI SJ Q := by
  refine st_253 SI SJ ?_
  have b364 : c3 n ≤ 364 := c3_m (b := 14) hn
  let HR : Nat → Sds → gj_I → gj_J → Prop := fun left s A B => FI LIS SI A ∧ FJ LJq SJ B ∧ RSd s A B ∧ WSd s ∧ s.1 + left ≤ 364
  have lw : ∀ left s A B, HR left s A B → LW W O n A B := by
    rintro left s A B ⟨g1, g2, -⟩
    refine ⟨by rw [g1 81 8 (by unfold LIS; omega)]; exact hL.1, fun j hj => ?_⟩
    obtain ⟨l1, l2, l3, l4⟩ := hL.2 j hj
    rw [g2 85 j (by unfold LJq LJp LJS; omega), g2 86 j (by unfold LJq LJp LJS; omega), g2 87 j (by unfold LJq LJp LJS; omega), g1 88 j (by unfold LIS; omega)]
    exact ⟨l1, l2, l3, l4⟩
  have l3 : ∀ (i j : Nat) (s : Sds) (A : gj_I) (B : gj_J), i < n → i < j → j < n → HR (c3 (n - (i + 1)) + c2 (n - j)) s A B → (∀ A' B', HR (c3 (n - (i + 1)) + c2 (n - (j + 1))) (sdJ W n i j s) A' B' → GoV E mt_253 19 [some (.ref 81), some (.int (i3 (i : Nat))), some (.int (i3 ((j + 1 : Nat) : Int))), none] A' B' Q) → GoV E mt_253 31 [some (.ref 81), some (.int (i3 (i : Nat))), some (.int (i3 (j : Nat))), some (.int (i3 ((j + 1 : Nat) : Int)))] A B Q := by
    intro i j s A B hi hij hj hH hc
    refine for_lp (f := sdS W n i j) (n := n) (R := fun k s A B => HR (c3 (n - (i + 1)) + c2 (n - (j + 1)) + (n - k)) s A B ∧ j < k) (G := fun k s A B => GoV E mt_253 31 [some (.ref 81), some (.int (i3 (i : Nat))), some (.int (i3 (j : Nat))), some (.int (i3 (k : Nat)))] A B Q) ?_ (n - (j + 1)) (j + 1) s A B (by omega) ⟨by rw [c2_s hj, ← Nat.add_assoc] at hH; exact hH, by omega⟩ ?_
    · rintro k s A B hk ⟨hH, hjk⟩ ih
      have hLA := lw _ _ _ _ hH
      obtain ⟨g1, g2, g3, g4, g5⟩ := hH
      refine lp_253_31 _ _ _ A B ⟨fun q => ?_, fun q => sp_findsSide hLA hn hB i j k hi hj hk rfl rfl rfl (fun B2 f2 hP => ⟨fun y => ?_, fun y => ?_⟩)⟩
      · rw [hLA.1, i3_le (by omega) (by omega) (by omega) (by omega)] at q; omega
      · rw [ibc_0] at y
        rw [i3_add]
        have es : sdS W n i j k s = s := by
          unfold sdS
          cases hp : sdP W n i j k with
          | none => rfl
          | some p => rw [hp] at y; exact absurd rfl y
        rw [es] at ih
        refine ih A B2 ⟨⟨g1, g2.tr (f2.le (fun o k z => Or.inl z)), g3.p f2, g4, by omega⟩, by omega⟩
      · rw [ibc_0, Classical.not_not] at y
        cases hp : sdP W n i j k with
        | none => rw [hp] at y; cases y
        | some p =>
          have es : sdS W n i j k s = ic (kno s p) s (tkS s p (dot p (W i))) := by unfold sdS; rw [hp]
          rw [es] at ih
          obtain ⟨hP1, hP2⟩ := hP p hp
          have ok := sdP_ok hB hi hj hk hp
          have g3' := g3.p f2
          have fB := g2.tr (f2.le (fun o k z => Or.inl z))
          refine sp_isKnown s p g3' g4 hP1 ok.1 (by omega) ⟨fun y2 => ?_, fun y2 => ?_⟩
          · rw [ibc_0, Classical.not_not] at y2
            rw [ic_t y2] at ih
            rw [i3_add]
            exact ih A B2 ⟨⟨g1, fB, g3', g4, by omega⟩, by omega⟩
          · rw [ibc_0] at y2
            rw [ic_f y2] at ih
            refine sp_takesSide s p (dot p (W i)) g3' g4 hP1 hP2 ok (by omega) (fun A3 B3 f3 f4 k3 k4 => ?_)
            rw [i3_add]
            exact ih A3 B3 ⟨⟨g1.tr f3, fB.tr (f4.le (fun o k z => Or.inr z)), k3, k4, by show s.1 + 1 + _ ≤ 364; omega⟩, by omega⟩
    · rintro A' B' ⟨hH', -⟩
      have hLA := lw _ _ _ _ hH'
      refine lp_253_31 _ _ _ A' B' ⟨fun _ => ?_, fun q => ?_⟩
      · rw [i3_add]
        refine hc A' B' ?_
        obtain ⟨g1, g2, g3, g4, g5⟩ := hH'
        exact ⟨g1, g2, g3, g4, by have g5' : (sdJ W n i j s).1 + (c3 (n - (i + 1)) + c2 (n - (j + 1)) + (n - n)) ≤ 364 := g5; omega⟩
      · rw [hLA.1, i3_le (by omega) (by omega) (by omega) (by omega)] at q; omega
  have l2 : ∀ (i : Nat) (s : Sds) (A : gj_I) (B : gj_J), i < n → HR (c3 (n - i)) s A B → (∀ A' B', HR (c3 (n - (i + 1))) (sdI W n i s) A' B' → GoV E mt_253 7 [some (.ref 81), some (.int (i3 ((i + 1 : Nat) : Int))), none, none] A' B' Q) → GoV E mt_253 19 [some (.ref 81), some (.int (i3 (i : Nat))), some (.int (i3 ((i + 1 : Nat) : Int))), none] A B Q := by
    intro i s A B hi hH hc
    refine for_lp (f := sdJ W n i) (n := n) (R := fun j s A B => HR (c3 (n - (i + 1)) + c2 (n - j)) s A B ∧ i < j) (G := fun j s A B => GoV E mt_253 19 [some (.ref 81), some (.int (i3 (i : Nat))), some (.int (i3 (j : Nat))), none] A B Q) ?_ (n - (i + 1)) (i + 1) s A B (by omega) ⟨by rw [c3_s hi] at hH; exact hH, by omega⟩ ?_
    · rintro j s A B hj ⟨hH, hij⟩ ih
      have hLA := lw _ _ _ _ hH
      refine lp_253_19 _ _ A B ⟨fun q => ?_, fun q => ?_⟩
      · rw [hLA.1, i3_le (by omega) (by omega) (by omega) (by omega)] at q; omega
      · rw [i3_add]
        exact l3 i j s A B hi hij hj hH (fun A' B' hH' => ih A' B' ⟨hH', by omega⟩)
    · rintro A' B' ⟨hH', -⟩
      have hLA := lw _ _ _ _ hH'
      refine lp_253_19 _ _ A' B' ⟨fun _ => ?_, fun q => ?_⟩
      · rw [i3_add]
        refine hc A' B' ?_
        obtain ⟨g1, g2, g3, g4, g5⟩ := hH'
        exact ⟨g1, g2, g3, g4, by have g5' : (sdI W n i s).1 + (c3 (n - (i + 1)) + c2 (n - n)) ≤ 364 := g5; omega⟩
      · rw [hLA.1, i3_le (by omega) (by omega) (by omega) (by omega)] at q; omega
  refine for_lp (f := sdI W n) (n := n) (R := fun i s A B => HR (c3 (n - i)) s A B) (G := fun i s A B => GoV E mt_253 7 [some (.ref 81), some (.int (i3 (i : Nat))), none, none] A B Q) ?_ n 0 (0, (fun _ => (0, 0, 0)), (0, 0, 0), 0) _ SJ (by omega) ⟨FI.rf.u ⟨rfl, rfl⟩, FJ.rf, ⟨u2_s, fun k hk => absurd hk (Nat.not_lt_zero k), fun hk => absurd hk (Nat.lt_irrefl 0)⟩, ⟨fun k hk => absurd hk (Nat.not_lt_zero k), fun hk => absurd hk (Nat.lt_irrefl 0)⟩, by show 0 + c3 n ≤ 364; omega⟩ ?_
  · intro i s A B hi hH ih
    have hLA := lw _ _ _ _ hH
    refine lp_253_7 _ A B ⟨fun q => ?_, fun q => ?_⟩
    · rw [hLA.1, i3_le (by omega) (by omega) (by omega) (by omega)] at q; omega
    · rw [i3_add]
      exact l2 i s A B hi hH ih
  · intro A' B' hH'
    have hLA := lw _ _ _ _ hH'
    obtain ⟨g1, g2, g3, g4, g5⟩ := hH'
    refine lp_253_7 _ A' B' ⟨fun _ => h A' B' g1 g2 hLA g3 g4 ?_, fun q => ?_⟩
    · have g5' : (sdA W n).1 + c3 (n - n) ≤ 364 := g5
      omega
    · rw [hLA.1, i3_le (by omega) (by omega) (by omega) (by omega)] at q; omega
noncomputable def sdF (F : Nat → Int) : Sds := sdA (WW F) (nW F)
noncomputable def weakA (F : Nat → Int) (w : Int) : Int := ic ((0 ≤ w ∧ w ≤ 6) ∧ firmF F) (if w = 0 then lox (sdF F).2.2.2 (sz3 (sdF F).2.2.1) else if w = 1 then loy (sdF F).2.2.2 (sz3 (sdF F).2.2.1) else if w = 2 then (sdF F).2.2.1.1 else if w = 3 then (sdF F).2.2.1.2.1 else if w = 4 then (sdF F).2.2.1.2.2 else if w = 5 then (sdF F).2.2.2 else ((sdF F).1 : Int)) (-9000000000000000000)
/-- what is firm has a side -/
def sidE (W : Nat → V3) (n : Nat) : Prop := firm W n (fullS n) → 0 < (sdA W n).1
theorem sp_weak {Q : Int64 → gj_I → gj_J → Prop} {a : Int32} (hR : RF F SI) (hW : Wp F) (hT : Wt F) (hN : Wn F) (hE : sidE (WW F) (nW F)) (w : Int) (wr : -2147483648 ≤ w ∧ w < 2147483648) (ha : a = i3 w) (h : ∀ SI' SJ', FI LRI SI SI' → FJ LRJ SJ SJ' → Q (i6 (weakA F w)) SI' SJ') : DoL E 254 [(.ref 81), (.int a)] SI SJ Q := by
  subst ha
  have nb := nw_b hN
  have hB := Wl_b hW hT (hN.ok hW.1)
  refine st_254 _ SI SJ ?_
  rw [i3_64 (by omega) (by omega)]
  refine sp_in (by omega) (by omega) (by omega) (by omega) (by omega) (by omega) ⟨fun z => ?_, fun z => ?_⟩
  · rw [ib_0] at z
    have e : weakA F w = -9000000000000000000 := ic_f (fun y => z y.1)
    rw [e] at h; exact h SI SJ FI.rf FJ.rf
  · rw [ib_0, Decidable.not_not] at z
    refine sp_isFirmNow hR hW hT hN (fun A B f1 f2 hL => ⟨fun y => ?_, fun y => ?_⟩)
    · rw [ibc_0, Classical.not_not] at y
      refine sp_findsSides hL (by omega) hB (fun A2 B2 g1 g2 _ g3 g4 g5 => ?_)
      have hh := h A2 B2 ((LI1_R f1).tr (g1.le (fun o k z => by unfold LIS at z; unfold LRI; omega))) ((LJ1_R f2).tr (g2.le (fun o k z => by unfold LJq LJp LJS at z; unfold LRJ; omega)))
      have e : weakA F w = (if w = 0 then lox (sdF F).2.2.2 (sz3 (sdF F).2.2.1) else if w = 1 then loy (sdF F).2.2.2 (sz3 (sdF F).2.2.1) else if w = 2 then (sdF F).2.2.1.1 else if w = 3 then (sdF F).2.2.1.2.1 else if w = 4 then (sdF F).2.2.1.2.2 else if w = 5 then (sdF F).2.2.2 else ((sdF F).1 : Int)) := ic_t ⟨z, y⟩
      rw [e] at hh
      have es : sdA (Wl F (ctF F)) (nf F * fc F) = sdF F := rfl
      rw [es] at g3 g4 g5
      have e0 : 0 < (sdF F).1 := hE y
      generalize sdF F = s at *
      obtain ⟨s0, -, s2⟩ := g3
      obtain ⟨t1, t2, t3, t4, t5, t6⟩ := s2 e0
      rw [i3_eq (by omega) (by omega) (by omega) (by omega), i3_eq (by omega) (by omega) (by omega) (by omega), i3_eq (by omega) (by omega) (by omega) (by omega), i3_eq (by omega) (by omega) (by omega) (by omega), i3_eq (by omega) (by omega) (by omega) (by omega), i3_eq (by omega) (by omega) (by omega) (by omega), i3_t (by omega) (by omega), t1, t2, t3, t4, t5, t6, s0, i3_64 (by omega) (by omega)]
      refine ⟨fun q => ?_, fun q => ?_, fun q => ?_, fun q => ?_, fun q => ?_, fun q => ?_, fun q => ?_⟩
      · rw [if_pos q] at hh; exact hh
      · rw [if_neg (by omega), if_pos q] at hh; exact hh
      · rw [if_neg (by omega), if_neg (by omega), if_pos q] at hh; exact hh
      · rw [if_neg (by omega), if_neg (by omega), if_neg (by omega), if_pos q] at hh; exact hh
      · rw [if_neg (by omega), if_neg (by omega), if_neg (by omega), if_neg (by omega), if_pos q] at hh; exact hh
      · rw [if_neg (by omega), if_neg (by omega), if_neg (by omega), if_neg (by omega), if_neg (by omega), if_pos q] at hh; exact hh
      · rw [if_neg (by omega), if_neg (by omega), if_neg (by omega), if_neg (by omega), if_neg (by omega), if_neg (by omega)] at hh; exact hh
    · rw [ibc_0] at y
      have e : weakA F w = -9000000000000000000 := ic_f (fun z => y z.2)
      have hh := h A B (LI1_R f1) (LJ1_R f2)
      rw [e] at hh; exact hh
end Weak
