/-! ab: best of the class -/
theorem lo_lo {u l : Int} (hl : 0 < l) : lox (lox u l) (loy u l) = lox u l ∧ loy (lox u l) (loy u l) = loy u l := by
  obtain ⟨g0, e1, e2⟩ := lo_gcd (u := u) hl
  have p := (lo_pos (u := u) hl).1
  refine lo_pr p hl ?_
  generalize lox u l = x at *
  generalize loy u l = y at *
  generalize ((Int.gcd u l : Nat) : Int) = g at *
  rw [← e1, ← e2]; grind
section BestC
variable {E : gj_E} {SI : gj_I} {SJ : gj_J} {F : Nat → Int} {W : Nat → V3} {O : Nat → Int} {n : Nat}
theorem sp_firmW66 {Q : Int32 → gj_I → gj_J → Prop} (hL : LB66 W O n SI SJ) (hn : n ≤ 14) (hB : Wb W n) (h : ∀ SI' SJ', FI LIb66 SI SI' → FJ LJb66 SJ SJ' → LB66 W O n SI' SJ' → PB66 W n SI' SJ' → Q (ibc (firm W n (fullS n))) SI' SJ') : DoI E 81 [(.ref 65)] SI SJ Q := by
  have hfb := fullS_b hn
  exact st_81 SI SJ (sp_pair66 hL hn hB (fun A2 B2 k1 k2 k3 k4 => sp_everyone66 k3.1 hn (sp_spans66 k3.1 k4 hn hB (fullS n) (by omega) rfl ⟨ibc_01, h A2 B2 k1 k2 k3 k4⟩)))
theorem sp_withC {Q : Int32 → gj_I → gj_J → Prop} {a b : Int32} (hC : NS3 F SI) (hF : WF F) (p : Nat) (hp : p < pn F) (ha : a = i3 (pe F p : Nat)) (hb : b = i3 (ps F p)) (h : ∀ SI' SJ', FI LI66 SI SI' → FJ LJ66 SJ SJ' → LB66 (Wl F (ctB F p)) (fun j => (fun t : Nat => (t : Int)) (j / fc F)) ((nf F + 1) * fc F) SI' SJ' → PB66 (Wl F (ctB F p)) ((nf F + 1) * fc F) SI' SJ' → Q (ibc (firm (Wl F (ctB F p)) ((nf F + 1) * fc F) (fullS ((nf F + 1) * fc F)))) SI' SJ') : DoI E 83 [(.ref 65), (.ref 3), (.int a), (.int b)] SI SJ Q := by
  subst ha; subst hb
  obtain ⟨hX, hD, ⟨f5, fe, f6, f7, f8, f9⟩, -, -⟩ := hC
  obtain ⟨hW, hT, hN, -, -, -⟩ := hF
  obtain ⟨pe1, pe2⟩ := pn_e hW
  have i0 : 0 ≤ (p : Int) := by omega
  have i1 : (p : Int) < pl F (nC F) := by omega
  obtain ⟨p1, p2, p3⟩ := pe_s i0 i1
  have pb := ps_b i0 i1
  have n6 := hN.2.1
  have n0 := hN.1
  have fb := fc_b F
  have en : F 17 = nf F := by unfold nf; omega
  have n14 : (nf F + 1) * fc F ≤ 14 := Nat.mul_le_mul (show nf F + 1 ≤ 7 by omega) fb.2
  have ec : ∀ t, t < nf F → ctB F p t = ctF F t := fun t ht => if_pos ht
  have eb : ctB F p (nf F) = ctP F p := if_neg (Nat.lt_irrefl _)
  have hB : Wb (Wl F (ctB F p)) ((nf F + 1) * fc F) := Wl_b hW hT (fun t ht => by
    by_cases q : t < nf F
    · rw [ec t q]; exact hN.ok hW.1 t q
    · rw [show t = nf F by omega, eb]; exact ctP_ok i0 i1)
  refine st_83 _ _ SI SJ (sp_clear66 ?_)
  refine up_lp (α := Unit) (P := fun i _ A B => FI LIa66 SI A ∧ FJ LJa66 SJ B ∧ LB66 (Wl F (ctB F p)) (fun j => (fun t : Nat => (t : Int)) (j / fc F)) (i * fc F) A B) (G := fun i _ A B => GoI E mt_83 10 [some (.ref 65), some (.ref 3), some (.int (i3 (pe F p : Nat))), some (.int (i3 (ps F p))), some (.int (i3 (i : Nat)))] A B Q) (nf F) ?_ ?_ 0 () _ SJ (by omega) ⟨FI.rf.u (Or.inr ⟨rfl, rfl⟩), FJ.rf, ⟨by rw [u2_s, Nat.zero_mul]; rfl, fun j hj => by rw [Nat.zero_mul] at hj; exact absurd hj (Nat.not_lt_zero j)⟩⟩
  · rintro _ A B ⟨g1, g2, g3⟩
    have ga : ∀ o k, ¬ LIa66 o k → A o k = SI o k := g1
    have e5 : A 3 5 = i3 (F 17) := by rw [ga 3 5 (by unfold LIa66; omega)]; exact f5
    have a6 : A 3 6 = i3 (F 30) := by rw [ga 3 6 (by unfold LIa66; omega)]; exact f6
    have a7 : A 3 7 = i3 (F 31) := by rw [ga 3 7 (by unfold LIa66; omega)]; exact f7
    have a8 : A 3 8 = i3 (F 32) := by rw [ga 3 8 (by unfold LIa66; omega)]; exact f8
    have a9 : A 3 9 = i3 (F 33) := by rw [ga 3 9 (by unfold LIa66; omega)]; exact f9
    have hXA : PX4 F A := hX.f g1 (by unfold LIa66; exact ⟨by omega, fun k => by omega⟩)
    have hDA : PD4 F A := hD.f g1 (by unfold LIa66; exact ⟨by omega, fun k => by omega⟩)
    refine lp_83_10 _ _ _ A B ⟨fun _ => ?_, fun c => ?_⟩
    · rw [e5, a6, a7]
      refine sp_press66 (ct := ctB F p) (O := fun t : Nat => (t : Int)) hXA hDA hW hT a8 a9 (nf F) (by rw [eb]; exact p1) (by rw [eb]; exact pb) (by omega) g3 (i3_c en) (by rw [eb]; rfl) (by rw [eb]; rfl) rfl rfl (fun A2 B2 k1 k2 k3 => ?_)
      exact sp_firmW66 k3 n14 hB (fun A3 B3 l1 l2 l3 l4 => ⟨ibc_01, h A3 B3 (((ia66 g1).tr (ia66 k1)).tr (ib66 l1)) (((ja66 g2).tr (ja66 k2)).tr (jb66 l2)) l3 l4⟩)
    · rw [e5, en, i3_le (by omega) (by omega) (by omega) (by omega)] at c; omega
  · rintro i _ A B hi ⟨g1, g2, g3⟩ ih
    have ga : ∀ o k, ¬ LIa66 o k → A o k = SI o k := g1
    have e5 : A 3 5 = i3 (F 17) := by rw [ga 3 5 (by unfold LIa66; omega)]; exact f5
    have a6 : A 3 6 = i3 (F 30) := by rw [ga 3 6 (by unfold LIa66; omega)]; exact f6
    have a7 : A 3 7 = i3 (F 31) := by rw [ga 3 7 (by unfold LIa66; omega)]; exact f7
    have a8 : A 3 8 = i3 (F 32) := by rw [ga 3 8 (by unfold LIa66; omega)]; exact f8
    have a9 : A 3 9 = i3 (F 33) := by rw [ga 3 9 (by unfold LIa66; omega)]; exact f9
    have hXA : PX4 F A := hX.f g1 (by unfold LIa66; exact ⟨by omega, fun k => by omega⟩)
    have hDA : PD4 F A := hD.f g1 (by unfold LIa66; exact ⟨by omega, fun k => by omega⟩)
    obtain ⟨c1, c2, c3, c4⟩ := hN.c hW.1 (i := i) hi
    obtain ⟨w1, w2, w3, w4⟩ := hN.2.2 i (by omega)
    obtain ⟨s1, s2⟩ := fe i (by omega)
    have a12 : A 12 i = i3 (F (18 + i)) := by rw [ga 12 i (by unfold LIa66; omega)]; exact s1
    have a13 : A 13 i = i3 (F (24 + i)) := by rw [ga 13 i (by unfold LIa66; omega)]; exact s2
    refine lp_83_10 _ _ _ A B ⟨fun c => ?_, fun c => ⟨by rw [i3_in (by omega) (by omega)]; omega, ?_⟩⟩
    · rw [e5, en, i3_le (by omega) (by omega) (by omega) (by omega)] at c; omega
    · rw [i3_n (by omega) (by omega), show ((i : Nat) : Int).toNat = i by omega, i3_add, a12, a13, a6, a7]
      exact sp_press66 (ct := ctB F p) (O := fun t : Nat => (t : Int)) hXA hDA hW hT a8 a9 i (by rw [ec i hi]; exact c1) (by rw [ec i hi]; exact ⟨w3, w4⟩) (by omega) g3 rfl (by rw [ec i hi]; exact i3_c c4) (by rw [ec i hi]; rfl) rfl rfl (fun A2 B2 k1 k2 k3 => ih () A2 B2 ⟨g1.tr k1, g2.tr k2, k3⟩)
theorem sp_stronger79 {Q : Int32 → gj_I → gj_J → Prop} {u l x y : Int} (hx : 0 ≤ x ∧ x ≤ 110000000) (hy : 0 < y ∧ y ≤ 1230000) (hu : 0 ≤ u ∧ u ≤ 110000000) (hl : 0 < l ∧ l ≤ 1230000) (e1 : SJ 77 0 = i6 u) (e2 : SJ 77 1 = i6 l) (e3 : SJ 79 0 = i6 x) (e4 : SJ 79 1 = i6 y) (h : Q (ibc (x * l < u * y)) SI SJ) : DoI E 84 [(.ref 65), (.ref 79)] SI SJ Q := by
  refine st_84_65_79 SI SJ (st_15_77 _ _ SI SJ ?_)
  have m1 := mul_b (a := u) (b := y) (m := 110000000) (n := 1230000) (by omega) (by omega)
  have m2 := mul_b (a := x) (b := l) (m := 110000000) (n := 1230000) (by omega) (by omega)
  rw [e1, e2, e3, e4, i6_mul, i6_mul, i6_le (by omega) (by omega) (by omega) (by omega)]
  refine ⟨fun c => ⟨by decide, ?_⟩, fun c => ⟨by decide, ?_⟩⟩
  · rw [ibc_f (by omega)] at h; exact h
  · rw [ibc_t (by omega)] at h; exact h
theorem sp_stronger80 {Q : Int32 → gj_I → gj_J → Prop} {u l x y : Int} (hx : 0 ≤ x ∧ x ≤ 110000000) (hy : 0 < y ∧ y ≤ 1230000) (hu : 0 ≤ u ∧ u ≤ 110000000) (hl : 0 < l ∧ l ≤ 1230000) (e1 : SJ 77 0 = i6 u) (e2 : SJ 77 1 = i6 l) (e3 : SJ 80 0 = i6 x) (e4 : SJ 80 1 = i6 y) (h : Q (ibc (x * l < u * y)) SI SJ) : DoI E 84 [(.ref 65), (.ref 80)] SI SJ Q := by
  refine st_84_65_80 SI SJ (st_15_77 _ _ SI SJ ?_)
  have m1 := mul_b (a := u) (b := y) (m := 110000000) (n := 1230000) (by omega) (by omega)
  have m2 := mul_b (a := x) (b := l) (m := 110000000) (n := 1230000) (by omega) (by omega)
  rw [e1, e2, e3, e4, i6_mul, i6_mul, i6_le (by omega) (by omega) (by omega) (by omega)]
  refine ⟨fun c => ⟨by decide, ?_⟩, fun c => ⟨by decide, ?_⟩⟩
  · rw [ibc_f (by omega)] at h; exact h
  · rw [ibc_t (by omega)] at h; exact h
def LIbs (o k : Nat) : Prop := LI66 o k ∨ LIsd76 o k ∨ (o = 65 ∧ (k = 4 ∨ k = 6))
def LJbs (o k : Nat) : Prop := LJ66 o k ∨ LJsv76 o k ∨ o = 79
theorem LIbs_no {o k : Nat} : LIbs o k → (o = 70 ∨ o = 74 ∨ o = 75 ∨ (o = 66 ∧ k = 9) ∨ (o = 76 ∧ k = 2) ∨ o = 78 ∨ (o = 65 ∧ (k = 4 ∨ k = 6))) := by
  unfold LIbs LI66 LIsd76; omega
theorem LJbs_no {o k : Nat} : LJbs o k → 67 ≤ o ∧ o ≤ 79 := by
  unfold LJbs LJ66 LJsv76 LJsd76; omega
theorem sp_seekOneC {Q : gj_I → gj_J → Prop} (hC : CNT F SI SJ) (hF : WF F) (h : ∀ SI' SJ', FI LIbs SI SI' → FJ LJbs SJ SJ' → SI' 65 4 = i3 1 → SI' 65 6 = i3 (bsA F).1 → ((bsA F).1 ≠ -1 → SJ' 79 0 = i6 (bsA F).2.1 ∧ SJ' 79 1 = i6 (bsA F).2.2) → ((bsA F).1 = -1 ∨ (0 ≤ (bsA F).1 ∧ (bsA F).1 < pn F)) → Q SI' SJ') : DoV E 82 [(.ref 65), (.ref 3)] SI SJ Q := by
  have hW := hF.1; have hT := hF.2.1; have hN := hF.2.2.1; have hG := hF.2.2.2.1
  obtain ⟨pe1, pe2⟩ := pn_e hW
  have nb : nf F ≤ 6 := by have := hN.2.1; unfold nf; omega
  have fb := fc_b F
  have n14 : (nf F + 1) * fc F ≤ 14 := Nat.mul_le_mul (show nf F + 1 ≤ 7 by omega) fb.2
  have hC2 := hC
  obtain ⟨hS, -, t1, -⟩ := hC2
  -- what the reference's loop keeps
  have bd : ∀ (i : Nat) (a : Int × Int × Int), (a.1 = -1 ∨ (0 ≤ a.1 ∧ a.1 < (i : Int))) → (bsS F i a).1 = -1 ∨ (0 ≤ (bsS F i a).1 ∧ (bsS F i a).1 < ((i + 1 : Nat) : Int)) := by
    intro i a ha
    unfold bsS
    by_cases q : fgA F (pe F i) (ps F i) = -1 ∧ firm (Wl F (ctB F i)) ((nf F + 1) * fc F) (fullS ((nf F + 1) * fc F)) ∧ betr a.1 a.2 (wkU (Wl F (ctB F i)) ((nf F + 1) * fc F)) (wkL (Wl F (ctB F i)) ((nf F + 1) * fc F))
    · rw [ic_t q]; right; dsimp only; omega
    · rw [ic_f q]; omega
  have fin : (bsA F).1 = -1 ∨ (0 ≤ (bsA F).1 ∧ (bsA F).1 < pn F) := by
    have := forN_I (f := bsS F) (P := fun i a => a.1 = -1 ∨ (0 ≤ a.1 ∧ a.1 < (i : Int))) (pn F) 0 (-1, 0, 1) (fun j b _ _ hb => bd j b hb) (Or.inl rfl)
    rw [Nat.zero_add] at this
    exact this
  refine st_82 SI SJ ⟨fun c => ?_, fun c => ?_⟩
  · refine for_lp (f := bsS F) (n := pn F) (R := fun i (a : Int × Int × Int) A B => FI LIbs SI A ∧ FJ LJbs SJ B ∧ A 65 4 = i3 1 ∧ A 65 6 = i3 a.1 ∧ (a.1 ≠ -1 → B 79 0 = i6 a.2.1 ∧ B 79 1 = i6 a.2.2) ∧ (a.1 = -1 ∨ (0 ≤ a.1 ∧ a.1 < i)) ∧ (0 < a.2.2 ∧ a.2.2 ≤ 1230000 ∧ 0 ≤ a.2.1 ∧ a.2.1 ≤ 110000000)) (G := fun i (a : Int × Int × Int) A B => GoV E mt_82 20 [some (.ref 65), some (.ref 3), some (.int (i3 (i : Nat))), none, none] A B Q) ?_ (pn F) 0 (-1, 0, 1) _ SJ (by omega) ⟨(FI.rf.u (Or.inr (Or.inr ⟨rfl, Or.inl rfl⟩))).u (Or.inr (Or.inr ⟨rfl, Or.inr rfl⟩)), FJ.rf, by rw [u2_n (by omega), u2_s], u2_s, fun z => absurd rfl z, Or.inl rfl, by decide, by decide, by decide, by decide⟩ ?_
    · rintro i a A B hi ⟨g1, g2, g3, g4, g5, g6, g7⟩ ih
      obtain ⟨x, u, l⟩ := a
      dsimp only at g4 g5 g6 g7 ih ⊢
      have hSA : NS3 F A := hS.f g1 (fun o k h1 h2 z => by have := LIbs_no z; omega)
      have hSA2 := hSA
      obtain ⟨hX, hD, hf, -, -⟩ := hSA2
      have i0 : 0 ≤ (i : Int) := by omega
      have i1 : (i : Int) < pl F (nC F) := by omega
      obtain ⟨p1, p2, p3⟩ := pe_s i0 i1
      have pb := ps_b i0 i1
      have sb := hW.1.s (pe F i)
      have n8 := hW.1.n.2.1
      have fgb := fgA_b hG (pe F i) (ps F i)
      obtain ⟨d1, d2⟩ := hD.2.2 i hi
      have stay : ∀ A' B', FI LI66 A A' ∨ (FI (fun o k => LI66 o k ∨ LIsd76 o k) A A') → FJ LJ66 B B' ∨ (FJ (fun o k => LJ66 o k ∨ LJsv76 o k) B B') → bsS F i (x, u, l) = (x, u, l) → GoV E mt_82 20 [some (.ref 65), some (.ref 3), some (.int (i3 ((i : Int) + 1))), none, none] A' B' Q := by
        intro A' B' f1 f2 eq
        have f1' : FI (fun o k => LI66 o k ∨ LIsd76 o k) A A' := Or.elim f1 (fun z => z.le (fun o k y => Or.inl y)) id
        have f2' : FJ (fun o k => LJ66 o k ∨ LJsv76 o k) B B' := Or.elim f2 (fun z => z.le (fun o k y => Or.inl y)) id
        rw [eq] at ih
        refine ih A' B' ⟨g1.tr (f1'.le (fun o k y => Or.elim y Or.inl (fun y => Or.inr (Or.inl y)))), g2.tr (f2'.le (fun o k y => Or.elim y Or.inl (fun y => Or.inr (Or.inl y)))), ?_, ?_, ?_, by dsimp only; omega, g7⟩
        · rw [f1' 65 4 (by unfold LI66 LIsd76; omega)]; exact g3
        · rw [f1' 65 6 (by unfold LI66 LIsd76; omega)]; exact g4
        · rw [f2' 79 0 (by unfold LJ66 LJsv76 LJsd76; omega), f2' 79 1 (by unfold LJ66 LJsv76 LJsd76; omega)]; exact g5
      have ei : i3 (((i + 1 : Nat) : Int)) = i3 ((i : Int) + 1) := rfl
      refine lp_82_20 _ A B ⟨fun q => ?_, fun q => ⟨by rw [i3_in (by omega) (by omega)]; omega, ?_⟩⟩
      · rw [hD.2.1, i3_le (by omega) (by omega) (by omega) (by omega)] at q; omega
      · rw [i3_n (by omega) (by omega), show ((i : Nat) : Int).toNat = i by omega, i3_add, d1, d2]
        refine sp_fingerAtC hf.1 hf.2.1 hG (pe F i) (ps F i) (fgA F (pe F i) (ps F i)) (by omega) (by omega) rfl rfl (fgA_I F _ _) ?_
        rw [i3_0le (by omega) (by omega)]
        refine ⟨fun q2 => stay A B (Or.inl FI.rf) (Or.inl FJ.rf) (ic_f (fun y => by have := y.1; omega)), fun q2 => sp_withC hSA hF i hi rfl rfl (fun A2 B2 k1 k2 k3 k4 => ?_)⟩
        have hB : Wb (Wl F (ctB F i)) ((nf F + 1) * fc F) := Wl_b hW hT (fun t ht => by
          by_cases q : t < nf F
          · rw [show ctB F i t = ctF F t from if_pos q]; exact hN.ok hW.1 t q
          · rw [show ctB F i t = ctP F i from if_neg q]; exact ctP_ok i0 i1)
        have hbs : bsS F i (x, u, l) = ic (fgA F (pe F i) (ps F i) = -1 ∧ firm (Wl F (ctB F i)) ((nf F + 1) * fc F) (fullS ((nf F + 1) * fc F)) ∧ betr x (u, l) (wkU (Wl F (ctB F i)) ((nf F + 1) * fc F)) (wkL (Wl F (ctB F i)) ((nf F + 1) * fc F))) ((i : Int), wkU (Wl F (ctB F i)) ((nf F + 1) * fc F), wkL (Wl F (ctB F i)) ((nf F + 1) * fc F)) (x, u, l) := rfl
        have sE := side_all (Wl F (ctB F i)) ((nf F + 1) * fc F)
        unfold sidE at sE
        generalize hWW : Wl F (ctB F i) = W at *
        generalize hnn : (nf F + 1) * fc F = N at *
        refine ⟨fun q3 => ?_, fun q3 => ?_⟩
        · rw [ibc_0] at q3
          exact stay A2 B2 (Or.inl k1) (Or.inl k2) (by rw [hbs]; exact ic_f (fun y => q3 y.2.1))
        · rw [ibc_0, Classical.not_not] at q3
          have s0 := sE q3
          refine sp_survey76 k3 k4 n14 hB s0 (fun A3 B3 l1 l2 l3 l4 l5 l6 => ?_)
          have F1 : FI (fun o k => LI66 o k ∨ LIsd76 o k) A A3 := (k1.le (fun o k y => Or.inl y)).tr (l1.le (fun o k y => Or.inr y))
          have F2 : FJ (fun o k => LJ66 o k ∨ LJsv76 o k) B B3 := (k2.le (fun o k y => Or.inl y)).tr (l2.le (fun o k y => Or.inr y))
          have wb := wk_b l4.2.2 s0
          have ll := lo_lo (u := (sdA W N).2.2.2) (l := sz3 (sdA W N).2.2.1) (sz3_p (l4.2.2.2 s0).2.1)
          have eU : lox (sdA W N).2.2.2 (sz3 (sdA W N).2.2.1) = wkU W N := rfl
          have eL : loy (sdA W N).2.2.2 (sz3 (sdA W N).2.2.1) = wkL W N := rfl
          rw [eU, eL] at wb
          rw [eU, eL] at ll
          rw [eU] at l5
          rw [eL] at l6
          have a4 : A3 65 4 = i3 1 := by rw [F1 65 4 (by unfold LI66 LIsd76; omega)]; exact g3
          have a6 : A3 65 6 = i3 x := by rw [F1 65 6 (by unfold LI66 LIsd76; omega)]; exact g4
          have go : betr x (u, l) (wkU W N) (wkL W N) → DoV E 14 [(.ref 79), (.long (B3 77 0)), (.long (B3 77 1))] (gj_u2 A3 65 6 (i3 (i : Nat))) B3 (fun SI8 SJ8 => GoV E mt_82 20 [some (.ref 65), some (.ref 3), some (.int (i3 ((i : Int) + 1))), none, none] SI8 SJ8 Q) := by
            intro hb
            have eq : bsS F i (x, u, l) = ((i : Int), wkU W N, wkL W N) := by rw [hbs]; exact ic_t ⟨by omega, q3, hb⟩
            rw [eq] at ih
            refine sp_become79 (wkU W N) (wkL W N) (by omega) (by omega) l5 l6 ?_
            rw [ll.1, ll.2]
            refine ih _ _ ⟨(g1.tr (F1.le (fun o k y => Or.elim y Or.inl (fun y => Or.inr (Or.inl y))))).u (Or.inr (Or.inr ⟨rfl, Or.inr rfl⟩)), ((g2.tr (F2.le (fun o k y => Or.elim y Or.inl (fun y => Or.inr (Or.inl y))))).w (Or.inr (Or.inr rfl))).w (Or.inr (Or.inr rfl)), by rw [u2_n (by omega)]; exact a4, u2_s, fun _ => ⟨by rw [w2_n (by omega), w2_s], w2_s⟩, by dsimp only; omega, by dsimp only; omega⟩
          rw [a6, i3_eq (b := -1) (by omega) (by omega) (by omega) (by omega)]
          refine ⟨fun q4 => go (Or.inl (by omega)), fun q4 => ?_⟩
          have g5' := g5 q4
          refine sp_stronger79 (x := u) (y := l) (u := wkU W N) (l := wkL W N) (by omega) (by omega) (by omega) (by omega) l5 l6 (by rw [F2 79 0 (by unfold LJ66 LJsv76 LJsd76; omega)]; exact g5'.1) (by rw [F2 79 1 (by unfold LJ66 LJsv76 LJsd76; omega)]; exact g5'.2) ⟨fun q5 => ?_, fun q5 => ?_⟩
          · rw [ibc_0] at q5
            exact stay A3 B3 (Or.inr F1) (Or.inr F2) (by rw [hbs]; refine ic_f (fun y => ?_); rcases y.2.2 with z | z; omega; exact q5 z)
          · rw [ibc_0, Classical.not_not] at q5
            exact go (Or.inr q5)
    · rintro A B ⟨g1, g2, g3, g4, g5, g6, g7⟩
      have hSA : NS3 F A := hS.f g1 (fun o k h1 h2 z => by have := LIbs_no z; omega)
      refine lp_82_20 _ A B ⟨fun _ => h A B g1 g2 g3 g4 g5 fin, fun q => ?_⟩
      rw [hSA.2.1.2.1, i3_le (by omega) (by omega) (by omega) (by omega)] at q; omega
  · rcases t1 with z | ⟨z1, z2, z3⟩
    · exact absurd z c
    · exact h SI SJ FI.rf FJ.rf z1 z2 z3 fin
theorem sp_bestC {Q : Int64 → gj_I → gj_J → Prop} {a : Int32} (hC : CNT F SI SJ) (hF : WF F) (w : Int) (wr : -2147483648 ≤ w ∧ w < 2147483648) (ha : a = i3 w) (h : ∀ SI' SJ', FI LCI SI SI' → FJ LCJ SJ SJ' → CNT F SI' SJ' → Q (i6 (bestA F w)) SI' SJ') : DoL E 133 [(.ref 0), (.int a)] SI SJ Q := by
  subst ha
  have hW := hF.1
  obtain ⟨pe1, pe2⟩ := pn_e hW
  have bad : ¬ (0 ≤ w ∧ w ≤ 3) → Q (i6 (-9000000000000000000)) SI SJ := fun e => by
    have hh := h SI SJ FI.rf FJ.rf hC
    rw [show bestA F w = -9000000000000000000 from if_neg e] at hh; exact hh
  refine st_133 _ SI SJ ?_
  rw [i3_lt0 (by omega) (by omega), i3_le (by omega) (by omega) (by omega) (by omega)]
  refine ⟨fun c => bad (by omega), fun c => ⟨fun d => sp_seekOneC hC hF (fun A B g1 g2 g3 g4 g5 g6 => ?_), fun d => bad (by omega)⟩⟩
  have eq : bestA F w = (if (bsA F).1 = -1 then -2 else if w = 0 then (pe F (bsA F).1 : Int) else if w = 1 then ps F (bsA F).1 else if w = 2 then (bsA F).2.1 else (bsA F).2.2) := if_pos (by omega)
  have hC2 : CNT F A B := by
    obtain ⟨h1, ⟨k1, k2, k3, k4⟩, h3⟩ := hC
    refine ⟨h1.f g1 (fun o k h1 h2 z => by have := LIbs_no z; omega), ⟨?_, ?_, ?_, ?_⟩, ?_, ?_⟩
    · exact LB42.f k1 g1 g2 ⟨fun z => by have := LIbs_no z; omega, fun k z => by have := LIbs_no z; omega⟩ (fun k => ⟨fun z => by have := LJbs_no z; omega, fun z => by have := LJbs_no z; omega, fun z => by have := LJbs_no z; omega⟩)
    · exact CB42.f k2 g1 g2 (fun k => ⟨fun z => by have := LIbs_no z; omega, fun z => by have := LIbs_no z; omega⟩) (fun k => ⟨fun z => by have := LJbs_no z; omega, fun z => by have := LJbs_no z; omega, fun z => by have := LJbs_no z; omega⟩)
    · rw [g1 0 12 (fun z => by have := LIbs_no z; omega)]; exact k3
    · rw [g1 0 13 (fun z => by have := LIbs_no z; omega)]; exact k4
    · exact Or.inr ⟨g3, g4, g5⟩
    · rw [g1 65 5 (fun z => by have := LIbs_no z; omega), g1 65 7 (fun z => by have := LIbs_no z; omega), g1 65 8 (fun z => by have := LIbs_no z; omega), g1 65 9 (fun z => by have := LIbs_no z; omega), g2 80 0 (fun z => by have := LJbs_no z; omega), g2 80 1 (fun z => by have := LJbs_no z; omega)]
      exact h3.2
  have hh := h A B (g1.le (fun o k z => by have := LIbs_no z; unfold LCI; omega)) (g2.le (fun o k z => by have := LJbs_no z; unfold LCJ; omega)) hC2
  rw [eq] at hh
  obtain ⟨⟨hX, hD, -⟩, -⟩ := hC2
  generalize bsA F = a at *
  obtain ⟨x, u, l⟩ := a
  dsimp only at g4 g5 g6 hh
  rw [g4, hD.2.1, i3_lt0 (by omega) (by omega), i3_lt (by omega) (by omega) (by omega) (by omega), i3_eq (by omega) (by omega) (by omega) (by omega), i3_eq (by omega) (by omega) (by omega) (by omega), i3_eq (by omega) (by omega) (by omega) (by omega), i3_t (by omega) (by omega)]
  refine ⟨fun q => ?_, fun q => ⟨fun q2 => ?_, fun q2 => by omega⟩⟩
  · rw [if_pos (by omega)] at hh; exact hh
  · rw [if_neg (by omega)] at hh
    obtain ⟨m, hm⟩ : ∃ m : Nat, x = m := ⟨x.toNat, by omega⟩
    subst hm
    obtain ⟨e1, e2⟩ := g5 (by omega)
    obtain ⟨d1, d2⟩ := hD.2.2 m (by omega)
    have i0 : 0 ≤ (m : Int) := by omega
    have i1 : (m : Int) < pl F (nC F) := by omega
    obtain ⟨p1, p2, p3⟩ := pe_s i0 i1
    have pb := ps_b i0 i1
    have sb := hW.1.s (pe F m)
    have n8 := hW.1.n.2.1
    rw [i3_in (by omega) (by omega), i3_n (by omega) (by omega), show ((m : Nat) : Int).toNat = m by omega, d1, d2, e1, e2, i3_64 (by omega) (by omega), i3_64 (by omega) (by omega)]
    refine ⟨fun y => ⟨by omega, ?_⟩, fun y => ⟨by omega, ?_⟩, fun y => ?_, fun y => ?_⟩
    · rw [if_pos y] at hh; exact hh
    · rw [if_neg (by omega), if_pos y] at hh; exact hh
    · rw [if_neg (by omega), if_neg (by omega), if_pos y] at hh; exact hh
    · rw [if_neg (by omega), if_neg (by omega), if_neg (by omega)] at hh; exact hh
end BestC
