/-! 81: best, two: the reference -/
noncomputable def ctP (F : Nat → Int) (p : Int) : Nat × Int := (pe F p, ps F p)
noncomputable def ctB (F : Nat → Int) (p : Int) (i : Nat) : Nat × Int := if i < nf F then ctF F i else ctP F p
noncomputable def ctT (F : Nat → Int) (p q : Int) (i : Nat) : Nat × Int := if i = 0 then ctP F p else ctP F q
/-- weakest: above, below the line -/
noncomputable def wkU (W : Nat → V3) (n : Nat) : Int := lox (sdA W n).2.2.2 (sz3 (sdA W n).2.2.1)
noncomputable def wkL (W : Nat → V3) (n : Nat) : Int := loy (sdA W n).2.2.2 (sz3 (sdA W n).2.2.1)
def betr (x : Int) (a : Int × Int) (u l : Int) : Prop := x < 0 ∨ a.1 * l < u * a.2
noncomputable def bsS (F : Nat → Int) (i : Nat) (a : Int × Int × Int) : Int × Int × Int := ic (fgA F (pe F i) (ps F i) = -1 ∧ firm (Wl F (ctB F i)) ((nf F + 1) * fc F) (fullS ((nf F + 1) * fc F)) ∧ betr a.1 a.2 (wkU (Wl F (ctB F i)) ((nf F + 1) * fc F)) (wkL (Wl F (ctB F i)) ((nf F + 1) * fc F))) ((i : Int), wkU (Wl F (ctB F i)) ((nf F + 1) * fc F), wkL (Wl F (ctB F i)) ((nf F + 1) * fc F)) a
noncomputable def bsA (F : Nat → Int) : Int × Int × Int := forN (bsS F) 0 (pn F) (-1, 0, 1)
noncomputable def bestA (F : Nat → Int) (w : Int) : Int := if 0 ≤ w ∧ w ≤ 3 then (if (bsA F).1 = -1 then -2 else if w = 0 then (pe F (bsA F).1 : Int) else if w = 1 then ps F (bsA F).1 else if w = 2 then (bsA F).2.1 else (bsA F).2.2) else -9000000000000000000
section Best
variable {E : gj_E} {SI : gj_I} {SJ : gj_J} {F : Nat → Int} {W W' : Nat → V3} {O O' : Nat → Int} {n : Nat}
theorem LW.c (h : LW W O n SI SJ) (h1 : ∀ j, j < n → W j = W' j) (h2 : ∀ j, j < n → O j = O' j) : LW W' O' n SI SJ := ⟨h.1, fun j hj => by rw [← h1 j hj, ← h2 j hj]; exact h.2 j hj⟩
theorem ctP_ok {p : Int} (h0 : 0 ≤ p) (h1 : p < pl F (nC F)) : ctOk F (ctP F p) := by
  have a := pe_s h0 h1
  have b := ps_b h0 h1
  exact ⟨a.1, by show 0 ≤ ps F p; omega, by show ps F p ≤ ((stp F (pe F p) : Nat) : Int); omega⟩
theorem wk_b {s : Sds} (hw : WSd s) (h : 0 < s.1) : 0 < loy s.2.2.2 (sz3 s.2.2.1) ∧ loy s.2.2.2 (sz3 s.2.2.1) ≤ 1230000 ∧ 0 < lox s.2.2.2 (sz3 s.2.2.1) ∧ lox s.2.2.2 (sz3 s.2.2.1) ≤ 110000000 := by
  obtain ⟨kb, kz, k1, k2⟩ := hw.2 h
  have a := sz3_b kb
  have b := sz3_p kz
  have lp := lo_pos (u := s.2.2.2) b
  omega
theorem sp_best {Q : Int64 → gj_I → gj_J → Prop} {a : Int32} (hR : RF F SI) (hW : Wp F) (hT : Wt F) (hN : Wn F) (hG : Wg F) (hE : ∀ (W : Nat → V3) (n : Nat), sidE W n) (w : Int) (wr : -2147483648 ≤ w ∧ w < 2147483648) (ha : a = i3 w) (h : ∀ SI' SJ', FI LRI SI SI' → FJ LRJ SJ SJ' → Q (i6 (bestA F w)) SI' SJ') : DoL E 263 [(.ref 81), (.int a)] SI SJ Q := by
  subst ha
  have nb : nf F ≤ 6 := by have := hN.2.1; unfold nf; omega
  have fb := fc_b F
  have n14 : (nf F + 1) * fc F ≤ 14 := Nat.mul_le_mul (show nf F + 1 ≤ 7 by omega) fb.2
  obtain ⟨pe1, pe2⟩ := pn_e hW
  refine st_263 _ SI SJ ?_
  rw [i3_64 (by omega) (by omega)]
  refine sp_in (by omega) (by omega) (by omega) (by omega) (by omega) (by omega) ⟨fun z => ?_, fun z => ?_⟩
  · rw [ib_0, Decidable.not_not] at z
    have e : bestA F w = (if (bsA F).1 = -1 then -2 else if w = 0 then (pe F (bsA F).1 : Int) else if w = 1 then ps F (bsA F).1 else if w = 2 then (bsA F).2.1 else (bsA F).2.2) := if_pos z
    rw [e] at h
    refine for_lp (f := bsS F) (n := pn F) (R := fun i (a : Int × Int × Int) A B => FI LRI SI A ∧ FJ LRJ SJ B ∧ (a.1 = -1 ∨ (0 ≤ a.1 ∧ a.1 < i)) ∧ (0 < a.2.2 ∧ a.2.2 ≤ 1230000 ∧ 0 ≤ a.2.1 ∧ a.2.1 ≤ 110000000)) (G := fun i (a : Int × Int × Int) A B => GoL E mt_263 26 [some (.ref 81), some (.int (i3 w)), some (.int (i3 a.1)), some (.long (i6 a.2.1)), none, some (.long (i6 a.2.2)), none, some (.int (i3 (i : Nat)))] A B Q) ?_ (pn F) 0 (-1, 0, 1) SI SJ (by omega) ⟨FI.rf, FJ.rf, Or.inl rfl, by decide, by decide, by decide, by decide⟩ ?_
    · rintro i a A B hi ⟨g1, g2, g3, g4⟩ ih
      have hRA := hR.f g1 LRI_82
      obtain ⟨x, u, l⟩ := a
      dsimp only at g3 g4 ih ⊢
      have i0 : 0 ≤ (i : Int) := by omega
      have i1 : (i : Int) < pl F (nC F) := by omega
      obtain ⟨p1, p2, p3⟩ := pe_s i0 i1
      have pb := ps_b i0 i1
      have sb := hW.1.s (pe F i)
      have n8 := hW.1.n.2.1
      have epp : (i : Int) - pl F (pe F i) + 1 = ps F i := rfl
      have fgb := fgA_b hG (pe F i) (ps F i)
      have stay : ∀ A' B', FI LRI SI A' → FJ LRJ SJ B' → bsS F i (x, u, l) = (x, u, l) → GoL E mt_263 26 [some (.ref 81), some (.int (i3 w)), some (.int (i3 x)), some (.long (i6 u)), none, some (.long (i6 l)), none, some (.int (i3 ((i : Int) + 1)))] A' B' Q := by
        intro A' B' f1 f2 eq
        rw [eq] at ih
        exact ih A' B' ⟨f1, f2, by dsimp only; omega, g4⟩
      refine lp_263_26 _ _ _ _ _ A B (sp_placeMany hRA hW.1 ⟨fun q => ?_, fun q => ?_⟩)
      · rw [i3_le (by omega) (by omega) (by omega) (by omega)] at q; omega
      · refine sp_placeEdge hRA hW i (pe F i) p1 p2 p3 rfl (sp_placeStep hRA hW i (pe F i) p1 p2 p3 rfl ?_)
        rw [epp, i3_add]
        refine sp_fingerAt hRA hG (pe F i) (ps F i) (fgA F (pe F i) (ps F i)) (by omega) (by omega) rfl rfl (fgA_I F _ _) ?_
        rw [i3_eq (b := -1) (by omega) (by omega) (by omega) (by omega)]
        refine ⟨fun c => ?_, fun c => stay A B g1 g2 (ic_f (fun y => c y.1))⟩
        refine sp_lays hRA hW hT hN (fun A1 B1 f1 f2 hL1 => ?_)
        have g1' := g1.tr (LI1_R f1)
        have g2' := g2.tr (LJ1_R f2)
        have hR1 := hR.f g1' LRI_82
        refine sp_placeEdge hR1 hW i (pe F i) p1 p2 p3 rfl (sp_placeStep hR1 hW i (pe F i) p1 p2 p3 rfl ?_)
        rw [epp]
        have hL2 : LW (Wl F (ctB F i)) (fun j => (fun t : Nat => if t < nf F then (t : Int) else 6) (j / fc F)) (nf F * fc F) A1 B1 := by
          refine hL1.c (fun j hj => ?_) (fun j hj => ?_)
          · refine Wl_ct (fun t ht => ?_) j hj
            unfold ctB; rw [if_pos ht]
          · have : j / fc F < nf F := (Nat.div_lt_iff_lt_mul (by omega)).mpr hj
            dsimp only; rw [if_pos this]
        have eb : ctB F i (nf F) = ctP F i := if_neg (Nat.lt_irrefl _)
        refine sp_comesFinger (ct := ctB F i) (O := fun t : Nat => if t < nf F then (t : Int) else 6) hR1 hW hT (nf F) (by rw [eb]; show pe F i < 900; omega) (by rw [eb]; show 0 ≤ ps F i ∧ ps F i ≤ 9; omega) (by omega) hL2 (by rw [eb]; rfl) (by rw [eb]; rfl) (by rw [if_neg (Nat.lt_irrefl _)]) (fun A2 B2 f3 f4 hL3 => ?_)
        have hB : Wb (Wl F (ctB F i)) ((nf F + 1) * fc F) := Wl_b hW hT (fun t ht => by
          unfold ctB
          split
          · rename_i q; exact hN.ok hW.1 t q
          · exact ctP_ok i0 i1)
        have g1'' := g1'.tr (LI1_R f3)
        have g2'' := g2'.tr (LJ1_R f4)
        have hfb := fullS_b n14
        have hbs : bsS F i (x, u, l) = ic (fgA F (pe F i) (ps F i) = -1 ∧ firm (Wl F (ctB F i)) ((nf F + 1) * fc F) (fullS ((nf F + 1) * fc F)) ∧ betr x (u, l) (wkU (Wl F (ctB F i)) ((nf F + 1) * fc F)) (wkL (Wl F (ctB F i)) ((nf F + 1) * fc F))) ((i : Int), wkU (Wl F (ctB F i)) ((nf F + 1) * fc F), wkL (Wl F (ctB F i)) ((nf F + 1) * fc F)) (x, u, l) := rfl
        have sE := hE (Wl F (ctB F i)) ((nf F + 1) * fc F)
        unfold sidE at sE
        generalize hWW : Wl F (ctB F i) = W at *
        generalize hnn : (nf F + 1) * fc F = N at *
        refine sp_all hL3.1 n14 (sp_isFirm hL3 n14 hB (fullS N) (by omega) rfl (fun B3 f5 => ⟨fun y => ?_, fun y => ?_⟩))
        · rw [ibc_0, Classical.not_not] at y
          have s0 := sE y
          refine sp_findsSides (hL3.f f5) n14 hB (fun A4 B4 k1 k2 _ k3 k4 k5 => ?_)
          have F1 := g1''.tr (k1.le (fun o k z => by unfold LIS at z; unfold LRI; omega) : FI LRI A2 A4)
          have F2 := (g2''.tr (LPx_R f5)).tr (k2.le (fun o k z => by unfold LJq LJp LJS at z; unfold LRJ; omega) : FJ LRJ B3 B4)
          obtain ⟨-, -, t5, t6⟩ := (k3.2.2 s0).2.2
          have wb := wk_b k4 s0
          have eU : lox (sdA W N).2.2.2 (sz3 (sdA W N).2.2.1) = wkU W N := rfl
          have eL : loy (sdA W N).2.2.2 (sz3 (sdA W N).2.2.1) = wkL W N := rfl
          rw [eU, eL] at wb
          rw [eU] at t5
          rw [eL] at t6
          rw [t5, t6, i6_mul, i6_mul, i3_eq (b := -1) (by omega) (by omega) (by omega) (by omega)]
          have m1 := mul_b (a := wkU W N) (b := l) (m := 110000000) (n := 1230000) (by omega) (by omega)
          have m2 := mul_b (a := u) (b := wkL W N) (m := 110000000) (n := 1230000) (by omega) (by omega)
          rw [gt_iff_lt, i6_lt (by omega) (by omega) (by omega) (by omega)]
          have go : betr x (u, l) (wkU W N) (wkL W N) → GoL E mt_263 26 [some (.ref 81), some (.int (i3 w)), some (.int (i3 (i : Int))), some (.long (i6 (wkU W N))), none, some (.long (i6 (wkL W N))), none, some (.int (i3 ((i : Int) + 1)))] A4 B4 Q := by
            intro hb
            have eq : bsS F i (x, u, l) = ((i : Int), wkU W N, wkL W N) := by rw [hbs]; exact ic_t ⟨c, y, hb⟩
            rw [eq] at ih
            exact ih A4 B4 ⟨F1, F2, by dsimp only; omega, by dsimp only; omega⟩
          refine ⟨fun d => go (Or.inl (by omega)), fun d => ⟨fun d2 => go (Or.inr d2), fun d2 => stay A4 B4 F1 F2 (by rw [hbs]; refine ic_f (fun y2 => ?_); rcases y2.2.2 with q3 | q3; omega; exact d2 q3)⟩⟩
        · rw [ibc_0] at y
          exact stay A2 B3 g1'' (g2''.tr (LPx_R f5)) (by rw [hbs]; exact ic_f (fun y2 => y y2.2.1))
    · show ∀ A' B', (FI LRI SI A' ∧ FJ LRJ SJ B' ∧ ((bsA F).1 = -1 ∨ (0 ≤ (bsA F).1 ∧ (bsA F).1 < (pn F : Nat))) ∧ (0 < (bsA F).2.2 ∧ (bsA F).2.2 ≤ 1230000 ∧ 0 ≤ (bsA F).2.1 ∧ (bsA F).2.1 ≤ 110000000)) → GoL E mt_263 26 [some (.ref 81), some (.int (i3 w)), some (.int (i3 (bsA F).1)), some (.long (i6 (bsA F).2.1)), none, some (.long (i6 (bsA F).2.2)), none, some (.int (i3 (pn F : Nat)))] A' B' Q
      generalize bsA F = a at *
      obtain ⟨x, u, l⟩ := a
      rintro A B ⟨g1, g2, g3, g4⟩
      dsimp only at g3 g4 h ⊢
      have hRA := hR.f g1 LRI_82
      have hh := h A B g1 g2
      refine lp_263_26 _ _ _ _ _ A B (sp_placeMany hRA hW.1 ⟨fun _ => ?_, fun q => ?_⟩)
      · rw [i3_eq (b := -1) (by omega) (by omega) (by omega) (by omega), i3_eq0 (by omega) (by omega), i3_eq (by omega) (by omega) (by omega) (by omega), i3_eq (by omega) (by omega) (by omega) (by omega)]
        refine ⟨fun c => ?_, fun c => ?_⟩
        · rw [if_neg c] at hh
          obtain ⟨p1, p2, p3⟩ := pe_s (F := F) (i := x) (by omega) (by omega)
          have pb := ps_b (F := F) (i := x) (by omega) (by omega)
          have sb := hW.1.s (pe F x)
          have n8 := hW.1.n.2.1
          have epp : x - pl F (pe F x) + 1 = ps F x := rfl
          refine ⟨fun d => ⟨fun d2 => ⟨fun d3 => ?_, fun d3 => ?_⟩, fun d2 => sp_placeStep hRA hW x (pe F x) p1 p2 p3 rfl ?_⟩, fun d => sp_placeEdge hRA hW x (pe F x) p1 p2 p3 rfl ?_⟩
          · rw [if_neg d, if_neg d2, if_neg d3] at hh; exact hh
          · rw [if_neg d, if_neg d2, if_pos d3] at hh; exact hh
          · rw [if_neg d, if_pos d2] at hh
            rw [epp, i3_64 (by omega) (by omega)]; exact hh
          · rw [if_pos d] at hh
            rw [i3_64 (by omega) (by omega)]; exact hh
        · rw [if_pos c] at hh; exact hh
      · rw [pe1, i3_le (by omega) (by omega) (by omega) (by omega)] at q; omega
  · rw [ib_0] at z
    have e : bestA F w = -9000000000000000000 := if_neg z
    rw [e] at h; exact h SI SJ FI.rf FJ.rf
end Best
