/-! 82: two: the reference -/
/-- how many, one, other, above, below the line -/
abbrev T5 : Type := Int × Int × Int × Int × Int
noncomputable def twS (F : Nat → Int) (i j : Nat) (a : T5) : T5 := ic (firm (Wl F (ctT F i j)) (2 * fc F) (fullS (2 * fc F))) (ic (betr a.2.1 a.2.2.2 (wkU (Wl F (ctT F i j)) (2 * fc F)) (wkL (Wl F (ctT F i j)) (2 * fc F))) (a.1 + 1, (i : Int), (j : Int), wkU (Wl F (ctT F i j)) (2 * fc F), wkL (Wl F (ctT F i j)) (2 * fc F)) (a.1 + 1, a.2)) a
noncomputable def twI (F : Nat → Int) (i : Nat) (a : T5) : T5 := forN (twS F i) (i + 1) (pn F - (i + 1)) a
noncomputable def twA (F : Nat → Int) : T5 := forN (twI F) 0 (pn F) (0, -2, -2, -2, -2)
noncomputable def twoA (F : Nat → Int) (w : Int) : Int := if 0 ≤ w ∧ w ≤ 4 then (if w = 0 then (twA F).1 else if w = 1 then (twA F).2.1 else if w = 2 then (twA F).2.2.1 else if w = 3 then (twA F).2.2.2.1 else (twA F).2.2.2.2) else -9000000000000000000
section Two
variable {E : gj_E} {SI : gj_I} {SJ : gj_J} {F : Nat → Int}
def okT (a : T5) (m : Nat) : Prop := (0 ≤ a.1 ∧ a.1 ≤ m) ∧ ((a.2.1 = -2 ∧ a.2.2.1 = -2 ∧ a.2.2.2.1 = -2 ∧ a.2.2.2.2 = -2) ∨ ((0 ≤ a.2.1 ∧ a.2.1 < 100) ∧ (0 ≤ a.2.2.1 ∧ a.2.2.1 < 100) ∧ 0 < a.2.2.2.2 ∧ a.2.2.2.2 ≤ 1230000 ∧ 0 ≤ a.2.2.2.1 ∧ a.2.2.2.1 ≤ 110000000))
theorem sp_two {Q : Int64 → gj_I → gj_J → Prop} {a : Int32} (hR : RF F SI) (hW : Wp F) (hT : Wt F) (hE : ∀ (W : Nat → V3) (n : Nat), sidE W n) (w : Int) (wr : -2147483648 ≤ w ∧ w < 2147483648) (ha : a = i3 w) (h : ∀ SI' SJ', FI LRI SI SI' → FJ LRJ SJ SJ' → Q (i6 (twoA F w)) SI' SJ') : DoL E 264 [(.ref 81), (.int a)] SI SJ Q := by
  subst ha
  have fb := fc_b F
  have n14 : 2 * fc F ≤ 14 := by omega
  obtain ⟨pe1, pe2⟩ := pn_e hW
  refine st_264 _ SI SJ ?_
  rw [i3_64 (by omega) (by omega)]
  refine sp_in (by omega) (by omega) (by omega) (by omega) (by omega) (by omega) ⟨fun z => ?_, fun z => ?_⟩
  · rw [ib_0, Decidable.not_not] at z
    have e : twoA F w = (if w = 0 then (twA F).1 else if w = 1 then (twA F).2.1 else if w = 2 then (twA F).2.2.1 else if w = 3 then (twA F).2.2.2.1 else (twA F).2.2.2.2) := if_pos z
    rw [e] at h
    refine sp_placeMany hR hW.1 ?_
    rw [pe1]
    let HR : Nat → T5 → gj_I → gj_J → Prop := fun m a A B => FI LRI SI A ∧ FJ LRJ SJ B ∧ okT a m
    have inner : ∀ (i : Nat) (a : T5) (A : gj_I) (B : gj_J), i < pn F → HR (64 * i) a A B → (∀ A' B', HR (64 * (i + 1)) (twI F i a) A' B' → GoL E mt_264 44 [some (.ref 81), some (.int (i3 w)), some (.int (i3 (twI F i a).1)), some (.int (i3 (twI F i a).2.1)), some (.int (i3 (twI F i a).2.2.1)), some (.long (i6 (twI F i a).2.2.2.1)), none, some (.long (i6 (twI F i a).2.2.2.2)), none, some (.int (i3 (pn F : Nat))), some (.int (i3 ((i + 1 : Nat) : Int))), none] A' B' Q) → GoL E mt_264 57 [some (.ref 81), some (.int (i3 w)), some (.int (i3 a.1)), some (.int (i3 a.2.1)), some (.int (i3 a.2.2.1)), some (.long (i6 a.2.2.2.1)), none, some (.long (i6 a.2.2.2.2)), none, some (.int (i3 (pn F : Nat))), some (.int (i3 (i : Nat))), some (.int (i3 ((i + 1 : Nat) : Int)))] A B Q := by
      intro i a A B hi hH hc
      refine for_lp (f := twS F i) (n := pn F) (R := fun j a A B => HR (64 * i + (j - (i + 1))) a A B ∧ i < j) (G := fun j (a : T5) A B => GoL E mt_264 57 [some (.ref 81), some (.int (i3 w)), some (.int (i3 a.1)), some (.int (i3 a.2.1)), some (.int (i3 a.2.2.1)), some (.long (i6 a.2.2.2.1)), none, some (.long (i6 a.2.2.2.2)), none, some (.int (i3 (pn F : Nat))), some (.int (i3 (i : Nat))), some (.int (i3 (j : Nat)))] A B Q) ?_ (pn F - (i + 1)) (i + 1) a A B (by omega) ⟨by rw [Nat.sub_self]; exact hH, by omega⟩ ?_
      · rintro j a A B hj ⟨⟨g1, g2, g3⟩, hij⟩ ih
        have hRA := hR.f g1 LRI_82
        obtain ⟨m, x, y, u, l⟩ := a
        unfold okT at g3
        dsimp only at g3 ih ⊢
        have i0 : 0 ≤ (i : Int) := by omega
        have i1 : (i : Int) < pl F (nC F) := by omega
        have j0 : 0 ≤ (j : Int) := by omega
        have j1 : (j : Int) < pl F (nC F) := by omega
        obtain ⟨p1, p2, p3⟩ := pe_s i0 i1
        have pb := ps_b i0 i1
        have sb := hW.1.s (pe F i)
        obtain ⟨q1, q2, q3⟩ := pe_s j0 j1
        have qb := ps_b j0 j1
        have tb := hW.1.s (pe F j)
        have n8 := hW.1.n.2.1
        have epp : (i : Int) - pl F (pe F i) + 1 = ps F i := rfl
        have eqq : (j : Int) - pl F (pe F j) + 1 = ps F j := rfl
        refine lp_264_57 _ _ _ _ _ _ _ _ _ A B ⟨fun q => ?_, fun q => ?_⟩
        · rw [i3_le (by omega) (by omega) (by omega) (by omega)] at q; omega
        · have hRA0 : RF F (gj_u2 A 81 8 (i3 0)) := hRA.o (by decide)
          have g1a : FI LRI SI (gj_u2 A 81 8 (i3 0)) := g1.u (by unfold LRI; omega)
          refine sp_placeEdge hRA0 hW i (pe F i) p1 p2 p3 rfl (sp_placeStep hRA0 hW i (pe F i) p1 p2 p3 rfl ?_)
          rw [epp]
          have e0 : ctT F i j 0 = ctP F i := if_pos rfl
          have e1 : ctT F i j 1 = ctP F j := if_neg (by decide)
          have hL0 : LW (Wl F (ctT F i j)) (fun t => (fun t : Nat => (t : Int)) (t / fc F)) (0 * fc F) (gj_u2 A 81 8 (i3 0)) B := ⟨by rw [u2_s, Nat.zero_mul]; rfl, fun t ht => by rw [Nat.zero_mul] at ht; exact absurd ht (Nat.not_lt_zero t)⟩
          refine sp_comesFinger (ct := ctT F i j) (O := fun t : Nat => (t : Int)) hRA0 hW hT 0 (by rw [e0]; show pe F i < 900; omega) (by rw [e0]; show 0 ≤ ps F i ∧ ps F i ≤ 9; omega) (by omega) hL0 (by rw [e0]; rfl) (by rw [e0]; rfl) rfl (fun A1 B1 f1 f2 hL1 => ?_)
          have g1b := g1a.tr (LI1_R f1)
          have g2b := g2.tr (LJ1_R f2)
          have hR1 := hR.f g1b LRI_82
          refine sp_placeEdge hR1 hW j (pe F j) q1 q2 q3 rfl (sp_placeStep hR1 hW j (pe F j) q1 q2 q3 rfl ?_)
          rw [eqq]
          refine sp_comesFinger (ct := ctT F i j) (O := fun t : Nat => (t : Int)) hR1 hW hT 1 (by rw [e1]; show pe F j < 900; omega) (by rw [e1]; show 0 ≤ ps F j ∧ ps F j ≤ 9; omega) (by omega) hL1 (by rw [e1]; rfl) (by rw [e1]; rfl) rfl (fun A2 B2 f3 f4 hL2 => ?_)
          have g1c := g1b.tr (LI1_R f3)
          have g2c := g2b.tr (LJ1_R f4)
          have hB : Wb (Wl F (ctT F i j)) (2 * fc F) := Wl_b hW hT (fun t ht => by
            unfold ctT
            split
            · exact ctP_ok i0 i1
            · exact ctP_ok j0 j1)
          have hL2' : LW (Wl F (ctT F i j)) (fun t => (fun t : Nat => (t : Int)) (t / fc F)) (2 * fc F) A2 B2 := hL2
          clear hL2
          have hfb := fullS_b n14
          have hst : twS F i j (m, x, y, u, l) = ic (firm (Wl F (ctT F i j)) (2 * fc F) (fullS (2 * fc F))) (ic (betr x (u, l) (wkU (Wl F (ctT F i j)) (2 * fc F)) (wkL (Wl F (ctT F i j)) (2 * fc F))) (m + 1, (i : Int), (j : Int), wkU (Wl F (ctT F i j)) (2 * fc F), wkL (Wl F (ctT F i j)) (2 * fc F)) (m + 1, x, y, u, l)) (m, x, y, u, l) := rfl
          have sE := hE (Wl F (ctT F i j)) (2 * fc F)
          unfold sidE at sE
          rw [hst] at ih
          generalize hWW : Wl F (ctT F i j) = W at *
          generalize hnn : 2 * fc F = N at *
          rw [i3_add, i3_add]
          refine sp_all hL2'.1 n14 (sp_isFirm hL2' n14 hB (fullS N) (by omega) rfl (fun B3 f5 => ⟨fun yy => ?_, fun yy => ?_⟩))
          · rw [ibc_0, Classical.not_not] at yy
            have s0 := sE yy
            rw [ic_t yy] at ih
            refine sp_findsSides (hL2'.f f5) n14 hB (fun A4 B4 k1 k2 _ k3 k4 k5 => ?_)
            have F1 := g1c.tr (k1.le (fun o k z => by unfold LIS at z; unfold LRI; omega) : FI LRI A2 A4)
            have F2 := (g2c.tr (LPx_R f5)).tr (k2.le (fun o k z => by unfold LJq LJp LJS at z; unfold LRJ; omega) : FJ LRJ B3 B4)
            obtain ⟨-, -, t5, t6⟩ := (k3.2.2 s0).2.2
            have wb := wk_b k4 s0
            have eU : lox (sdA W N).2.2.2 (sz3 (sdA W N).2.2.1) = wkU W N := rfl
            have eL : loy (sdA W N).2.2.2 (sz3 (sdA W N).2.2.1) = wkL W N := rfl
            rw [eU, eL] at wb
            rw [eU] at t5
            rw [eL] at t6
            have m1 := mul_b (a := wkU W N) (b := l) (m := 110000000) (n := 1230000) (by omega) (by omega)
            have m2 := mul_b (a := u) (b := wkL W N) (m := 110000000) (n := 1230000) (by omega) (by omega)
            rw [t5, t6, i6_mul, i6_mul, i3_lt0 (by omega) (by omega), gt_iff_lt, i6_lt (by omega) (by omega) (by omega) (by omega)]
            have go : betr x (u, l) (wkU W N) (wkL W N) → GoL E mt_264 57 [some (.ref 81), some (.int (i3 w)), some (.int (i3 (m + 1))), some (.int (i3 (i : Int))), some (.int (i3 (j : Int))), some (.long (i6 (wkU W N))), none, some (.long (i6 (wkL W N))), none, some (.int (i3 (pn F : Nat))), some (.int (i3 (i : Nat))), some (.int (i3 ((j : Int) + 1)))] A4 B4 Q := by
              intro hb
              rw [ic_t hb] at ih
              refine ih A4 B4 ⟨⟨F1, F2, ?_⟩, by omega⟩
              unfold okT; dsimp only
              exact ⟨by omega, Or.inr (by omega)⟩
            have st : ¬ betr x (u, l) (wkU W N) (wkL W N) → GoL E mt_264 57 [some (.ref 81), some (.int (i3 w)), some (.int (i3 (m + 1))), some (.int (i3 x)), some (.int (i3 y)), some (.long (i6 u)), none, some (.long (i6 l)), none, some (.int (i3 (pn F : Nat))), some (.int (i3 (i : Nat))), some (.int (i3 ((j : Int) + 1)))] A4 B4 Q := by
              intro hb
              rw [ic_f hb] at ih
              refine ih A4 B4 ⟨⟨F1, F2, ?_⟩, by omega⟩
              unfold okT; dsimp only
              exact ⟨by omega, g3.2⟩
            refine ⟨fun d => go (Or.inl d), fun d => ⟨fun d2 => go (Or.inr d2), fun d2 => st (fun q3 => Or.elim q3 d d2)⟩⟩
          · rw [ibc_0] at yy
            rw [ic_f yy] at ih
            refine ih A2 B3 ⟨⟨g1c, g2c.tr (LPx_R f5), ?_⟩, by omega⟩
            unfold okT; dsimp only
            exact ⟨by omega, g3.2⟩
      · rintro A' B' ⟨⟨g1, g2, g3⟩, -⟩
        refine lp_264_57 _ _ _ _ _ _ _ _ _ A' B' ⟨fun _ => ?_, fun q => ?_⟩
        · rw [i3_add]
          refine hc A' B' ⟨g1, g2, ⟨?_, g3.2⟩⟩
          have g3' : 0 ≤ (twI F i a).1 ∧ (twI F i a).1 ≤ ((64 * i + (pn F - (i + 1)) : Nat) : Int) := g3.1
          exact ⟨g3'.1, by have := g3'.2; omega⟩
        · rw [i3_le (by omega) (by omega) (by omega) (by omega)] at q; omega
    refine for_lp (f := twI F) (n := pn F) (R := fun i a A B => HR (64 * i) a A B) (G := fun i (a : T5) A B => GoL E mt_264 44 [some (.ref 81), some (.int (i3 w)), some (.int (i3 a.1)), some (.int (i3 a.2.1)), some (.int (i3 a.2.2.1)), some (.long (i6 a.2.2.2.1)), none, some (.long (i6 a.2.2.2.2)), none, some (.int (i3 (pn F : Nat))), some (.int (i3 (i : Nat))), none] A B Q) ?_ (pn F) 0 (0, -2, -2, -2, -2) SI SJ (by omega) ⟨FI.rf, FJ.rf, ⟨⟨by decide, by decide⟩, Or.inl ⟨rfl, rfl, rfl, rfl⟩⟩⟩ ?_
    · intro i a A B hi hH ih
      refine lp_264_44 _ _ _ _ _ _ _ _ A B ⟨fun q => ?_, fun q => ?_⟩
      · rw [i3_le (by omega) (by omega) (by omega) (by omega)] at q; omega
      · rw [i3_add]
        exact inner i a A B hi hH ih
    · show ∀ A' B', HR (64 * pn F) (twA F) A' B' → GoL E mt_264 44 [some (.ref 81), some (.int (i3 w)), some (.int (i3 (twA F).1)), some (.int (i3 (twA F).2.1)), some (.int (i3 (twA F).2.2.1)), some (.long (i6 (twA F).2.2.2.1)), none, some (.long (i6 (twA F).2.2.2.2)), none, some (.int (i3 (pn F : Nat))), some (.int (i3 (pn F : Nat))), none] A' B' Q
      generalize twA F = a at *
      obtain ⟨m, x, y, u, l⟩ := a
      rintro A B ⟨g1, g2, g3⟩
      unfold okT at g3
      dsimp only at g3 h ⊢
      have hh := h A B g1 g2
      refine lp_264_44 _ _ _ _ _ _ _ _ A B ⟨fun _ => ?_, fun q => ?_⟩
      · rw [i3_eq0 (by omega) (by omega), i3_eq (by omega) (by omega) (by omega) (by omega), i3_eq (by omega) (by omega) (by omega) (by omega), i3_eq (by omega) (by omega) (by omega) (by omega), i3_64 (by omega) (by omega), i3_64 (by omega) (by omega), i3_64 (by omega) (by omega)]
        refine ⟨fun c => ⟨fun d => ⟨fun d2 => ⟨fun d3 => ?_, fun d3 => ?_⟩, fun d2 => ?_⟩, fun d => ?_⟩, fun c => ?_⟩
        · rw [if_neg c, if_neg d, if_neg d2, if_neg d3] at hh; exact hh
        · rw [if_neg c, if_neg d, if_neg d2, if_pos d3] at hh; exact hh
        · rw [if_neg c, if_neg d, if_pos d2] at hh; exact hh
        · rw [if_neg c, if_pos d] at hh; exact hh
        · rw [if_pos c] at hh; exact hh
      · rw [i3_le (by omega) (by omega) (by omega) (by omega)] at q; omega
  · rw [ib_0] at z
    have e : twoA F w = -9000000000000000000 := if_neg z
    rw [e] at h; exact h SI SJ FI.rf FJ.rf
end Two
