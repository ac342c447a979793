/-! 65: the reference's holds -/
noncomputable def hA1 (W : Nat → V3) (r : V3) (i : Nat) (b : Option Cd) : Option Cd := ic (ok1 W r i) (stepB b (cd1 W r i)) b
noncomputable def hA2 (W : Nat → V3) (r : V3) (i j : Nat) (b : Option Cd) : Option Cd := ic (ok2 W r i j) (stepB b (cd2 W r i j)) b
noncomputable def hA3 (W : Nat → V3) (r : V3) (i j k : Nat) (b : Option Cd) : Option Cd := ic (ok3 W r i j k) (stepB b (cd3 W r i j k)) b
noncomputable def hs1 (W : Nat → V3) (n : Nat) (r : V3) : Option Cd := forN (hA1 W r) 0 n none
noncomputable def hs2 (W : Nat → V3) (n : Nat) (r : V3) : Option Cd := forN (fun i b => forN (hA2 W r i) (i + 1) (n - (i + 1)) b) 0 n (hs1 W n r)
noncomputable def hs3 (W : Nat → V3) (n : Nat) (r : V3) : Option Cd := forN (fun i b => forN (fun j b => forN (hA3 W r i j) (j + 1) (n - (j + 1)) b) (i + 1) (n - (i + 1)) b) 0 n (hs2 W n r)
/-- the best set of wrenches that make r, if there is one -/
noncomputable def hdB (W : Nat → V3) (n : Nat) (r : V3) : Option Cd := if r = (0, 0, 0) then some (0, (0, 0, 0), (0, 0, 0), 1) else hs3 W n r
def LIh (o k : Nat) : Prop := o = 93 ∨ o = 94 ∨ (o = 81 ∧ k = 29)
def LJh (o k : Nat) : Prop := o = 92 ∨ o = 95 ∨ o = 96 ∨ (o = 81 ∧ (k = 9 ∨ k = 10 ∨ k = 11 ∨ k = 21 ∨ k = 22 ∨ k = 23 ∨ k = 24 ∨ k = 30 ∨ k = 31))
theorem ibc_sm {α : Type} {c : α} : ibc ((some c).isSome = true) = i3 1 := ibc_t rfl
theorem ibc_no {α : Type} : ibc ((none : Option α).isSome = true) = i3 0 := ibc_f (fun z => Bool.noConfusion z)
theorem stepB_w {b : Option Cd} {c : Cd} (hb : WB b) (hc : WC c) : WB (stepB b c) := by
  cases b with
  | none => exact hc
  | some d => unfold stepB; dsimp only; split
              · exact hc
              · exact hb
section Holds
variable {E : gj_E} {SI : gj_I} {SJ : gj_J} {W : Nat → V3} {O : Nat → Int} {n : Nat}
theorem sp_holds {Q : Int32 → gj_I → gj_J → Prop} {a1 a2 a3 : Int64} (hL : LW W O n SI SJ) (hn : n ≤ 14) (hB : Wb W n) (hZ : ∀ j, j < n → ¬ ((W j).1 = 0 ∧ (W j).2.1 = 0)) (f : V3) (hr : Rb f) (e1 : a1 = i6 f.1) (e2 : a2 = i6 f.2.1) (e3 : a3 = i6 f.2.2) (h : ∀ SI' SJ', FI LIh SI SI' → FJ LJh SJ SJ' → RB (hdB W n (neg3 f)) SI' SJ' → WB (hdB W n (neg3 f)) → Q (ibc ((hdB W n (neg3 f)).isSome = true)) SI' SJ') : DoI E 227 [(.ref 81), (.long a1), (.long a2), (.long a3)] SI SJ Q := by
  subst e1; subst e2; subst e3
  obtain ⟨b1, b2, b3⟩ := hr
  refine st_227 _ _ _ SI SJ ?_
  rw [i6_eq (by omega) (by omega) (by omega) (by omega), i6_eq (by omega) (by omega) (by omega) (by omega), i6_eq (by omega) (by omega) (by omega) (by omega), i6_neg, i6_neg, i6_neg]
  have hr2 : Rb (neg3 f) := by unfold Rb neg3; dsimp only; omega
  have fJ0 : FJ LJh SJ (gj_w2 (gj_w2 (gj_w2 SJ 81 21 (i6 (-f.1))) 81 22 (i6 (-f.2.1))) 81 23 (i6 (-f.2.2))) := ((FJ.rf.w (by unfold LJh; omega)).w (by unfold LJh; omega)).w (by unfold LJh; omega)
  have hP0 : RPv (neg3 f) (gj_w2 (gj_w2 (gj_w2 SJ 81 21 (i6 (-f.1))) 81 22 (i6 (-f.2.1))) 81 23 (i6 (-f.2.2))) := ⟨by rw [w2_n (by omega), w2_n (by omega), w2_s]; rfl, by rw [w2_n (by omega), w2_s]; rfl, by rw [w2_s]; rfl⟩
  have fI0 : FI LIh SI (gj_u2 SI 81 29 (i3 (-1))) := FI.rf.u (by unfold LIh; omega)
  have main : neg3 f ≠ (0, 0, 0) → GoI E mt_227 63 [some (.ref 81), none, none, none, none, none, none, some (.int (i3 0)), none, none] (gj_u2 SI 81 29 (i3 (-1))) (gj_w2 (gj_w2 (gj_w2 SJ 81 21 (i6 (-f.1))) 81 22 (i6 (-f.2.1))) 81 23 (i6 (-f.2.2))) Q := by
    intro hnz
    have ed : hdB W n (neg3 f) = hs3 W n (neg3 f) := if_neg hnz
    rw [ed] at h
    generalize neg3 f = r at *
    have LWf : ∀ A B, FI LIh SI A → FJ LJh SJ B → LW W O n A B := by
      intro A B fa fb
      refine ⟨by rw [fa 81 8 (by unfold LIh; omega)]; exact hL.1, fun j hj => ?_⟩
      obtain ⟨l1, l2, l3, l4⟩ := hL.2 j hj
      rw [fb 85 j (by unfold LJh; omega), fb 86 j (by unfold LJh; omega), fb 87 j (by unfold LJh; omega), fa 88 j (by unfold LIh; omega)]
      exact ⟨l1, l2, l3, l4⟩
    have sI : ∀ A B, FI LIo A B → FI LIh A B := fun A B z => z.le (fun o k y => by unfold LIo at y; unfold LIh; omega)
    have sJo : ∀ A B, FJ LJo A B → FJ LJh A B := fun A B z => z.le (fun o k y => by unfold LJo at y; unfold LJh; omega)
    have sJs : ∀ A B, FJ LJs A B → FJ LJh A B := fun A B z => z.le (fun o k y => by unfold LJs at y; unfold LJh; omega)
    have RBs : ∀ b A B A' B', (∀ k, A' 94 k = A 94 k) → A' 81 29 = A 81 29 → FJ LJs B B' → RB b A B → RB b A' B' := by
      intro b A B A' B' ea eb fb hb
      cases b with
      | none => show A' 81 29 = _; rw [eb]; exact hb
      | some c =>
        obtain ⟨d0, d1, d2, d3⟩ := hb
        refine ⟨by rw [eb]; exact d0, by rw [fb 81 30 (by unfold LJs; omega)]; exact d1, by rw [fb 81 31 (by unfold LJs; omega)]; exact d2, fun k hk => ?_⟩
        rw [ea, fb 95 k (by unfold LJs; omega), fb 96 k (by unfold LJs; omega)]
        exact d3 k hk
    -- what is true at each loop's head
    let HR : Option Cd → gj_I → gj_J → Prop := fun b A B => FI LIh SI A ∧ FJ LJh SJ B ∧ RPv r B ∧ RB b A B ∧ WB b
    have off : ∀ (p : Prop) (b : Option Cd) (c : Cd) (A : gj_I) (B : gj_J) (a : Int32) (K : gj_I → gj_J → Prop), 1 ≤ c.1 → a = i3 c.1 → HR b A B → (p → CH c A B ∧ WC c) → (∀ A' B', HR (ic p (stepB b c) b) A' B' → K A' B') → (ibc p = 0 → K A B) ∧ (¬ ibc p = 0 → DoV E 226 [(.ref 81), (.int a)] A B K) := by
      intro p b c A B a K hc ha hH hC hK
      obtain ⟨g1, g2, g3, g4, g5⟩ := hH
      refine ⟨fun z => ?_, fun z => ?_⟩
      · rw [ibc_0] at z
        rw [ic_f z] at hK
        exact hK A B ⟨g1, g2, g3, g4, g5⟩
      · rw [ibc_0, Classical.not_not] at z
        rw [ic_t z] at hK
        obtain ⟨c1, c2⟩ := hC z
        refine sp_offers b c c2 hc g5 c1 g4 ha (fun A' B' f1 f2 f3 => hK A' B' ⟨g1.tr (sI _ _ f1), g2.tr (sJo _ _ f2), g3.fs f2 (by unfold LJo; omega), f3, stepB_w g5 c2⟩)
    have hd3 : ∀ A B, HR (hs3 W n r) A B → GoI E mt_227 168 [some (.ref 81), none, none, none, none, none, none, some (.int (i3 n)), none, none] A B Q := by
      rintro A B ⟨g1, g2, g3, g4, g5⟩
      have hLA := LWf A B g1 g2
      refine lp_227_168 _ A B ⟨fun _ => ?_, fun z => ?_⟩
      · have := h A B g1 g2 g4 g5
        cases hb : hs3 W n r with
        | none =>
          rw [hb] at this g4
          rw [ibc_f (by decide)] at this
          have g4' : A 81 29 = i3 (-1) := g4
          rw [g4']
          exact ⟨fun _ => this, fun z => absurd (by decide) z⟩
        | some c =>
          rw [hb] at this g4 g5
          rw [ibc_t (show (some c).isSome = true from rfl)] at this
          have w1 : c.1 ≤ 3 := g5.1
          rw [g4.1, i3_lt0 (by omega) (by omega)]
          exact ⟨fun z => by omega, fun _ => this⟩
      · rw [hLA.1, i3_le (by omega) (by omega) (by omega) (by omega)] at z; omega
    have l3 : ∀ (i j : Nat) (b : Option Cd) (A : gj_I) (B : gj_J), i < n → j < n → HR b A B → (∀ A' B', HR (forN (hA3 W r i j) (j + 1) (n - (j + 1)) b) A' B' → GoI E mt_227 183 [some (.ref 81), none, none, none, none, none, none, some (.int (i3 i)), some (.int (i3 ((j + 1 : Nat) : Int))), none] A' B' Q) → GoI E mt_227 198 [some (.ref 81), none, none, none, none, none, none, some (.int (i3 i)), some (.int (i3 j)), some (.int (i3 ((j + 1 : Nat) : Int)))] A B Q := by
      intro i j b A B hi hj hH hc
      refine for_lp (f := hA3 W r i j) (n := n) (R := fun _ b A B => HR b A B) (G := fun k _ A B => GoI E mt_227 198 [some (.ref 81), none, none, none, none, none, none, some (.int (i3 i)), some (.int (i3 j)), some (.int (i3 (k : Nat)))] A B Q) ?_ (n - (j + 1)) (j + 1) b A B (by omega) hH ?_
      · rintro k b A B hk ⟨g1, g2, g3, g4, g5⟩ ih
        have hLA := LWf A B g1 g2
        refine lp_227_198 _ _ _ A B ⟨fun z => ?_, fun z => ?_⟩
        · rw [hLA.1, i3_le (by omega) (by omega) (by omega) (by omega)] at z; omega
        · rw [i3_add]
          have hLA2 : LW W O n (gj_u2 (gj_u2 (gj_u2 A 93 0 (i3 i)) 93 1 (i3 j)) 93 2 (i3 k)) B := LWf _ _ (((g1.u (by unfold LIh; omega)).u (by unfold LIh; omega)).u (by unfold LIh; omega)) g2
          refine sp_solvesThree hLA2 hn hB g3 hr2 i j k hi hj hk (by rw [u2_n (by omega), u2_n (by omega), u2_s]) (by rw [u2_n (by omega), u2_s]) u2_s (fun B' fs hC => ?_)
          refine off _ b (cd3 W r i j k) _ B' _ _ (by show 1 ≤ 3; decide) rfl ⟨((g1.u (by unfold LIh; omega)).u (by unfold LIh; omega)).u (by unfold LIh; omega), g2.tr (sJs _ _ fs), g3.fs fs (by unfold LJs; omega), RBs b A B _ B' (fun k => by rw [u2_n (by omega), u2_n (by omega), u2_n (by omega)]) (by rw [u2_n (by omega), u2_n (by omega), u2_n (by omega)]) fs g4, g5⟩ hC (fun A' B' hH' => ih A' B' hH')
      · intro A' B' hH'
        have hLA := LWf A' B' hH'.1 hH'.2.1
        refine lp_227_198 _ _ _ A' B' ⟨fun _ => ?_, fun z => ?_⟩
        · rw [i3_add]; exact hc A' B' hH'
        · rw [hLA.1, i3_le (by omega) (by omega) (by omega) (by omega)] at z; omega
    have l3b : ∀ (i : Nat) (b : Option Cd) (A : gj_I) (B : gj_J), i < n → HR b A B → (∀ A' B', HR (forN (fun j b => forN (hA3 W r i j) (j + 1) (n - (j + 1)) b) (i + 1) (n - (i + 1)) b) A' B' → GoI E mt_227 168 [some (.ref 81), none, none, none, none, none, none, some (.int (i3 ((i + 1 : Nat) : Int))), none, none] A' B' Q) → GoI E mt_227 183 [some (.ref 81), none, none, none, none, none, none, some (.int (i3 i)), some (.int (i3 ((i + 1 : Nat) : Int))), none] A B Q := by
      intro i b A B hi hH hc
      refine for_lp (f := fun j b => forN (hA3 W r i j) (j + 1) (n - (j + 1)) b) (n := n) (R := fun _ b A B => HR b A B) (G := fun j _ A B => GoI E mt_227 183 [some (.ref 81), none, none, none, none, none, none, some (.int (i3 i)), some (.int (i3 (j : Nat))), none] A B Q) ?_ (n - (i + 1)) (i + 1) b A B (by omega) hH ?_
      · intro j b A B hj hH ih
        have hLA := LWf A B hH.1 hH.2.1
        refine lp_227_183 _ _ A B ⟨fun z => ?_, fun z => ?_⟩
        · rw [hLA.1, i3_le (by omega) (by omega) (by omega) (by omega)] at z; omega
        · rw [i3_add]
          exact l3 i j b A B hi hj hH ih
      · intro A' B' hH'
        have hLA := LWf A' B' hH'.1 hH'.2.1
        refine lp_227_183 _ _ A' B' ⟨fun _ => ?_, fun z => ?_⟩
        · rw [i3_add]; exact hc A' B' hH'
        · rw [hLA.1, i3_le (by omega) (by omega) (by omega) (by omega)] at z; omega
    have l3c : ∀ A B, HR (hs2 W n r) A B → GoI E mt_227 168 [some (.ref 81), none, none, none, none, none, none, some (.int (i3 0)), none, none] A B Q := by
      intro A B hH
      refine for_lp (f := fun i b => forN (fun j b => forN (hA3 W r i j) (j + 1) (n - (j + 1)) b) (i + 1) (n - (i + 1)) b) (n := n) (R := fun _ b A B => HR b A B) (G := fun i _ A B => GoI E mt_227 168 [some (.ref 81), none, none, none, none, none, none, some (.int (i3 (i : Nat))), none, none] A B Q) ?_ n 0 (hs2 W n r) A B (by omega) hH (fun A' B' hH' => hd3 A' B' hH')
      intro i b A B hi hH ih
      have hLA := LWf A B hH.1 hH.2.1
      refine lp_227_168 _ A B ⟨fun z => ?_, fun z => ?_⟩
      · rw [hLA.1, i3_le (by omega) (by omega) (by omega) (by omega)] at z; omega
      · rw [i3_add]
        exact l3b i b A B hi hH ih
    have l2 : ∀ (i : Nat) (b : Option Cd) (A : gj_I) (B : gj_J), i < n → HR b A B → (∀ A' B', HR (forN (hA2 W r i) (i + 1) (n - (i + 1)) b) A' B' → GoI E mt_227 101 [some (.ref 81), none, none, none, none, none, none, some (.int (i3 ((i + 1 : Nat) : Int))), none, none] A' B' Q) → GoI E mt_227 116 [some (.ref 81), none, none, none, none, none, none, some (.int (i3 i)), some (.int (i3 ((i + 1 : Nat) : Int))), none] A B Q := by
      intro i b A B hi hH hc
      refine for_lp (f := hA2 W r i) (n := n) (R := fun _ b A B => HR b A B) (G := fun j _ A B => GoI E mt_227 116 [some (.ref 81), none, none, none, none, none, none, some (.int (i3 i)), some (.int (i3 (j : Nat))), none] A B Q) ?_ (n - (i + 1)) (i + 1) b A B (by omega) hH ?_
      · rintro j b A B hj ⟨g1, g2, g3, g4, g5⟩ ih
        have hLA := LWf A B g1 g2
        refine lp_227_116 _ _ A B ⟨fun z => ?_, fun z => ?_⟩
        · rw [hLA.1, i3_le (by omega) (by omega) (by omega) (by omega)] at z; omega
        · rw [i3_add]
          have hLA2 : LW W O n (gj_u2 (gj_u2 A 93 0 (i3 i)) 93 1 (i3 j)) B := LWf _ _ ((g1.u (by unfold LIh; omega)).u (by unfold LIh; omega)) g2
          refine sp_solvesTwo hLA2 hn hB g3 hr2 i j hi hj (by rw [u2_n (by omega), u2_s]) u2_s (fun B' fs hC => ?_)
          refine off _ b (cd2 W r i j) _ B' _ _ (by show 1 ≤ 2; decide) rfl ⟨(g1.u (by unfold LIh; omega)).u (by unfold LIh; omega), g2.tr (sJs _ _ fs), g3.fs fs (by unfold LJs; omega), RBs b A B _ B' (fun k => by rw [u2_n (by omega), u2_n (by omega)]) (by rw [u2_n (by omega), u2_n (by omega)]) fs g4, g5⟩ hC (fun A' B' hH' => ih A' B' hH')
      · intro A' B' hH'
        have hLA := LWf A' B' hH'.1 hH'.2.1
        refine lp_227_116 _ _ A' B' ⟨fun _ => ?_, fun z => ?_⟩
        · rw [i3_add]; exact hc A' B' hH'
        · rw [hLA.1, i3_le (by omega) (by omega) (by omega) (by omega)] at z; omega
    have l2c : ∀ A B, HR (hs1 W n r) A B → GoI E mt_227 101 [some (.ref 81), none, none, none, none, none, none, some (.int (i3 0)), none, none] A B Q := by
      intro A B hH
      refine for_lp (f := fun i b => forN (hA2 W r i) (i + 1) (n - (i + 1)) b) (n := n) (R := fun _ b A B => HR b A B) (G := fun i _ A B => GoI E mt_227 101 [some (.ref 81), none, none, none, none, none, none, some (.int (i3 (i : Nat))), none, none] A B Q) ?_ n 0 (hs1 W n r) A B (by omega) hH ?_
      · intro i b A B hi hH ih
        have hLA := LWf A B hH.1 hH.2.1
        refine lp_227_101 _ A B ⟨fun z => ?_, fun z => ?_⟩
        · rw [hLA.1, i3_le (by omega) (by omega) (by omega) (by omega)] at z; omega
        · rw [i3_add]
          exact l2 i b A B hi hH ih
      · intro A' B' hH'
        have hLA := LWf A' B' hH'.1 hH'.2.1
        refine lp_227_101 _ A' B' ⟨fun _ => l3c A' B' hH', fun z => ?_⟩
        rw [hLA.1, i3_le (by omega) (by omega) (by omega) (by omega)] at z; omega
    refine for_lp (f := hA1 W r) (n := n) (R := fun _ b A B => HR b A B) (G := fun i _ A B => GoI E mt_227 63 [some (.ref 81), none, none, none, none, none, none, some (.int (i3 (i : Nat))), none, none] A B Q) ?_ n 0 none _ _ (by omega) ⟨fI0, fJ0, hP0, u2_s, trivial⟩ ?_
    · rintro i b A B hi ⟨g1, g2, g3, g4, g5⟩ ih
      have hLA := LWf A B g1 g2
      refine lp_227_63 _ A B ⟨fun z => ?_, fun z => ?_⟩
      · rw [hLA.1, i3_le (by omega) (by omega) (by omega) (by omega)] at z; omega
      · rw [i3_add]
        have hLA2 : LW W O n (gj_u2 A 93 0 (i3 i)) B := LWf _ _ (g1.u (by unfold LIh; omega)) g2
        refine sp_solvesOne hLA2 hn hB hZ g3 hr2 i hi u2_s (fun B' fs hC => ?_)
        refine off _ b (cd1 W r i) _ B' _ _ (by show 1 ≤ 1; decide) rfl ⟨g1.u (by unfold LIh; omega), g2.tr (sJs _ _ fs), g3.fs fs (by unfold LJs; omega), RBs b A B _ B' (fun k => by rw [u2_n (by omega)]) (by rw [u2_n (by omega)]) fs g4, g5⟩ hC (fun A' B' hH' => ih A' B' hH')
    · intro A' B' hH'
      have hLA := LWf A' B' hH'.1 hH'.2.1
      refine lp_227_63 _ A' B' ⟨fun _ => l2c A' B' hH', fun z => ?_⟩
      rw [hLA.1, i3_le (by omega) (by omega) (by omega) (by omega)] at z; omega
  refine ⟨fun c => main (fun z => ?_), fun c => ⟨fun d => main (fun z => ?_), fun d => ⟨fun g => main (fun z => ?_), fun g => ?_⟩⟩⟩
  · have : -f.1 = 0 := congrArg (fun p => p.1) z
    omega
  · have : -f.2.1 = 0 := congrArg (fun p => p.2.1) z
    omega
  · have : -f.2.2 = 0 := congrArg (fun p => p.2.2) z
    omega
  · have ez : neg3 f = (0, 0, 0) := by unfold neg3; rw [c, d, g]; rfl
    have ed : hdB W n (neg3 f) = some (0, (0, 0, 0), (0, 0, 0), 1) := if_pos ez
    rw [ed] at h
    have := h (gj_u2 (gj_u2 SI 81 29 (i3 (-1))) 81 29 (i3 0)) (gj_w2 (gj_w2 (gj_w2 (gj_w2 (gj_w2 SJ 81 21 (i6 (-f.1))) 81 22 (i6 (-f.2.1))) 81 23 (i6 (-f.2.2))) 81 30 (i6 0)) 81 31 (i6 1)) (fI0.u (by unfold LIh; omega)) ((fJ0.w (by unfold LJh; omega)).w (by unfold LJh; omega)) ⟨u2_s, by rw [w2_n (by omega), w2_s]; rfl, by rw [w2_s]; rfl, fun k hk => absurd hk (Nat.not_lt_zero k)⟩ ⟨by decide, by decide, by decide, fun k hk => absurd hk (Nat.not_lt_zero k)⟩
    rw [ibc_sm] at this
    exact this
end Holds
