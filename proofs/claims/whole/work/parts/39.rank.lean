/-! 39: rankOf, isFirm, isFirmNow of the reference -/
section Rank
variable {E : gj_E} {SI : gj_I} {SJ : gj_J} {F : Nat → Int} {W : Nat → V3} {O : Nat → Int} {n : Nat}
/-- pairs seen: those with i' < i, and with i' = i and j' < j -/
def seenP (i j a b : Nat) : Prop := a < i ∨ (a = i ∧ b < j)
theorem sp_rankOf {Q : Int32 → gj_I → gj_J → Prop} {a : Int32} (hL : LW W O n SI SJ) (hn : n ≤ 14) (hB : Wb W n) (s : Nat) (hs : s < 2147483648) (ha : a = i3 s) (h : ∀ r SJ', FJ LPx SJ SJ' → rkI W n s r → 0 ≤ r ∧ r ≤ 3 → Q (i3 r) SI SJ') : DoI E 193 [(.ref 81), (.int a)] SI SJ Q := by
  subst ha
  refine st_193 _ SI SJ ?_
  have nz : ∀ i j, i < n → j < n → Pb (crs (W i) (W j)) := fun i j hi hj => crs_b hB hi hj
  -- the third loop: k
  have l3 : ∀ (i j : Nat) (r : Int), i < j → inS s n i → inS s n j → crs (W i) (W j) ≠ (0, 0, 0) → (r = 2) →
      (∀ B, FJ LPx SJ B → (∀ k, inS s n k → dot (crs (W i) (W j)) (W k) = 0) → GoI E mt_193 34 [some (.ref 81), some (.int (i3 s)), some (.int (i3 2)), some (.int (i3 i)), some (.int (i3 ((j + 1 : Nat) : Int))), none] SI B Q) →
      ∀ (d k : Nat) (B : gj_J), k + d = n → FJ LPx SJ B → PS (crs (W i) (W j)) B → (∀ k', k' < k → inS s n k' → dot (crs (W i) (W j)) (W k') = 0) → GoI E mt_193 81 [some (.ref 81), some (.int (i3 s)), some (.int (i3 r)), some (.int (i3 i)), some (.int (i3 j)), some (.int (i3 k))] SI B Q := by
    intro i j r hij hi hj hnz hr cont d
    subst hr
    induction d with
    | zero =>
      intro k B hk f1 hP hz
      have hL2 := hL.f f1
      refine lp_193_81 _ _ _ _ _ SI B ⟨fun _ => ?_, fun c => ?_⟩
      · rw [i3_add, show (j : Int) + 1 = ((j + 1 : Nat) : Int) by omega]
        exact cont B f1 (fun k' h' => hz k' (by have := h'.1; omega) h')
      · rw [hL.1, i3_le (by omega) (by omega) (by omega) (by omega)] at c; omega
    | succ d ih =>
      intro k B hk f1 hP hz
      have hL2 := hL.f f1
      have hd := dot_b hB (k := k) (by omega) (nz i j hi.1 hj.1)
      refine lp_193_81 _ _ _ _ _ SI B ⟨fun c => ?_, fun c => ?_⟩
      · rw [hL.1, i3_le (by omega) (by omega) (by omega) (by omega)] at c; omega
      · rw [i3_add, show (k : Int) + 1 = ((k + 1 : Nat) : Int) by omega]
        refine sp_has hs (by omega) ?_
        rw [ib_0]
        refine ⟨fun q => ?_, fun q => ?_⟩
        · refine ih (k + 1) B (by omega) f1 hP (fun k' h1 h2 => ?_)
          rcases Nat.lt_or_ge k' k with z | z
          · exact hz k' z h2
          · have : k' = k := by omega
            subst this; exact absurd h2.2 q
        · rw [Decidable.not_not] at q
          refine sp_makes hL2 (by omega) hP k (by omega) rfl ?_
          rw [i6_eq (by omega) (by omega) (by omega) (by omega)]
          refine ⟨fun q2 => ?_, fun q2 => ?_⟩
          · refine ih (k + 1) B (by omega) f1 hP (fun k' h1 h2 => ?_)
            rcases Nat.lt_or_ge k' k with z | z
            · exact hz k' z h2
            · have : k' = k := by omega
              subst this; exact q2
          · exact h 3 B f1 (Or.inl ⟨rfl, i, j, k, hij, hi, hj, ⟨by omega, q⟩, hnz, q2⟩) (by omega)
  -- what is known behind the pairs seen
  have l2 : ∀ (i : Nat), inS s n i →
      (∀ (r : Int) B, FJ LPx SJ B → (∀ a b k, seenP (i + 1) 0 a b → a < b → inS s n a → inS s n b → inS s n k → crs (W a) (W b) ≠ (0, 0, 0) → dot (crs (W a) (W b)) (W k) = 0) → ((r = 2 ∧ ∃ a b, seenP (i + 1) 0 a b ∧ a < b ∧ inS s n a ∧ inS s n b ∧ crs (W a) (W b) ≠ (0, 0, 0)) ∨ (r = 1 ∧ ∀ a b, seenP (i + 1) 0 a b → a < b → inS s n a → inS s n b → crs (W a) (W b) = (0, 0, 0))) → GoI E mt_193 4 [some (.ref 81), some (.int (i3 s)), some (.int (i3 r)), some (.int (i3 ((i + 1 : Nat) : Int))), none, none] SI B Q) →
      ∀ (d j : Nat) (r : Int) (B : gj_J), j + d = n → i < j → FJ LPx SJ B → (∀ a b k, seenP i j a b → a < b → inS s n a → inS s n b → inS s n k → crs (W a) (W b) ≠ (0, 0, 0) → dot (crs (W a) (W b)) (W k) = 0) → ((r = 2 ∧ ∃ a b, seenP i j a b ∧ a < b ∧ inS s n a ∧ inS s n b ∧ crs (W a) (W b) ≠ (0, 0, 0)) ∨ (r = 1 ∧ ∀ a b, seenP i j a b → a < b → inS s n a → inS s n b → crs (W a) (W b) = (0, 0, 0))) → GoI E mt_193 34 [some (.ref 81), some (.int (i3 s)), some (.int (i3 r)), some (.int (i3 i)), some (.int (i3 j)), none] SI B Q := by
    intro i hi cont d
    induction d with
    | zero =>
      intro j r B hj hij f1 g1 g2
      have hr : r = 2 ∨ r = 1 := by rcases g2 with g | g <;> simp [g.1]
      refine lp_193_34 _ _ _ _ SI B ⟨fun _ => ?_, fun c => ?_⟩
      · rw [i3_add, show (i : Int) + 1 = ((i + 1 : Nat) : Int) by omega]
        have up : ∀ a b, seenP (i + 1) 0 a b → inS s n b → seenP i j a b := by
          intro a b z hb
          have := hb.1
          unfold seenP at z ⊢; omega
        have dn : ∀ a b, seenP i j a b → seenP (i + 1) 0 a b := by
          intro a b z; unfold seenP at z ⊢; omega
        refine cont r B f1 (fun a b k z h1 h2 h3 h4 h5 => g1 a b k (up a b z h3) h1 h2 h3 h4 h5) ?_
        rcases g2 with ⟨e, a, b, z, h1, h2, h3, h4⟩ | ⟨e, g⟩
        · exact Or.inl ⟨e, a, b, dn a b z, h1, h2, h3, h4⟩
        · exact Or.inr ⟨e, fun a b z h1 h2 h3 => g a b (up a b z h3) h1 h2 h3⟩
      · rw [hL.1, i3_le (by omega) (by omega) (by omega) (by omega)] at c; omega
    | succ d ih =>
      intro j r B hj hij f1 g1 g2
      have hr : r = 2 ∨ r = 1 := by rcases g2 with g | g <;> simp [g.1]
      have hL2 := hL.f f1
      have st : ∀ a b, seenP i (j + 1) a b → seenP i j a b ∨ (a = i ∧ b = j) := by
        intro a b z; unfold seenP at z ⊢; omega
      have st2 : ∀ a b, seenP i j a b → seenP i (j + 1) a b := by
        intro a b z; unfold seenP at z ⊢; omega
      refine lp_193_34 _ _ _ _ SI B ⟨fun c => ?_, fun c => ?_⟩
      · rw [hL.1, i3_le (by omega) (by omega) (by omega) (by omega)] at c; omega
      · rw [i3_add, show (j : Int) + 1 = ((j + 1 : Nat) : Int) by omega]
        refine sp_has hs (by omega) ?_
        rw [ib_0]
        refine ⟨fun q => ?_, fun q => ?_⟩
        · rw [Decidable.not_not] at q
          have hjS : inS s n j := ⟨by omega, q⟩
          refine sp_crosses hL2 (by omega) i j hi.1 (by omega) rfl rfl (fun B2 f2 hP => ?_)
          have f3 := f1.tr f2
          refine sp_isNothing hP (nz i j hi.1 (by omega)) ?_
          rw [ibc_0]
          refine ⟨fun q2 => ?_, fun q2 => ?_⟩
          · refine sp_max (by omega) (by omega) (by omega) (by omega) ?_
            rw [show max r 2 = 2 by omega]
            refine l3 i j 2 hij hi hjS q2 rfl (fun B3 f4 hz => ?_) n 0 B2 (by omega) f3 hP (fun k' hk' => by omega)
            refine ih (j + 1) 2 B3 (by omega) (by omega) f4 (fun a b k z h1 h2 h3 h4 h5 => ?_) (Or.inl ⟨rfl, i, j, by unfold seenP; omega, hij, hi, hjS, q2⟩)
            rcases st a b z with y | ⟨rfl, rfl⟩
            · exact g1 a b k y h1 h2 h3 h4 h5
            · exact hz k h4
          · rw [Classical.not_not] at q2
            refine ih (j + 1) r B2 (by omega) (by omega) f3 (fun a b k z h1 h2 h3 h4 h5 => ?_) ?_
            · rcases st a b z with y | ⟨rfl, rfl⟩
              · exact g1 a b k y h1 h2 h3 h4 h5
              · exact absurd q2 h5
            · rcases g2 with ⟨e, a, b, z, h1, h2, h3, h4⟩ | ⟨e, g⟩
              · exact Or.inl ⟨e, a, b, st2 a b z, h1, h2, h3, h4⟩
              · refine Or.inr ⟨e, fun a b z h1 h2 h3 => ?_⟩
                rcases st a b z with y | ⟨rfl, rfl⟩
                · exact g a b y h1 h2 h3
                · exact q2
        · refine ih (j + 1) r B (by omega) (by omega) f1 (fun a b k z h1 h2 h3 h4 h5 => ?_) ?_
          · rcases st a b z with y | ⟨rfl, rfl⟩
            · exact g1 a b k y h1 h2 h3 h4 h5
            · exact absurd h3.2 q
          · rcases g2 with ⟨e, a, b, z, h1, h2, h3, h4⟩ | ⟨e, g⟩
            · exact Or.inl ⟨e, a, b, st2 a b z, h1, h2, h3, h4⟩
            · refine Or.inr ⟨e, fun a b z h1 h2 h3 => ?_⟩
              rcases st a b z with y | ⟨rfl, rfl⟩
              · exact g a b y h1 h2 h3
              · exact absurd h3.2 q
  have l1 : ∀ (d i : Nat) (r : Int) (B : gj_J), i + d = n → FJ LPx SJ B → (∀ a b k, seenP i 0 a b → a < b → inS s n a → inS s n b → inS s n k → crs (W a) (W b) ≠ (0, 0, 0) → dot (crs (W a) (W b)) (W k) = 0) → ((r = 2 ∧ ∃ a b, seenP i 0 a b ∧ a < b ∧ inS s n a ∧ inS s n b ∧ crs (W a) (W b) ≠ (0, 0, 0)) ∨ (r = 1 ∧ (∃ a, a < i ∧ inS s n a) ∧ ∀ a b, seenP i 0 a b → a < b → inS s n a → inS s n b → crs (W a) (W b) = (0, 0, 0)) ∨ (r = 0 ∧ ∀ a, a < i → ¬ inS s n a)) → GoI E mt_193 4 [some (.ref 81), some (.int (i3 s)), some (.int (i3 r)), some (.int (i3 i)), none, none] SI B Q := by
    intro d
    induction d with
    | zero =>
      intro i r B hi f1 g1 g2
      have al : ∀ a b, inS s n a → seenP i 0 a b := by
        intro a b z; have := z.1; unfold seenP; omega
      refine lp_193_4 _ _ _ SI B ⟨fun _ => ?_, fun c => ?_⟩
      · have n3 : ¬ R3 W n s := by
          rintro ⟨a, b, k, h1, h2, h3, h4, h5, h6⟩
          exact h6 (g1 a b k (al a b h2) h1 h2 h3 h4 h5)
        rcases g2 with ⟨rfl, a, b, z, h1, h2, h3, h4⟩ | ⟨rfl, ⟨a, h1, h2⟩, g⟩ | ⟨rfl, g⟩
        · exact h 2 B f1 (Or.inr ⟨n3, Or.inl ⟨rfl, a, b, h1, h2, h3, h4⟩⟩) (by omega)
        · refine h 1 B f1 (Or.inr ⟨n3, Or.inr ⟨?_, Or.inl ⟨rfl, a, h2⟩⟩⟩) (by omega)
          rintro ⟨a, b, y1, y2, y3, y4⟩
          exact y4 (g a b (al a b y2) y1 y2 y3)
        · have n1 : ¬ R1 n s := by
            rintro ⟨a, ha⟩
            exact g a (by have := ha.1; omega) ha
          refine h 0 B f1 (Or.inr ⟨n3, Or.inr ⟨?_, Or.inr ⟨rfl, n1⟩⟩⟩) (by omega)
          rintro ⟨a, b, y1, y2, y3, y4⟩
          exact n1 ⟨a, y2⟩
      · rw [hL.1, i3_le (by omega) (by omega) (by omega) (by omega)] at c; omega
    | succ d ih =>
      intro i r B hi f1 g1 g2
      have hr : r = 2 ∨ r = 1 ∨ r = 0 := by rcases g2 with g | g | g <;> simp [g.1]
      refine lp_193_4 _ _ _ SI B ⟨fun c => ?_, fun c => ?_⟩
      · rw [hL.1, i3_le (by omega) (by omega) (by omega) (by omega)] at c; omega
      · rw [i3_add, show (i : Int) + 1 = ((i + 1 : Nat) : Int) by omega]
        refine sp_has hs (by omega) ?_
        rw [ib_0]
        refine ⟨fun q => ?_, fun q => ?_⟩
        · rw [Decidable.not_not] at q
          have hiS : inS s n i := ⟨by omega, q⟩
          refine sp_max (by omega) (by omega) (by omega) (by omega) ?_
          have s0 : ∀ a b, seenP i (i + 1) a b → a < b → seenP i 0 a b := by
            intro a b z hab; unfold seenP at z ⊢; omega
          have s1 : ∀ a b, seenP i 0 a b → seenP i (i + 1) a b := by
            intro a b z; unfold seenP at z ⊢; omega
          refine l2 i hiS (fun r' B' f' k1 k2 => ?_) (n - (i + 1)) (i + 1) (max r 1) B (by omega) (by omega) f1 (fun a b k z h1 h2 h3 h4 h5 => g1 a b k (s0 a b z h1) h1 h2 h3 h4 h5) ?_
          · refine ih (i + 1) r' B' (by omega) f' k1 ?_
            rcases k2 with ⟨e, k⟩ | ⟨e, k⟩
            · exact Or.inl ⟨e, k⟩
            · exact Or.inr (Or.inl ⟨e, ⟨i, by omega, hiS⟩, k⟩)
          · rcases g2 with ⟨e, a, b, z, h1, h2, h3, h4⟩ | ⟨e, -, g⟩ | ⟨e, g⟩
            · exact Or.inl ⟨by omega, a, b, s1 a b z, h1, h2, h3, h4⟩
            · exact Or.inr ⟨by omega, fun a b z h1 h2 h3 => g a b (s0 a b z h1) h1 h2 h3⟩
            · refine Or.inr ⟨by omega, fun a b z h1 h2 h3 => ?_⟩
              have := s0 a b z h1
              unfold seenP at this
              exact absurd h2 (g a (by omega))
        · have st : ∀ a b, seenP (i + 1) 0 a b → inS s n a → seenP i 0 a b := by
            intro a b z ha
            unfold seenP at z ⊢
            rcases Nat.lt_or_ge a i with y | y
            · omega
            · have : a = i := by omega
              subst this; exact absurd ha.2 q
          refine ih (i + 1) r B (by omega) f1 (fun a b k z h1 h2 h3 h4 h5 => g1 a b k (st a b z h2) h1 h2 h3 h4 h5) ?_
          rcases g2 with ⟨e, a, b, z, h1, h2, h3, h4⟩ | ⟨e, ⟨a, h1, h2⟩, g⟩ | ⟨e, g⟩
          · exact Or.inl ⟨e, a, b, by unfold seenP at z ⊢; omega, h1, h2, h3, h4⟩
          · exact Or.inr (Or.inl ⟨e, ⟨a, by omega, h2⟩, fun a b z h1 h2 h3 => g a b (st a b z h2) h1 h2 h3⟩)
          · refine Or.inr (Or.inr ⟨e, fun a h1 h2 => ?_⟩)
            rcases Nat.lt_or_ge a i with y | y
            · exact g a y h2
            · have : a = i := by omega
              subst this; exact absurd h2.2 q
  exact l1 n 0 0 SJ (by omega) FJ.rf (fun a b k z => by unfold seenP at z; omega) (Or.inr (Or.inr ⟨rfl, fun a h1 => by omega⟩))
end Rank
