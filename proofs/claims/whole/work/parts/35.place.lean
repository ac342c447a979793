/-! 35: places and fingers of the reference -/
/-- edges have at least one step -/
def Wp (F : Nat → Int) : Prop := Wc F ∧ 3 ≤ nC F ∧ ∀ e, 1 ≤ stp F e
theorem Wp.mono {F : Nat → Int} (h : Wp F) : ∀ (d e : Nat), pl F e ≤ pl F (e + d) := by
  intro d
  induction d with
  | zero => intro e; exact Int.le_refl _
  | succ d ih =>
    intro e
    have h1 := ih e
    have h2 := h.2.2 (e + d)
    have h3 : pl F ((e + d) + 1) = pl F (e + d) + stp F (e + d) - 1 := rfl
    rw [show e + (d + 1) = (e + d) + 1 by omega]
    omega
theorem pl_b {F : Nat → Int} (h : Wc F) : ∀ e : Nat, -(e : Int) ≤ pl F e ∧ pl F e ≤ 8 * e := by
  intro e
  induction e with
  | zero => simp [pl]
  | succ e ih => have := h.s e; unfold pl; omega
theorem pl_in {F : Nat → Int} {i : Int} (h0 : 0 ≤ i) : ∀ n : Nat, i < pl F n → ∃ e, e < n ∧ pl F e ≤ i ∧ i < pl F (e + 1) := by
  intro n
  induction n with
  | zero => intro h; simp [pl] at h; omega
  | succ n ih =>
    intro h
    by_cases hn : i < pl F n
    · obtain ⟨e, a, b⟩ := ih hn; exact ⟨e, by omega, b⟩
    · exact ⟨n, by omega, by omega, h⟩
theorem pl_un {F : Nat → Int} (hW : Wp F) {i : Int} {e f : Nat} (h1 : pl F e ≤ i) (h2 : i < pl F (e + 1)) (h3 : pl F f ≤ i) (h4 : i < pl F (f + 1)) : e = f := by
  rcases Nat.lt_trichotomy e f with h | h | h
  · have := hW.mono (f - (e + 1)) (e + 1)
    rw [show e + 1 + (f - (e + 1)) = f by omega] at this
    omega
  · exact h
  · have := hW.mono (e - (f + 1)) (f + 1)
    rw [show f + 1 + (e - (f + 1)) = e by omega] at this
    omega
def fgp (F : Nat → Int) (e k : Int) (i : Nat) : Prop := F (18 + i) = e ∧ F (24 + i) = k
/-- the finger at a place is a, or none (-1) -/
def fgI (F : Nat → Int) (e k a : Int) : Prop := (∃ i : Nat, a = i ∧ (i : Int) < F 17 ∧ fgp F e k i ∧ ∀ j, j < i → ¬ fgp F e k j) ∨ (a = -1 ∧ ∀ j : Nat, (j : Int) < F 17 → ¬ fgp F e k j)
theorem fgI_ex (F : Nat → Int) (e k : Int) : ∃ a, fgI F e k a := by
  by_cases h : ∃ j : Nat, (j : Int) < F 17 ∧ fgp F e k j
  · obtain ⟨i, h1, h2⟩ := pk_least _ h
    refine ⟨i, Or.inl ⟨i, rfl, h1.1, h1.2, fun j hj q => h2 j hj ⟨by have := h1.1; omega, q⟩⟩⟩
  · exact ⟨-1, Or.inr ⟨rfl, fun j hj q => h ⟨j, hj, q⟩⟩⟩
theorem fgI_un {F : Nat → Int} {e k a b : Int} (h1 : fgI F e k a) (h2 : fgI F e k b) : a = b := by
  rcases h1 with ⟨i, rfl, i1, i2, i3⟩ | ⟨rfl, g1⟩
  · rcases h2 with ⟨j, rfl, j1, j2, j3⟩ | ⟨rfl, g2⟩
    · rcases Nat.lt_trichotomy i j with q | q | q
      · exact absurd i2 (j3 i q)
      · rw [q]
      · exact absurd j2 (i3 j q)
    · exact absurd i2 (g2 i i1)
  · rcases h2 with ⟨j, rfl, j1, j2, j3⟩ | ⟨rfl, g2⟩
    · exact absurd j2 (g1 j j1)
    · rfl
def Wg (F : Nat → Int) : Prop := 0 ≤ F 17 ∧ F 17 ≤ 6 ∧ ∀ i, i < 6 → -100 ≤ F (18 + i) ∧ F (18 + i) ≤ 100 ∧ -100 ≤ F (24 + i) ∧ F (24 + i) ≤ 100
section Place
variable {E : gj_E} {SI : gj_I} {SJ : gj_J} {F : Nat → Int}
theorem sp_placeMany {Q : Int32 → gj_I → gj_J → Prop} (hR : RF F SI) (hW : Wc F) (h : Q (i3 (pl F (nC F))) SI SJ) : DoI E 176 [(.ref 81)] SI SJ Q := by
  obtain ⟨n1, n2, n3⟩ := hW.n
  refine st_176 SI SJ ?_
  have key : ∀ (d i : Nat), i + d = nC F → GoI E mt_176 4 [some (.ref 81), some (.int (i3 (pl F i))), some (.int (i3 i))] SI SJ Q := by
    intro d
    induction d with
    | zero =>
      intro i hi
      refine lp_176_4 _ _ SI SJ (sp_corners hR ⟨fun _ => ?_, fun c => ?_⟩)
      · rw [show i = nC F by omega]; exact h
      · rw [n3, i3_le (by omega) (by omega) (by omega) (by omega)] at c; omega
    | succ d ih =>
      intro i hi
      refine lp_176_4 _ _ SI SJ (sp_corners hR ⟨fun c => ?_, fun c => ?_⟩)
      · rw [n3, i3_le (by omega) (by omega) (by omega) (by omega)] at c; omega
      · refine sp_stepsOf hR hW i (by omega) rfl ?_
        rw [i3_add, i3_sub, i3_add]
        exact ih (i + 1) (by omega)
  exact key (nC F) 0 (by omega)
theorem sp_placeEdge {Q : Int32 → gj_I → gj_J → Prop} {a : Int32} (hR : RF F SI) (hW : Wp F) (i : Int) (e : Nat) (he : e < nC F) (h1 : pl F e ≤ i) (h2 : i < pl F (e + 1)) (ha : a = i3 i) (h : Q (i3 e) SI SJ) : DoI E 177 [(.ref 81), (.int a)] SI SJ Q := by
  subst ha
  obtain ⟨n1, n2, n3⟩ := hW.1.n
  refine st_177 _ SI SJ ?_
  have key : ∀ (d f : Nat), f + d = e → GoI E mt_177 4 [some (.ref 81), none, some (.int (i3 (i - pl F f))), some (.int (i3 f))] SI SJ Q := by
    intro d
    induction d with
    | zero =>
      intro f hf
      have hf : f = e := by omega
      subst hf
      have b1 := pl_b hW.1 f; have b2 := hW.1.s f; have b3 : pl F (f + 1) = pl F f + stp F f - 1 := rfl
      refine lp_177_4 _ _ SI SJ (sp_stepsOf hR hW.1 f (by omega) rfl ⟨fun _ => h, fun c => ?_⟩)
      rw [i3_sub, i3_lt (by omega) (by omega) (by omega) (by omega)] at c; omega
    | succ d ih =>
      intro f hf
      have b1 := pl_b hW.1 f; have b2 := hW.1.s f; have b3 : pl F (f + 1) = pl F f + stp F f - 1 := rfl
      have b4 := hW.mono d (f + 1)
      rw [show f + 1 + d = e by omega] at b4
      have b5 := pl_b hW.1 e; have b6 := pl_b hW.1 (e + 1)
      refine lp_177_4 _ _ SI SJ (sp_stepsOf hR hW.1 f (by omega) rfl ⟨fun c => ?_, fun c => ?_⟩)
      · rw [i3_sub, i3_lt (by omega) (by omega) (by omega) (by omega)] at c; omega
      · refine sp_stepsOf hR hW.1 f (by omega) rfl ?_
        rw [i3_sub, i3_add, i3_add, show i - pl F f - (stp F f : Int) + 1 = i - pl F (f + 1) by omega]
        exact ih (f + 1) (by omega)
  have := key e 0 (by omega)
  rw [show i - pl F 0 = i by simp [pl]] at this
  exact this
theorem sp_placeStep {Q : Int32 → gj_I → gj_J → Prop} {a : Int32} (hR : RF F SI) (hW : Wp F) (i : Int) (e : Nat) (he : e < nC F) (h1 : pl F e ≤ i) (h2 : i < pl F (e + 1)) (ha : a = i3 i) (h : Q (i3 (i - pl F e + 1)) SI SJ) : DoI E 178 [(.ref 81), (.int a)] SI SJ Q := by
  subst ha
  obtain ⟨n1, n2, n3⟩ := hW.1.n
  refine st_178 _ SI SJ ?_
  have key : ∀ (d f : Nat), f + d = e → GoI E mt_178 4 [some (.ref 81), some (.int (i3 i)), some (.int (i3 (i - pl F f))), some (.int (i3 f))] SI SJ Q := by
    intro d
    induction d with
    | zero =>
      intro f hf
      have hf : f = e := by omega
      subst hf
      refine lp_178_4 _ _ _ SI SJ (sp_placeEdge hR hW i f he h1 h2 rfl ⟨fun _ => ?_, fun c => ?_⟩)
      · rw [i3_add]; exact h
      · rw [i3_le (by omega) (by omega) (by omega) (by omega)] at c; omega
    | succ d ih =>
      intro f hf
      refine lp_178_4 _ _ _ SI SJ (sp_placeEdge hR hW i e he h1 h2 rfl ⟨fun c => ?_, fun c => ?_⟩)
      · rw [i3_le (by omega) (by omega) (by omega) (by omega)] at c; omega
      · refine sp_stepsOf hR hW.1 f (by omega) rfl ?_
        have b3 : pl F (f + 1) = pl F f + stp F f - 1 := rfl
        rw [i3_sub, i3_add, i3_add, show i - pl F f - (stp F f : Int) + 1 = i - pl F (f + 1) by omega]
        exact ih (f + 1) (by omega)
  have := key e 0 (by omega)
  rw [show i - pl F 0 = i by simp [pl]] at this
  exact this
theorem sp_isPlace {Q : Int32 → gj_I → gj_J → Prop} {a : Int32} (hR : RF F SI) (hW : Wc F) (i : Int) (hi : -2147483648 ≤ i ∧ i < 2147483648) (ha : a = i3 i) (h : Q (ibc (0 ≤ i ∧ i < pl F (nC F))) SI SJ) : DoI E 179 [(.ref 81), (.int a)] SI SJ Q := by
  subst ha
  obtain ⟨n1, n2, n3⟩ := hW.n
  have b := pl_b hW (nC F)
  refine st_179 _ SI SJ (sp_placeMany hR hW ?_)
  rw [i3_sub, i3_64 (by omega) (by omega), i3_64 (by omega) (by omega)]
  refine sp_in (by omega) (by omega) (by omega) (by omega) (by omega) (by omega) ⟨ib_01, ?_⟩
  rw [ib_ibc, ibc_c (show (0 ≤ i ∧ i ≤ pl F (nC F) - 1) ↔ (0 ≤ i ∧ i < pl F (nC F)) by omega)]
  exact h
theorem sp_fingerAt {Q : Int32 → gj_I → gj_J → Prop} {x y : Int32} (hR : RF F SI) (hG : Wg F) (e k a : Int) (he : -2147483648 ≤ e ∧ e < 2147483648) (hk : -2147483648 ≤ k ∧ k < 2147483648) (hx : x = i3 e) (hy : y = i3 k) (hfg : fgI F e k a) (h : Q (i3 a) SI SJ) : DoI E 180 [(.ref 81), (.int x), (.int y)] SI SJ Q := by
  subst hx; subst hy
  obtain ⟨g1, g2, g3⟩ := hG
  refine st_180 _ _ SI SJ ?_
  have key : ∀ (d i : Nat), (i : Int) + d = F 17 → (∀ j, j < i → ¬ fgp F e k j) → GoI E mt_180 2 [some (.ref 81), some (.int (i3 e)), some (.int (i3 k)), some (.int (i3 i))] SI SJ Q := by
    intro d
    induction d with
    | zero =>
      intro i hi hn
      refine lp_180_2 _ _ _ SI SJ ⟨fun _ => ?_, fun c => ?_⟩
      · rw [fgI_un hfg (Or.inr ⟨rfl, fun j hj => hn j (by omega)⟩)] at h; exact h
      · rw [hR 17 (by decide), i3_le (by omega) (by omega) (by omega) (by omega)] at c; omega
    | succ d ih =>
      intro i hi hn
      have b := g3 i (by omega)
      refine lp_180_2 _ _ _ SI SJ ⟨fun c => ?_, fun c => ?_⟩
      · rw [hR 17 (by decide), i3_le (by omega) (by omega) (by omega) (by omega)] at c; omega
      · simp only [i3_add]
        rw [i3_in (by omega) (by omega), i3_in (by omega) (by omega), i3_n (by omega) (by omega), i3_n (by omega) (by omega), show ((18 : Int) + (i : Int)).toNat = 18 + i by omega, show ((24 : Int) + (i : Int)).toNat = 24 + i by omega, hR _ (by omega), hR _ (by omega), i3_eq (by omega) (by omega) (by omega) (by omega), i3_eq (by omega) (by omega) (by omega) (by omega)]
        have nx : ¬ fgp F e k i → GoI E mt_180 2 [some (.ref 81), some (.int (i3 e)), some (.int (i3 k)), some (.int (i3 ((i : Int) + 1)))] SI SJ Q := by
          intro q
          refine ih (i + 1) (by omega) (fun j hj => ?_)
          rcases Nat.lt_or_ge j i with z | z
          · exact hn j z
          · have : j = i := by omega
            subst this; exact q
        refine ⟨by omega, fun q => nx (fun z => q z.1), fun q => ⟨by omega, fun q2 => nx (fun z => q2 z.2), fun q2 => ?_⟩⟩
        rw [fgI_un hfg (Or.inl ⟨i, rfl, by omega, ⟨q, q2⟩, hn⟩)] at h; exact h
  exact key (F 17).toNat 0 (by omega) (fun j hj => by omega)
theorem sp_isFinger {Q : Int32 → gj_I → gj_J → Prop} {x : Int32} (hR : RF F SI) (hG : Wg F) (i : Int) (hi : -2147483648 ≤ i ∧ i < 2147483648) (hx : x = i3 i) (h : Q (ibc (0 ≤ i ∧ i < F 17)) SI SJ) : DoI E 181 [(.ref 81), (.int x)] SI SJ Q := by
  subst hx
  obtain ⟨g1, g2, g3⟩ := hG
  refine st_181 _ SI SJ ?_
  rw [hR 17 (by decide), i3_sub, i3_64 (by omega) (by omega), i3_64 (by omega) (by omega)]
  refine sp_in (by omega) (by omega) (by omega) (by omega) (by omega) (by omega) ⟨ib_01, ?_⟩
  rw [ib_ibc, ibc_c (show (0 ≤ i ∧ i ≤ F 17 - 1) ↔ (0 ≤ i ∧ i < F 17) by omega)]
  exact h
end Place
