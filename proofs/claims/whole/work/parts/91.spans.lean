/-! 91: rank and firmness in the class -/
theorem i3_ifmax {a b : Int} (h1 : -2147483648 ≤ a) (h2 : a < 2147483648) (h3 : -2147483648 ≤ b) (h4 : b < 2147483648) : (if i3 a < i3 b then i3 b else i3 a) = i3 (if a < b then b else a) := by
  by_cases q : a < b
  · rw [if_pos q, if_pos ((i3_lt h1 h2 h3 h4).mpr q)]
  · rw [if_neg q, if_neg (fun z => q ((i3_lt h1 h2 h3 h4).mp z))]
theorem i3_ifmin {a b : Int} (h1 : -2147483648 ≤ a) (h2 : a < 2147483648) (h3 : -2147483648 ≤ b) (h4 : b < 2147483648) : (if i3 a < i3 b then i3 a else i3 b) = i3 (if a < b then a else b) := by
  by_cases q : a < b
  · rw [if_pos q, if_pos ((i3_lt h1 h2 h3 h4).mpr q)]
  · rw [if_neg q, if_neg (fun z => q ((i3_lt h1 h2 h3 h4).mp z))]
theorem bit_z {s k : Nat} (hs : s < 2147483648) (hk : k < 32) : ((i3 s >>> (i3 k &&& 31)) &&& i3 1) = 0 ↔ ¬ s.testBit k = true := by
  rw [i3_bit hs hk, bit_ib]
  cases hb : s.testBit k
  · simp; rfl
  · simp; decide
theorem bit_o {s k : Nat} (hs : s < 2147483648) (hk : k < 32) : ((i3 s >>> (i3 k &&& 31)) &&& i3 1) = i3 1 ↔ s.testBit k = true := by
  rw [i3_bit hs hk, bit_ib]
  cases hb : s.testBit k
  · simp; decide
  · simp
def cpS (W : Nat → V3) (n s a b : Nat) : Prop := inS s n a ∧ inS s n b ∧ crs (W a) (W b) ≠ (0, 0, 0)
def gdS (W : Nat → V3) (n s a b : Nat) : Prop := (∃ k, inS s n k ∧ 0 < dot (crs (W a) (W b)) (W k)) ∧ ∃ k, inS s n k ∧ dot (crs (W a) (W b)) (W k) < 0
theorem firm_iff {W : Nat → V3} {n s : Nat} : firm W n s ↔ (∃ a b, a < b ∧ cpS W n s a b) ∧ ∀ a b, a < b → cpS W n s a b → gdS W n s a b := by
  constructor
  · rintro ⟨⟨i, j, k, h1, h2, h3, h4, h5, h6⟩, g⟩
    exact ⟨⟨i, j, h1, h2, h3, h5⟩, fun a b hab hc => g a b hab hc.1 hc.2.1 hc.2.2⟩
  · rintro ⟨⟨a, b, hab, hc⟩, g⟩
    obtain ⟨⟨k, k1, k2⟩, -⟩ := g a b hab hc
    exact ⟨⟨a, b, k, hab, hc.1, hc.2.1, k1, hc.2.2, by omega⟩, fun i j hij hi hj hz => g i j hij ⟨hi, hj, hz⟩⟩
theorem ab_and {W : Nat → V3} {n s : Nat} {p : V3} (hn : n ≤ 14) : abS W p n &&& s = 0 ↔ ¬ ∃ k, inS s n k ∧ 0 < dot p (W k) := by
  rw [and_0]
  constructor
  · rintro h ⟨k, k1, k2⟩
    refine h k ⟨(abS_bit W p n k).mpr ⟨k1.1, by rw [dot_com]; exact k2⟩, k1.2⟩
  · intro h k z
    obtain ⟨z1, z2⟩ := (abS_bit W p n k).mp z.1
    exact h ⟨k, ⟨z1, z.2⟩, by rw [dot_com]; exact z2⟩
theorem be_and {W : Nat → V3} {n s : Nat} {p : V3} (hn : n ≤ 14) : beS W p n &&& s = 0 ↔ ¬ ∃ k, inS s n k ∧ dot p (W k) < 0 := by
  rw [and_0]
  constructor
  · rintro h ⟨k, k1, k2⟩
    refine h k ⟨(beS_bit W p n k).mpr ⟨k1.1, by rw [dot_com]; exact k2⟩, k1.2⟩
  · intro h k z
    obtain ⟨z1, z2⟩ := (beS_bit W p n k).mp z.1
    exact h ⟨k, ⟨z1, z.2⟩, by rw [dot_com]; exact z2⟩
theorem ab14 {W : Nat → V3} {p : V3} {n : Nat} (hn : n ≤ 14) : abS W p n < 16384 ∧ beS W p n < 16384 := by
  have h := Nat.pow_le_pow_right (n := 2) (by decide) hn
  have a := abS_lt W p n; have b := beS_lt W p n
  exact ⟨Nat.lt_of_lt_of_le a h, Nat.lt_of_lt_of_le b h⟩
section Spans42
variable {E : gj_E} {SI : gj_I} {SJ : gj_J} {W : Nat → V3} {O : Nat → Int} {n : Nat}
theorem sp_spans42 {Q : Int32 → gj_I → gj_J → Prop} {a : Int32} (hL : SI 42 9 = i3 n) (hC : PB42 W n SI SJ) (hn : n ≤ 14) (hB : Wb W n) (s : Nat) (hs : s < 2147483648) (ha : a = i3 s) (h : Q (ibc (firm W n s)) SI SJ) : DoI E 10 [(.ref 42), (.int a)] SI SJ Q := by
  subst ha
  refine st_10_42 _ SI SJ ?_
  let HP : Nat → Nat → Int → Prop := fun i j f => ((f = 1 ∧ ∃ a b, seenP i j a b ∧ a < b ∧ cpS W n s a b) ∨ (f = 0 ∧ ∀ a b, seenP i j a b → a < b → ¬ cpS W n s a b)) ∧ ∀ a b, seenP i j a b → a < b → cpS W n s a b → gdS W n s a b
  have bad : ∀ i j, i < j → cpS W n s i j → ¬ gdS W n s i j → Q (i3 0) SI SJ := by
    intro i j hij hc hg
    rw [ibc_f (fun z => hg ((firm_iff.mp z).2 i j hij hc))] at h; exact h
  have up : ∀ i j j' f, HP i j f → (∀ a b, seenP i j' a b → a < b → seenP i j a b ∨ ¬ cpS W n s a b) → (∀ a b, seenP i j a b → seenP i j' a b) → HP i j' f := by
    rintro i j j' f ⟨g1, g2⟩ h1 h2
    refine ⟨?_, fun a b z1 z2 z3 => ?_⟩
    · rcases g1 with ⟨e, a, b, z1, z2, z3⟩ | ⟨e, g⟩
      · exact Or.inl ⟨e, a, b, h2 a b z1, z2, z3⟩
      · refine Or.inr ⟨e, fun a b z1 z2 z3 => ?_⟩
        rcases h1 a b z1 z2 with y | y
        · exact g a b y z2 z3
        · exact y z3
    · rcases h1 a b z1 z2 with y | y
      · exact g2 a b y z2 z3
      · exact absurd z3 y
  have inner : ∀ (i : Nat) (f : Int), i < n → s.testBit i = true → HP i (i + 1) f → (∀ f', HP (i + 1) 0 f' → GoI E mt_10 4 [some (.ref 42), some (.int (i3 s)), some (.int (i3 f')), some (.int (i3 ((i + 1 : Nat) : Int))), none, none] SI SJ Q) → GoI E mt_10 28 [some (.ref 42), some (.int (i3 s)), some (.int (i3 f)), some (.int (i3 (i : Nat))), some (.int (i3 ((i + 1 : Nat) : Int))), none] SI SJ Q := by
    intro i f hi hbi hH hc
    refine up_lp (α := Int) (P := fun j f A B => A = SI ∧ B = SJ ∧ HP i j f ∧ i < j) (G := fun j f A B => GoI E mt_10 28 [some (.ref 42), some (.int (i3 s)), some (.int (i3 f)), some (.int (i3 (i : Nat))), some (.int (i3 (j : Nat))), none] A B Q) n ?_ ?_ (i + 1) f SI SJ (by omega) ⟨rfl, rfl, hH, by omega⟩
    · rintro f A B ⟨rfl, rfl, hH, hij⟩
      refine lp_10_28_42 _ _ _ _ A B ⟨fun _ => ?_, fun q => ?_⟩
      · rw [i3_add]
        refine hc f ?_
        obtain ⟨g1, g2⟩ := hH
        have e1 : ∀ a b, cpS W n s a b → seenP (i + 1) 0 a b → seenP i n a b := by
          intro a b c z; have := c.2.1.1; unfold seenP at z ⊢; omega
        refine ⟨?_, fun a b z1 z2 z3 => g2 a b (e1 a b z3 z1) z2 z3⟩
        rcases g1 with ⟨e, a, b, z1, z2, z3⟩ | ⟨e, g⟩
        · exact Or.inl ⟨e, a, b, by unfold seenP at z1 ⊢; omega, z2, z3⟩
        · exact Or.inr ⟨e, fun a b z1 z2 z3 => g a b (e1 a b z3 z1) z2 z3⟩
      · rw [hL, i3_le (by omega) (by omega) (by omega) (by omega)] at q; omega
    · rintro j f A B hj ⟨rfl, rfl, hH, hij⟩ ih
      have cb := cpl_b hij (show j < 14 by omega)
      obtain ⟨q1, q2, q3, q4, q5⟩ := hC i j hij hj trivial
      have pb := crs_b hB hi hj
      have a14 := ab14 (W := W) (p := crs (W i) (W j)) hn
      have skip : ¬ cpS W n s i j → GoI E mt_10 28 [some (.ref 42), some (.int (i3 s)), some (.int (i3 f)), some (.int (i3 (i : Nat))), some (.int (i3 ((j : Int) + 1))), none] A B Q := by
        intro hne
        refine ih f A B ⟨rfl, rfl, up i j (j + 1) f hH (fun a b z1 z2 => ?_) (fun a b z => by unfold seenP at z ⊢; omega), by omega⟩
        by_cases e : a = i ∧ b = j
        · rw [e.1, e.2]; exact Or.inr hne
        · left; unfold seenP at z1 ⊢; omega
      refine lp_10_28_42 _ _ _ _ A B ⟨fun q => ?_, fun q => sp_couple i j (by omega) rfl rfl ?_⟩
      · rw [hL, i3_le (by omega) (by omega) (by omega) (by omega)] at q; omega
      · rw [bit_z hs (by omega), i3_add]
        refine ⟨fun y => skip (fun z => y z.2.1.2), fun y => ?_⟩
        rw [Decidable.not_not] at y
        refine sp_isPlane42 pb (cpl i j) cb q1 q2 q3 rfl ⟨fun y2 => ?_, fun y2 => ?_⟩
        · rw [ibc_0, Classical.not_not] at y2
          have hc : cpS W n s i j := ⟨⟨hi, hbi⟩, ⟨hj, y⟩, y2⟩
          rw [i3_in (by omega) (by omega), i3_n (by omega) (by omega), show ((cpl i j : Nat) : Int).toNat = cpl i j by omega, q4, q5, i3_and, i3_and]
          have la : abS W (crs (W i) (W j)) n &&& s ≤ abS W (crs (W i) (W j)) n := Nat.and_le_left
          have lb : beS W (crs (W i) (W j)) n &&& s ≤ beS W (crs (W i) (W j)) n := Nat.and_le_left
          rw [i3_eq0 (by omega) (by omega), i3_eq0 (by omega) (by omega), Int.natCast_eq_zero, Int.natCast_eq_zero, ab_and hn, be_and hn]
          refine ⟨by omega, fun k => bad i j hij hc (fun z => k z.1), fun k => ⟨fun k2 => ?_, fun k2 => bad i j hij hc (fun z => k2 z.2)⟩⟩
          rw [Classical.not_not] at k k2
          refine ih 1 A B ⟨rfl, rfl, ⟨Or.inl ⟨rfl, i, j, by unfold seenP; omega, hij, hc⟩, fun a b z1 z2 z3 => ?_⟩, by omega⟩
          by_cases e : a = i ∧ b = j
          · rw [e.1, e.2]; exact ⟨k, k2⟩
          · exact hH.2 a b (by unfold seenP at z1 ⊢; omega) z2 z3
        · rw [ibc_0, Classical.not_not] at y2
          exact skip (fun z => z.2.2 y2)
  refine up_lp (α := Int) (P := fun i f A B => A = SI ∧ B = SJ ∧ HP i 0 f) (G := fun i f A B => GoI E mt_10 4 [some (.ref 42), some (.int (i3 s)), some (.int (i3 f)), some (.int (i3 (i : Nat))), none, none] A B Q) n ?_ ?_ 0 0 SI SJ (by omega) ⟨rfl, rfl, ⟨Or.inr ⟨rfl, fun a b z => by unfold seenP at z; omega⟩, fun a b z => by unfold seenP at z; omega⟩⟩
  · rintro f A B ⟨rfl, rfl, g1, g2⟩
    have all : ∀ a b, cpS W n s a b → seenP n 0 a b := fun a b c => by have := c.1.1; unfold seenP; omega
    refine lp_10_4_42 _ _ _ A B ⟨fun _ => ?_, fun q => ?_⟩
    · rcases g1 with ⟨rfl, a, b, z1, z2, z3⟩ | ⟨rfl, g⟩
      · have hf : firm W n s := firm_iff.mpr ⟨⟨a, b, z2, z3⟩, fun a b z2 z3 => g2 a b (all a b z3) z2 z3⟩
        rw [ibc_t hf] at h
        exact ⟨Or.inr rfl, h⟩
      · have hf : ¬ firm W n s := fun z => by
          obtain ⟨⟨a, b, z2, z3⟩, -⟩ := firm_iff.mp z
          exact g a b (all a b z3) z2 z3
        rw [ibc_f hf] at h
        exact ⟨Or.inl rfl, h⟩
    · rw [hL, i3_le (by omega) (by omega) (by omega) (by omega)] at q; omega
  · rintro i f A B hi ⟨rfl, rfl, hH⟩ ih
    refine lp_10_4_42 _ _ _ A B ⟨fun q => ?_, fun q => ?_⟩
    · rw [hL, i3_le (by omega) (by omega) (by omega) (by omega)] at q; omega
    · rw [bit_z hs (by omega), i3_add]
      refine ⟨fun y => ?_, fun y => ?_⟩
      · rw [Decidable.not_not] at y
        refine inner i f hi y ?_ (fun f' hf' => ih f' A B ⟨rfl, rfl, hf'⟩)
        exact up i 0 (i + 1) f hH (fun a b z1 z2 => by left; unfold seenP at z1 ⊢; omega) (fun a b z => by unfold seenP at z ⊢; omega)
      · refine ih f A B ⟨rfl, rfl, ?_⟩
        obtain ⟨g1, g2⟩ := hH
        have e1 : ∀ a b, cpS W n s a b → seenP (i + 1) 0 a b → seenP i 0 a b := by
          intro a b c z
          have : a ≠ i := fun e => y (by rw [← e]; exact c.1.2)
          unfold seenP at z ⊢; omega
        refine ⟨?_, fun a b z1 z2 z3 => g2 a b (e1 a b z3 z1) z2 z3⟩
        rcases g1 with ⟨e, a, b, z1, z2, z3⟩ | ⟨e, g⟩
        · exact Or.inl ⟨e, a, b, by unfold seenP at z1 ⊢; omega, z2, z3⟩
        · exact Or.inr ⟨e, fun a b z1 z2 z3 => g a b (e1 a b z3 z1) z2 z3⟩
end Spans42
section Spans66
variable {E : gj_E} {SI : gj_I} {SJ : gj_J} {W : Nat → V3} {O : Nat → Int} {n : Nat}
theorem sp_spans66 {Q : Int32 → gj_I → gj_J → Prop} {a : Int32} (hL : SI 66 9 = i3 n) (hC : PB66 W n SI SJ) (hn : n ≤ 14) (hB : Wb W n) (s : Nat) (hs : s < 2147483648) (ha : a = i3 s) (h : Q (ibc (firm W n s)) SI SJ) : DoI E 10 [(.ref 66), (.int a)] SI SJ Q := by
  subst ha
  refine st_10_66 _ SI SJ ?_
  let HP : Nat → Nat → Int → Prop := fun i j f => ((f = 1 ∧ ∃ a b, seenP i j a b ∧ a < b ∧ cpS W n s a b) ∨ (f = 0 ∧ ∀ a b, seenP i j a b → a < b → ¬ cpS W n s a b)) ∧ ∀ a b, seenP i j a b → a < b → cpS W n s a b → gdS W n s a b
  have bad : ∀ i j, i < j → cpS W n s i j → ¬ gdS W n s i j → Q (i3 0) SI SJ := by
    intro i j hij hc hg
    rw [ibc_f (fun z => hg ((firm_iff.mp z).2 i j hij hc))] at h; exact h
  have up : ∀ i j j' f, HP i j f → (∀ a b, seenP i j' a b → a < b → seenP i j a b ∨ ¬ cpS W n s a b) → (∀ a b, seenP i j a b → seenP i j' a b) → HP i j' f := by
    rintro i j j' f ⟨g1, g2⟩ h1 h2
    refine ⟨?_, fun a b z1 z2 z3 => ?_⟩
    · rcases g1 with ⟨e, a, b, z1, z2, z3⟩ | ⟨e, g⟩
      · exact Or.inl ⟨e, a, b, h2 a b z1, z2, z3⟩
      · refine Or.inr ⟨e, fun a b z1 z2 z3 => ?_⟩
        rcases h1 a b z1 z2 with y | y
        · exact g a b y z2 z3
        · exact y z3
    · rcases h1 a b z1 z2 with y | y
      · exact g2 a b y z2 z3
      · exact absurd z3 y
  have inner : ∀ (i : Nat) (f : Int), i < n → s.testBit i = true → HP i (i + 1) f → (∀ f', HP (i + 1) 0 f' → GoI E mt_10 4 [some (.ref 66), some (.int (i3 s)), some (.int (i3 f')), some (.int (i3 ((i + 1 : Nat) : Int))), none, none] SI SJ Q) → GoI E mt_10 28 [some (.ref 66), some (.int (i3 s)), some (.int (i3 f)), some (.int (i3 (i : Nat))), some (.int (i3 ((i + 1 : Nat) : Int))), none] SI SJ Q := by
    intro i f hi hbi hH hc
    refine up_lp (α := Int) (P := fun j f A B => A = SI ∧ B = SJ ∧ HP i j f ∧ i < j) (G := fun j f A B => GoI E mt_10 28 [some (.ref 66), some (.int (i3 s)), some (.int (i3 f)), some (.int (i3 (i : Nat))), some (.int (i3 (j : Nat))), none] A B Q) n ?_ ?_ (i + 1) f SI SJ (by omega) ⟨rfl, rfl, hH, by omega⟩
    · rintro f A B ⟨rfl, rfl, hH, hij⟩
      refine lp_10_28_66 _ _ _ _ A B ⟨fun _ => ?_, fun q => ?_⟩
      · rw [i3_add]
        refine hc f ?_
        obtain ⟨g1, g2⟩ := hH
        have e1 : ∀ a b, cpS W n s a b → seenP (i + 1) 0 a b → seenP i n a b := by
          intro a b c z; have := c.2.1.1; unfold seenP at z ⊢; omega
        refine ⟨?_, fun a b z1 z2 z3 => g2 a b (e1 a b z3 z1) z2 z3⟩
        rcases g1 with ⟨e, a, b, z1, z2, z3⟩ | ⟨e, g⟩
        · exact Or.inl ⟨e, a, b, by unfold seenP at z1 ⊢; omega, z2, z3⟩
        · exact Or.inr ⟨e, fun a b z1 z2 z3 => g a b (e1 a b z3 z1) z2 z3⟩
      · rw [hL, i3_le (by omega) (by omega) (by omega) (by omega)] at q; omega
    · rintro j f A B hj ⟨rfl, rfl, hH, hij⟩ ih
      have cb := cpl_b hij (show j < 14 by omega)
      obtain ⟨q1, q2, q3, q4, q5⟩ := hC i j hij hj trivial
      have pb := crs_b hB hi hj
      have a14 := ab14 (W := W) (p := crs (W i) (W j)) hn
      have skip : ¬ cpS W n s i j → GoI E mt_10 28 [some (.ref 66), some (.int (i3 s)), some (.int (i3 f)), some (.int (i3 (i : Nat))), some (.int (i3 ((j : Int) + 1))), none] A B Q := by
        intro hne
        refine ih f A B ⟨rfl, rfl, up i j (j + 1) f hH (fun a b z1 z2 => ?_) (fun a b z => by unfold seenP at z ⊢; omega), by omega⟩
        by_cases e : a = i ∧ b = j
        · rw [e.1, e.2]; exact Or.inr hne
        · left; unfold seenP at z1 ⊢; omega
      refine lp_10_28_66 _ _ _ _ A B ⟨fun q => ?_, fun q => sp_couple i j (by omega) rfl rfl ?_⟩
      · rw [hL, i3_le (by omega) (by omega) (by omega) (by omega)] at q; omega
      · rw [bit_z hs (by omega), i3_add]
        refine ⟨fun y => skip (fun z => y z.2.1.2), fun y => ?_⟩
        rw [Decidable.not_not] at y
        refine sp_isPlane66 pb (cpl i j) cb q1 q2 q3 rfl ⟨fun y2 => ?_, fun y2 => ?_⟩
        · rw [ibc_0, Classical.not_not] at y2
          have hc : cpS W n s i j := ⟨⟨hi, hbi⟩, ⟨hj, y⟩, y2⟩
          rw [i3_in (by omega) (by omega), i3_n (by omega) (by omega), show ((cpl i j : Nat) : Int).toNat = cpl i j by omega, q4, q5, i3_and, i3_and]
          have la : abS W (crs (W i) (W j)) n &&& s ≤ abS W (crs (W i) (W j)) n := Nat.and_le_left
          have lb : beS W (crs (W i) (W j)) n &&& s ≤ beS W (crs (W i) (W j)) n := Nat.and_le_left
          rw [i3_eq0 (by omega) (by omega), i3_eq0 (by omega) (by omega), Int.natCast_eq_zero, Int.natCast_eq_zero, ab_and hn, be_and hn]
          refine ⟨by omega, fun k => bad i j hij hc (fun z => k z.1), fun k => ⟨fun k2 => ?_, fun k2 => bad i j hij hc (fun z => k2 z.2)⟩⟩
          rw [Classical.not_not] at k k2
          refine ih 1 A B ⟨rfl, rfl, ⟨Or.inl ⟨rfl, i, j, by unfold seenP; omega, hij, hc⟩, fun a b z1 z2 z3 => ?_⟩, by omega⟩
          by_cases e : a = i ∧ b = j
          · rw [e.1, e.2]; exact ⟨k, k2⟩
          · exact hH.2 a b (by unfold seenP at z1 ⊢; omega) z2 z3
        · rw [ibc_0, Classical.not_not] at y2
          exact skip (fun z => z.2.2 y2)
  refine up_lp (α := Int) (P := fun i f A B => A = SI ∧ B = SJ ∧ HP i 0 f) (G := fun i f A B => GoI E mt_10 4 [some (.ref 66), some (.int (i3 s)), some (.int (i3 f)), some (.int (i3 (i : Nat))), none, none] A B Q) n ?_ ?_ 0 0 SI SJ (by omega) ⟨rfl, rfl, ⟨Or.inr ⟨rfl, fun a b z => by unfold seenP at z; omega⟩, fun a b z => by unfold seenP at z; omega⟩⟩
  · rintro f A B ⟨rfl, rfl, g1, g2⟩
    have all : ∀ a b, cpS W n s a b → seenP n 0 a b := fun a b c => by have := c.1.1; unfold seenP; omega
    refine lp_10_4_66 _ _ _ A B ⟨fun _ => ?_, fun q => ?_⟩
    · rcases g1 with ⟨rfl, a, b, z1, z2, z3⟩ | ⟨rfl, g⟩
      · have hf : firm W n s := firm_iff.mpr ⟨⟨a, b, z2, z3⟩, fun a b z2 z3 => g2 a b (all a b z3) z2 z3⟩
        rw [ibc_t hf] at h
        exact ⟨Or.inr rfl, h⟩
      · have hf : ¬ firm W n s := fun z => by
          obtain ⟨⟨a, b, z2, z3⟩, -⟩ := firm_iff.mp z
          exact g a b (all a b z3) z2 z3
        rw [ibc_f hf] at h
        exact ⟨Or.inl rfl, h⟩
    · rw [hL, i3_le (by omega) (by omega) (by omega) (by omega)] at q; omega
  · rintro i f A B hi ⟨rfl, rfl, hH⟩ ih
    refine lp_10_4_66 _ _ _ A B ⟨fun q => ?_, fun q => ?_⟩
    · rw [hL, i3_le (by omega) (by omega) (by omega) (by omega)] at q; omega
    · rw [bit_z hs (by omega), i3_add]
      refine ⟨fun y => ?_, fun y => ?_⟩
      · rw [Decidable.not_not] at y
        refine inner i f hi y ?_ (fun f' hf' => ih f' A B ⟨rfl, rfl, hf'⟩)
        exact up i 0 (i + 1) f hH (fun a b z1 z2 => by left; unfold seenP at z1 ⊢; omega) (fun a b z => by unfold seenP at z ⊢; omega)
      · refine ih f A B ⟨rfl, rfl, ?_⟩
        obtain ⟨g1, g2⟩ := hH
        have e1 : ∀ a b, cpS W n s a b → seenP (i + 1) 0 a b → seenP i 0 a b := by
          intro a b c z
          have : a ≠ i := fun e => y (by rw [← e]; exact c.1.2)
          unfold seenP at z ⊢; omega
        refine ⟨?_, fun a b z1 z2 z3 => g2 a b (e1 a b z3 z1) z2 z3⟩
        rcases g1 with ⟨e, a, b, z1, z2, z3⟩ | ⟨e, g⟩
        · exact Or.inl ⟨e, a, b, by unfold seenP at z1 ⊢; omega, z2, z3⟩
        · exact Or.inr ⟨e, fun a b z1 z2 z3 => g a b (e1 a b z3 z1) z2 z3⟩
end Spans66
section Height
variable {E : gj_E} {SI : gj_I} {SJ : gj_J} {W : Nat → V3} {O : Nat → Int} {n : Nat}
theorem sp_ownedBy {Q : Int32 → gj_I → gj_J → Prop} {a : Int32} (hL : LB42 W O n SI SJ) (hn : n ≤ 14) (hO : ∀ j, j < n → 0 ≤ O j ∧ O j < 31) (s : Nat) (hs : s < 2147483648) (ha : a = i3 s) (t : Nat) (ht : t < 2 ^ n) (hbit : ∀ j, j < n → t.testBit j = s.testBit (O j).toNat) (h : Q (i3 t) SI SJ) : DoI E 4 [(.ref 42), (.int a)] SI SJ Q := by
  subst ha
  refine st_4 _ SI SJ ?_
  have hp : 2 ^ n ≤ 2 ^ 14 := Nat.pow_le_pow_right (by decide) hn
  have key : GoI E mt_4 4 [some (.ref 42), some (.int (i3 s)), some (.int (i3 ((t % 2 ^ 0 : Nat) : Int))), some (.int (i3 ((0 : Nat) : Int)))] SI SJ Q := by
    refine up_lp (α := Unit) (P := fun i _ A B => A = SI ∧ B = SJ) (G := fun i _ A B => GoI E mt_4 4 [some (.ref 42), some (.int (i3 s)), some (.int (i3 ((t % 2 ^ i : Nat) : Int))), some (.int (i3 i))] A B Q) n ?_ ?_ 0 () SI SJ (by omega) ⟨rfl, rfl⟩
    · rintro _ A B ⟨rfl, rfl⟩
      refine lp_4_4 _ _ _ A B ⟨fun _ => ?_, fun c => ?_⟩
      · rw [Nat.mod_eq_of_lt ht]; exact h
      · rw [hL.1, i3_le (by omega) (by omega) (by omega) (by omega)] at c; omega
    · rintro i _ A B hi ⟨rfl, rfl⟩ ih
      have nx := ih () A B ⟨rfl, rfl⟩
      obtain ⟨-, -, -, x4⟩ := hL.2 i hi
      have hOi := hO i hi
      obtain ⟨o, ho⟩ : ∃ o : Nat, O i = o := ⟨(O i).toNat, by omega⟩
      have hb := hbit i hi
      rw [ho, show ((o : Nat) : Int).toNat = o by omega] at hb
      have em : t % 2 ^ (i + 1) = if t.testBit i = true then t % 2 ^ i ||| 2 ^ i else t % 2 ^ i := by
        have lt := Nat.mod_lt t (show 0 < 2 ^ i from Nat.two_pow_pos i)
        apply Nat.eq_of_testBit_eq
        intro k
        rw [Nat.testBit_mod_two_pow]
        by_cases q : t.testBit i = true
        · rw [if_pos q, or_bit, Nat.testBit_mod_two_pow]
          by_cases e : i = k
          · subst e; rw [q]; simp
          · have : (k < i + 1) ↔ k < i := by omega
            simp [this, e]
        · rw [if_neg q, Nat.testBit_mod_two_pow]
          by_cases e : i = k
          · subst e
            have : t.testBit i = false := by cases h : t.testBit i; rfl; exact absurd h q
            simp [this]
          · have : (k < i + 1) ↔ k < i := by omega
            simp [this]
      rw [em] at nx
      refine lp_4_4 _ _ _ A B ⟨fun c => ?_, fun c => ⟨by rw [i3_in (by omega) (by omega)]; omega, ?_⟩⟩
      · rw [hL.1, i3_le (by omega) (by omega) (by omega) (by omega)] at c; omega
      · rw [i3_n (by omega) (by omega), show ((i : Nat) : Int).toNat = i by omega, x4, ho, bit_o hs (by omega), i3_shl (by omega), i3_or, i3_add, ← hb]
        refine ⟨fun y => ?_, fun y => ?_⟩
        · rw [if_neg y] at nx; exact nx
        · rw [if_pos y] at nx; exact nx
  rw [Nat.pow_zero, Nat.mod_one] at key
  exact key
theorem sp_height {Q : Int32 → gj_I → gj_J → Prop} (hL : SI 42 9 = i3 n) (hC : PB42 W n SI SJ) (hn : n ≤ 14) (hB : Wb W n) (h : ∀ r, rkI W n (fullS n) r → 0 ≤ r ∧ r ≤ 3 → Q (i3 r) SI SJ) : DoI E 9 [(.ref 42)] SI SJ Q := by
  refine st_9 SI SJ ?_
  have a14 : ∀ p, abS W p n < 16384 ∧ beS W p n < 16384 := fun p => ab14 hn
  let sp : Nat → Nat → Prop := fun a b => a < b ∧ cpS W n (fullS n) a b
  let sd : Nat → Nat → Prop := fun a b => ∃ k, inS (fullS n) n k ∧ dot (crs (W a) (W b)) (W k) ≠ 0
  let HP : Nat → Nat → Int → Prop := fun i j r => (r = 3 ∧ ∃ a b, seenP i j a b ∧ sp a b ∧ sd a b) ∨ ((∀ a b, seenP i j a b → sp a b → ¬ sd a b) ∧ ((r = 2 ∧ ∃ a b, seenP i j a b ∧ sp a b) ∨ ((∀ a b, seenP i j a b → ¬ sp a b) ∧ r = min 1 n)))
  have rb : ∀ i j r, HP i j r → 0 ≤ r ∧ r ≤ 3 := by
    rintro i j r (⟨e, -⟩ | ⟨-, ⟨e, -⟩ | ⟨-, e⟩⟩) <;> omega
  have same : ∀ i j i' j' r, HP i j r → (∀ a b, sp a b → (seenP i j a b ↔ seenP i' j' a b)) → HP i' j' r := by
    rintro i j i' j' r hH he
    rcases hH with ⟨e, a, b, z1, z2, z3⟩ | ⟨g, ⟨e, a, b, z1, z2⟩ | ⟨g2, e⟩⟩
    · exact Or.inl ⟨e, a, b, (he a b z2).mp z1, z2, z3⟩
    · exact Or.inr ⟨fun a b z1 z2 => g a b ((he a b z2).mpr z1) z2, Or.inl ⟨e, a, b, (he a b z2).mp z1, z2⟩⟩
    · exact Or.inr ⟨fun a b z1 z2 => g a b ((he a b z2).mpr z1) z2, Or.inr ⟨fun a b z1 z2 => g2 a b ((he a b z2).mpr z1) z2, e⟩⟩
  have inner : ∀ (i : Nat) (r : Int), i < n → HP i (i + 1) r → (∀ r', HP (i + 1) 0 r' → GoI E mt_9 11 [some (.ref 42), some (.int (i3 r')), some (.int (i3 ((i + 1 : Nat) : Int))), none, none] SI SJ Q) → GoI E mt_9 23 [some (.ref 42), some (.int (i3 r)), some (.int (i3 (i : Nat))), some (.int (i3 ((i + 1 : Nat) : Int))), none] SI SJ Q := by
    intro i r hi hH hc
    refine up_lp (α := Int) (P := fun j r A B => A = SI ∧ B = SJ ∧ HP i j r ∧ i < j) (G := fun j r A B => GoI E mt_9 23 [some (.ref 42), some (.int (i3 r)), some (.int (i3 (i : Nat))), some (.int (i3 (j : Nat))), none] A B Q) n ?_ ?_ (i + 1) r SI SJ (by omega) ⟨rfl, rfl, hH, by omega⟩
    · rintro r A B ⟨rfl, rfl, hH, hij⟩
      refine lp_9_23 _ _ _ A B ⟨fun _ => ?_, fun q => ?_⟩
      · rw [i3_add]
        refine hc r (same i n (i + 1) 0 r hH (fun a b z => ?_))
        have := z.2.2.1.1
        have := z.1
        unfold seenP; omega
      · rw [hL, i3_le (by omega) (by omega) (by omega) (by omega)] at q; omega
    · rintro j r A B hj ⟨rfl, rfl, hH, hij⟩ ih
      have cb := cpl_b hij (show j < 14 by omega)
      obtain ⟨q1, q2, q3, q4, q5⟩ := hC i j hij hj trivial
      have pb := crs_b hB hi hj
      have aa := a14 (crs (W i) (W j))
      have rr := rb _ _ _ hH
      refine lp_9_23 _ _ _ A B ⟨fun q => ?_, fun q => sp_couple i j (by omega) rfl rfl (sp_isPlane42 pb (cpl i j) cb q1 q2 q3 rfl ⟨fun y => ?_, fun y => ?_⟩)⟩
      · rw [hL, i3_le (by omega) (by omega) (by omega) (by omega)] at q; omega
      · rw [ibc_0, Classical.not_not] at y
        rw [i3_add]
        refine ih r A B ⟨rfl, rfl, same i j i (j + 1) r hH (fun a b z => ?_), by omega⟩
        have ne : ¬ (a = i ∧ b = j) := fun e => z.2.2.2 (by rw [e.1, e.2]; exact y)
        unfold seenP; omega
      · rw [ibc_0, Classical.not_not] at y
        have hsp : sp i j := ⟨hij, inS_full.mpr hi, inS_full.mpr hj, y⟩
        rw [i3_in (by omega) (by omega), i3_n (by omega) (by omega), show ((cpl i j : Nat) : Int).toNat = cpl i j by omega, q4, q5, i3_or]
        have lo : abS W (crs (W i) (W j)) n ||| beS W (crs (W i) (W j)) n < 2 ^ 14 := Nat.or_lt_two_pow aa.1 aa.2
        rw [i3_eq0 (by omega) (by omega), Int.natCast_eq_zero, or_0, bit_0, bit_0, i3_ifmax (by omega) (by omega) (by omega) (by omega), i3_ifmax (by omega) (by omega) (by omega) (by omega), i3_add]
        have hsd : (¬ ((∀ k, ¬ (abS W (crs (W i) (W j)) n).testBit k = true) ∧ ∀ k, ¬ (beS W (crs (W i) (W j)) n).testBit k = true)) ↔ sd i j := by
          constructor
          · intro z
            refine Classical.byContradiction (fun y2 => z ⟨fun k hk => y2 ?_, fun k hk => y2 ?_⟩)
            · obtain ⟨k1, k2⟩ := (abS_bit W _ n k).mp hk
              exact ⟨k, inS_full.mpr k1, by rw [dot_com]; omega⟩
            · obtain ⟨k1, k2⟩ := (beS_bit W _ n k).mp hk
              exact ⟨k, inS_full.mpr k1, by rw [dot_com]; omega⟩
          · rintro ⟨k, k1, k2⟩ z
            rw [dot_com] at k2
            rcases Int.lt_or_lt_of_ne k2 with k3 | k3
            · exact z.2 k ((beS_bit W _ n k).mpr ⟨k1.1, k3⟩)
            · exact z.1 k ((abS_bit W _ n k).mpr ⟨k1.1, k3⟩)
        have st : ∀ a b, seenP i (j + 1) a b → seenP i j a b ∨ (a = i ∧ b = j) := fun a b z => by unfold seenP at z ⊢; omega
        have st2 : ∀ a b, seenP i j a b → seenP i (j + 1) a b := fun a b z => by unfold seenP at z ⊢; omega
        have sij : seenP i (j + 1) i j := by unfold seenP; omega
        refine ⟨by omega, fun y2 => ?_, fun y2 => ?_⟩
        · rw [hsd] at y2
          have e3 : (if r < 3 then 3 else r) = 3 := by
            by_cases q7 : r < 3
            · rw [if_pos q7]
            · rw [if_neg q7]; omega
          rw [e3]
          exact ih 3 A B ⟨rfl, rfl, Or.inl ⟨rfl, i, j, sij, hsp, y2⟩, by omega⟩
        · have y3 : ¬ sd i j := fun z => (hsd.mpr z) y2
          by_cases r3 : r = 3
          · have e2 : (if r < 2 then 2 else r) = 3 := by rw [if_neg (by omega), r3]
            rw [e2]
            refine ih 3 A B ⟨rfl, rfl, ?_, by omega⟩
            rcases hH with ⟨e, a, b, z1, z2, z3⟩ | ⟨g, ⟨e, -⟩ | ⟨-, e⟩⟩
            · exact Or.inl ⟨rfl, a, b, st2 a b z1, z2, z3⟩
            · omega
            · omega
          · have e2 : (if r < 2 then 2 else r) = 2 := by
              by_cases q7 : r < 2
              · rw [if_pos q7]
              · rw [if_neg q7]; omega
            rw [e2]
            refine ih 2 A B ⟨rfl, rfl, ?_, by omega⟩
            rcases hH with ⟨e, -⟩ | ⟨g, -⟩
            · exact absurd e r3
            · refine Or.inr ⟨fun a b z1 z2 => ?_, Or.inl ⟨rfl, i, j, sij, hsp⟩⟩
              rcases st a b z1 with z | z
              · exact g a b z z2
              · rw [z.1, z.2]; exact y3
  have em : (if SI 42 9 < i3 1 then SI 42 9 else i3 1) = i3 ((min 1 n : Nat) : Int) := by
    rw [hL, i3_ifmin (by omega) (by omega) (by omega) (by omega)]
    by_cases q : (n : Int) < 1
    · rw [if_pos q]; exact i3_c (by omega)
    · rw [if_neg q]; exact i3_c (by omega)
  rw [em]
  refine up_lp (α := Int) (P := fun i r A B => A = SI ∧ B = SJ ∧ HP i 0 r) (G := fun i r A B => GoI E mt_9 11 [some (.ref 42), some (.int (i3 r)), some (.int (i3 (i : Nat))), none, none] A B Q) n ?_ ?_ 0 ((min 1 n : Nat) : Int) SI SJ (by omega) ⟨rfl, rfl, Or.inr ⟨fun a b z => by unfold seenP at z; omega, Or.inr ⟨fun a b z => by unfold seenP at z; omega, rfl⟩⟩⟩
  · rintro r A B ⟨rfl, rfl, hH⟩
    have rr := rb _ _ _ hH
    have al : ∀ a b, sp a b → seenP n 0 a b := fun a b z => by have := z.2.1.1; unfold seenP; omega
    refine lp_9_11 _ _ A B ⟨fun _ => h r ?_ rr, fun q => ?_⟩
    · rcases hH with ⟨e, a, b, z1, z2, z3⟩ | ⟨g, g2⟩
      · obtain ⟨k, k1, k2⟩ := z3
        exact Or.inl ⟨e, a, b, k, z2.1, z2.2.1, z2.2.2.1, k1, z2.2.2.2, k2⟩
      · have n3 : ¬ R3 W n (fullS n) := by
          rintro ⟨a, b, k, h1, h2, h3, h4, h5, h6⟩
          have s0 : sp a b := ⟨h1, h2, h3, h5⟩
          exact g a b (al a b s0) s0 ⟨k, h4, h6⟩
        refine Or.inr ⟨n3, ?_⟩
        rcases g2 with ⟨e, a, b, z1, z2⟩ | ⟨g2, e⟩
        · exact Or.inl ⟨e, a, b, z2.1, z2.2.1, z2.2.2.1, z2.2.2.2⟩
        · have n2 : ¬ R2 W n (fullS n) := by
            rintro ⟨a, b, h1, h2, h3, h4⟩
            have s0 : sp a b := ⟨h1, h2, h3, h4⟩
            exact g2 a b (al a b s0) s0
          refine Or.inr ⟨n2, ?_⟩
          by_cases n0 : n = 0
          · refine Or.inr ⟨by omega, ?_⟩
            rintro ⟨i, hi⟩
            have := hi.1; omega
          · exact Or.inl ⟨by omega, 0, inS_full.mpr (by omega)⟩
    · rw [hL, i3_le (by omega) (by omega) (by omega) (by omega)] at q; omega
  · rintro i r A B hi ⟨rfl, rfl, hH⟩ ih
    refine lp_9_11 _ _ A B ⟨fun q => ?_, fun q => ?_⟩
    · rw [hL, i3_le (by omega) (by omega) (by omega) (by omega)] at q; omega
    · rw [i3_add]
      refine inner i r hi (same i 0 i (i + 1) r hH (fun a b z => ?_)) (fun r' hr' => ih r' A B ⟨rfl, rfl, hr'⟩)
      have := z.1
      unfold seenP; omega
end Height
