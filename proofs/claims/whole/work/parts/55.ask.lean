/-! 55: check, corner, edge of the reference -/
def bad (F T : Nat → Int) (k : Nat) : Prop := F 17 ≤ ((k / 2 : Nat) : Int) ∨ T k ≠ F ((if k % 2 = 0 then 18 else 24) + k / 2)
noncomputable def ckL (F T : Nat → Int) : Nat → Nat → Int
  | _, 0 => -1
  | i, d + 1 => @ite _ (bad F T i) (Classical.propDecidable _) (i : Int) (ckL F T (i + 1) d)
noncomputable def checkA (F T : Nat → Int) (tp x : Int) : Int := if 0 ≤ x ∧ x ≤ 12 ∧ x ≤ tp then ckL F T 0 x.toNat else -2
def checkN (tp x : Int) : Int := if 0 ≤ x ∧ x ≤ 12 ∧ x ≤ tp then 0 else tp
section Ask
variable {E : gj_E} {SI : gj_I} {SJ : gj_J} {F : Nat → Int} {T : Nat → Int}
theorem sp_check {Q : Int32 → gj_I → gj_J → Prop} {a : Int32} (hR : RF F SI) (hG : Wg F) (hT : RT T SI) (tp x : Int) (hx : -2147483648 ≤ x ∧ x < 2147483648) (ht : SI 81 13 = i3 tp) (ht2 : 0 ≤ tp ∧ tp ≤ 240) (ha : a = i3 x) (h : ∀ SI', SI' 81 13 = i3 (checkN tp x) → FI (fun o k => o = 81 ∧ k = 13) SI SI' → Q (i3 (checkA F T tp x)) SI' SJ) : DoI E 283 [(.ref 81), (.int a)] SI SJ Q := by
  subst ha
  obtain ⟨g1, g2, g3⟩ := hG
  unfold checkA checkN at h
  refine st_283 _ SI SJ ?_
  rw [i3_64 (by omega) (by omega)]
  refine sp_in (by omega) (by omega) (by omega) (by omega) (by omega) (by omega) ⟨fun q => ?_, fun q => ?_⟩
  · rw [ib_0] at q
    rw [if_neg (by omega), if_neg (by omega)] at h
    exact h SI ht FI.rf
  · rw [ib_0, Decidable.not_not] at q
    rw [ht, i3_le (by omega) (by omega) (by omega) (by omega)]
    refine ⟨fun q2 => ?_, fun q2 => ?_⟩
    · rw [if_pos (by omega), if_pos (by omega)] at h
      obtain ⟨n, hn⟩ : ∃ n : Nat, x = n := ⟨x.toNat, by omega⟩
      subst hn
      rw [show ((n : Nat) : Int).toNat = n by omega] at h
      have key : ∀ (i d : Nat), i + d = n → GoI E mt_283 29 [some (.ref 81), none, some (.int (i3 (ckL F T i d))), some (.int (i3 ((i : Int) - 1)))] SI SJ Q := by
        intro i
        induction i with
        | zero =>
          intro d hd
          refine lp_283_29 _ _ SI SJ ⟨fun _ => ?_, fun z => absurd (by decide) z⟩
          rw [show n = d by omega] at h
          exact h _ u2_s (FI.rf.u ⟨rfl, rfl⟩)
        | succ i ih =>
          intro d hd
          have nx := ih (d + 1) (by omega)
          have sb : bad F T i → GoI E mt_283 29 [some (.ref 81), none, some (.int (i3 i)), some (.int (i3 ((i : Int) - 1)))] SI SJ Q := by
            intro b
            have e : ckL F T i (d + 1) = i := if_pos b
            rw [e] at nx; exact nx
          have sg : ¬ bad F T i → GoI E mt_283 29 [some (.ref 81), none, some (.int (i3 (ckL F T (i + 1) d))), some (.int (i3 ((i : Int) - 1)))] SI SJ Q := by
            intro b
            have e : ckL F T i (d + 1) = ckL F T (i + 1) d := if_neg b
            rw [e] at nx; exact nx
          have b1 := g3 (i / 2) (by omega)
          have tb := hT i (by omega)
          have er : i3 (i : Int) - i3 (i : Int) / i3 2 * i3 2 = i3 ((i % 2 : Nat) : Int) := i3_remN (a := i) (b := 2) (by omega) (by omega) (by omega)
          have ed : i3 (i : Int) / i3 2 = i3 ((i / 2 : Nat) : Int) := i3_divN (a := i) (b := 2) (by omega) (by omega) (by omega)
          refine lp_283_29 _ _ SI SJ ?_
          rw [show ((i + 1 : Nat) : Int) - 1 = (i : Int) by omega, er, ed, i3_lt0 (by omega) (by omega), hR 17 (by decide), i3_le (by omega) (by omega) (by omega) (by omega), i3_add, show (i : Int) + -1 = (i : Int) - 1 by omega, i3_in (by omega) (by omega), i3_n (by omega) (by omega), show ((i : Nat) : Int).toNat = i by omega, tb.2.2]
          refine ⟨fun z => by omega, fun _ => ⟨fun z => sb (Or.inl z), fun z => ⟨by omega, ?_⟩⟩⟩
          rw [i3_eq0 (by omega) (by omega)]
          simp only [i3_add]
          rw [i3_in (by omega) (by omega), i3_in (by omega) (by omega), i3_n (by omega) (by omega), i3_n (by omega) (by omega), show (24 + ((i / 2 : Nat) : Int)).toNat = 24 + i / 2 by omega, show (18 + ((i / 2 : Nat) : Int)).toNat = 18 + i / 2 by omega, hR _ (by omega), hR _ (by omega), i3_eq (by omega) (by omega) (by omega) (by omega), i3_eq (by omega) (by omega) (by omega) (by omega)]
          refine ⟨fun o => ⟨by omega, fun e => sg (fun b => ?_), fun e => sb (Or.inr ?_)⟩, fun o => ⟨by omega, fun e => sg (fun b => ?_), fun e => sb (Or.inr ?_)⟩⟩
          · rcases b with b | b
            · exact z b
            · rw [if_neg (by omega)] at b; exact b e
          · rw [if_neg (by omega)]; exact e
          · rcases b with b | b
            · exact z b
            · rw [if_pos (by omega)] at b; exact b e
          · rw [if_pos (by omega)]; exact e
      have := key n 0 (by omega)
      rw [i3_sub]
      exact this
    · rw [if_neg (by omega), if_neg (by omega)] at h
      exact h SI ht FI.rf
def cornerA (F : Nat → Int) (i w : Int) : Int := if 0 ≤ i ∧ i < nC F ∧ 0 ≤ w ∧ w ≤ 1 then (if w = 0 then cx F i.toNat else cy F i.toNat) else -1
theorem sp_corner {Q : Int32 → gj_I → gj_J → Prop} {a b : Int32} (hR : RF F SI) (hW : Wc F) (i w : Int) (hi : -2147483648 ≤ i ∧ i < 2147483648) (hw : -2147483648 ≤ w ∧ w < 2147483648) (ha : a = i3 i) (hb : b = i3 w) (h : Q (i3 (cornerA F i w)) SI SJ) : DoI E 275 [(.ref 81), (.int a), (.int b)] SI SJ Q := by
  subst ha; subst hb
  obtain ⟨m1, m2, m3⟩ := hW.n
  unfold cornerA at h
  refine st_275 _ _ SI SJ (sp_corners hR ?_)
  rw [m3, i3_sub, i3_64 (by omega) (by omega), i3_64 (by omega) (by omega)]
  refine sp_in (by omega) (by omega) (by omega) (by omega) (by omega) (by omega) ⟨fun c => ?_, fun c => ?_⟩
  · rw [ib_0] at c; rw [if_neg (by omega)] at h; exact h
  · rw [ib_0, Decidable.not_not] at c
    rw [i3_64 (by omega) (by omega)]
    refine sp_in (by omega) (by omega) (by omega) (by omega) (by omega) (by omega) ⟨fun d => ?_, fun d => ?_⟩
    · rw [ib_0] at d; rw [if_neg (by omega)] at h; exact h
    · rw [ib_0, Decidable.not_not] at d
      rw [if_pos (by omega)] at h
      simp only [i3_add]
      rw [i3_eq0 (by omega) (by omega), i3_in (by omega) (by omega), i3_in (by omega) (by omega), i3_n (by omega) (by omega), i3_n (by omega) (by omega), hR _ (by omega), hR _ (by omega)]
      have em : i.toNat % nC F = i.toNat := Nat.mod_eq_of_lt (by omega)
      refine ⟨fun z => ⟨by omega, ?_⟩, fun z => ⟨by omega, ?_⟩⟩
      · rw [if_neg z] at h; unfold cy at h; rw [em] at h
        rw [show (9 + i).toNat = 9 + i.toNat by omega]; exact h
      · rw [if_pos z] at h; unfold cx at h; rw [em] at h
        rw [show (1 + i).toNat = 1 + i.toNat by omega]; exact h
def edgeA (F : Nat → Int) (e w : Int) : Int := if 0 ≤ e ∧ e < nC F then (if w = 0 ∨ w = 3 then ax F e.toNat else if w = 1 then ay F e.toNat else if w = 2 then -ay F e.toNat else if w = 4 then stp F e.toNat else -9000000000000000000) else -9000000000000000000
theorem sp_edge {Q : Int64 → gj_I → gj_J → Prop} {a b : Int32} (hR : RF F SI) (hW : Wp F) (e w : Int) (he : -2147483648 ≤ e ∧ e < 2147483648) (hw : -2147483648 ≤ w ∧ w < 2147483648) (ha : a = i3 e) (hb : b = i3 w) (h : Q (i6 (edgeA F e w)) SI SJ) : DoL E 276 [(.ref 81), (.int a), (.int b)] SI SJ Q := by
  subst ha; subst hb
  obtain ⟨m1, m2, m3⟩ := hW.1.n
  unfold edgeA at h
  refine st_276 _ _ SI SJ (sp_corners hR ?_)
  rw [m3, i3_sub, i3_64 (by omega) (by omega), i3_64 (by omega) (by omega)]
  refine sp_in (by omega) (by omega) (by omega) (by omega) (by omega) (by omega) ⟨fun c => ?_, fun c => ?_⟩
  · rw [ib_0, Decidable.not_not] at c
    rw [if_pos (by omega)] at h
    obtain ⟨n, hn⟩ : ∃ n : Nat, e = n := ⟨e.toNat, by omega⟩
    subst hn
    rw [show ((n : Nat) : Int).toNat = n by omega] at h
    have b1 := hW.1.a n; have b2 := hW.1.s n; have b3 := hW.2.2 n
    rw [i3_eq (by omega) (by omega) (by omega) (by omega), i3_eq (by omega) (by omega) (by omega) (by omega), i3_eq (by omega) (by omega) (by omega) (by omega), i3_eq (by omega) (by omega) (by omega) (by omega), i3_eq (by omega) (by omega) (by omega) (by omega), i3_t (by omega) (by omega)]
    refine ⟨fun z => ?_, fun z => ?_, fun z => ?_, fun z => ?_, fun z => ?_, fun z => ?_⟩
    · rw [if_pos (by omega)] at h
      refine sp_alongX hR hW.1 n (by omega) b3 rfl ?_
      rw [i3_64 (by omega) (by omega)]; exact h
    · rw [if_neg (by omega), if_pos z] at h
      refine sp_alongY hR hW.1 n (by omega) b3 rfl ?_
      rw [i3_64 (by omega) (by omega)]; exact h
    · rw [if_neg (by omega), if_neg (by omega), if_pos z] at h
      refine sp_alongY hR hW.1 n (by omega) b3 rfl ?_
      rw [i3_neg, i3_64 (by omega) (by omega)]; exact h
    · rw [if_pos (by omega)] at h
      refine sp_alongX hR hW.1 n (by omega) b3 rfl ?_
      rw [i3_64 (by omega) (by omega)]; exact h
    · rw [if_neg (by omega), if_neg (by omega), if_neg (by omega), if_pos z] at h
      refine sp_stepsOf hR hW.1 n (by omega) rfl ?_
      rw [i3_64 (by omega) (by omega)]; exact h
    · rw [if_neg (by omega), if_neg (by omega), if_neg (by omega), if_neg (by omega)] at h; exact h
  · rw [ib_0] at c
    rw [if_neg (by omega)] at h; exact h
end Ask
