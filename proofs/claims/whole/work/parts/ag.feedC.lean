/-! ag: feed, check of the class -/
section FeedC
variable {E : gj_E} {SI : gj_I} {SJ : gj_J} {F : Nat → Int} {T : Nat → Int}
theorem CNT.same {A : gj_I} {L : Nat → Nat → Prop} (h : CNT F SI SJ) (f : FI L SI A) (hl : ∀ o k, (3 ≤ o ∧ o ≤ 15) ∨ (42 ≤ o ∧ o ≤ 51) ∨ o = 65 ∨ (o = 0 ∧ (k = 12 ∨ k = 13)) → ¬ L o k) : CNT F A SJ :=
  ⟨h.1.f f (fun o k h1 h2 => hl o k (by omega)), h.2.1.same f ⟨⟨hl _ _ (by omega), hl _ _ (by omega), hl _ _ (by omega)⟩, fun k => ⟨hl _ _ (by omega), hl _ _ (by omega), hl _ _ (by omega)⟩⟩, h.2.2.same f (fun k => hl _ _ (by omega))⟩
/-- cells of the tape -/
def LCT (o k : Nat) : Prop := (o = 1 ∧ (k = 1 ∨ k = 2 ∨ k = 3)) ∨ o = 2
theorem sp_append {Q : gj_I → gj_J → Prop} {v : Int32} (hT : CT T SI) (p : Nat) (hp : p + 4 ≤ 240) (ht : SI 1 1 = i3 p) (h : ∀ SI', CT (typ T p v) SI' → SI' 1 1 = i3 ((p + 4 : Nat) : Int) → FI LCT SI SI' → Q SI' SJ) : DoV E 68 [(.ref 1), (.int v)] SI SJ Q := by
  refine st_68 _ SI SJ ?_
  have key : ∀ (d i : Nat) (A : gj_I), i + d = 4 → CT (tpd T p v i) A → A 1 1 = i3 ((p + i : Nat) : Int) → FI LCT SI A → GoV E mt_68 3 [some (.ref 1), some (.int v), some (.int (i3 (24 - 8 * (i : Int))))] A SJ Q := by
    intro d
    induction d with
    | zero =>
      intro i A hi hA h13 f
      have e4 : i = 4 := by omega
      subst e4
      refine lp_68_3 _ _ A SJ ⟨fun _ => h A hA h13 f, fun q => absurd (by decide) q⟩
    | succ d ih =>
      intro i A hi hA h13 f
      refine lp_68_3 _ _ A SJ ⟨fun q => ?_, fun q => ?_⟩
      · rw [i3_lt0 (by omega) (by omega)] at q; omega
      · rw [h13, i3_le (by omega) (by omega) (by omega) (by omega), i3_in (by omega) (by omega), i3_n (by omega) (by omega), i3_add, i3_add, show ((p + i : Nat) : Int).toNat = p + i by omega]
        refine ⟨fun z => by omega, fun _ => ⟨by omega, ?_⟩⟩
        have := ih (i + 1) (gj_u2 (gj_u2 A 2 (p + i) ((v >>> ((i3 (24 - 8 * (i : Int))) &&& 31)) &&& i3 255)) 1 1 (i3 (((p + i : Nat) : Int) + 1))) (by omega) (fun k hk => ?_) (by rw [u2_s]; rfl) ((f.u (Or.inr rfl)).u (Or.inl ⟨rfl, Or.inl rfl⟩))
        · rw [show 24 - 8 * (i : Int) + -8 = 24 - 8 * ((i + 1 : Nat) : Int) by omega]; exact this
        · rw [u2_n (by omega)]
          by_cases e : k = p + i
          · subst e
            rw [u2_s, tpd_p (by omega)]
            have b := and255 (v >>> ((i3 (24 - 8 * (i : Int))) &&& 31))
            have e3 : byt v (p + 3 - (p + i)) = ((v >>> ((i3 (24 - 8 * (i : Int))) &&& 31)) &&& i3 255).toInt := by
              unfold byt; rw [i3_mul, show 8 * ((p + 3 - (p + i) : Nat) : Int) = 24 - 8 * (i : Int) by omega]
            rw [e3]
            exact ⟨b.1, b.2, (Int32.ofInt_toInt _).symm⟩
          · rw [u2_n (by omega)]
            have a := hA k hk
            by_cases z : p ≤ k ∧ k < p + i
            · rw [tpd_p z] at a; rw [tpd_p (by omega)]; exact a
            · rw [tpd_n z] at a; rw [tpd_n (by omega)]; exact a
  have := key 4 0 SI (by omega) (fun k hk => by rw [tpd_n (by omega)]; exact hT k hk) (by rw [ht]; rfl) FI.rf
  exact this
theorem sp_feedC {Q : Int32 → gj_I → gj_J → Prop} {a b c d e : Int32} (tp : Int) (hT : CTp T tp SI) (h : ∀ SI', CTp (feedT T tp a b c d e) (feedN tp) SI' → FI LCT SI SI' → Q (i3 (feedA tp)) SI' SJ) : DoI E 91 [(.ref 0), (.int a), (.int b), (.int c), (.int d), (.int e)] SI SJ Q := by
  obtain ⟨hT, ht, t1, t2⟩ := hT
  refine st_91 _ _ _ _ _ SI SJ ?_
  unfold feedT feedA feedN at h
  rw [ht, i3_add, i3_le (by omega) (by omega) (by omega) (by omega)]
  refine ⟨fun q => ?_, fun q => ?_⟩
  · rw [if_pos q, if_pos q, if_pos q] at h
    refine sp_append hT tp.toNat (by omega) (by rw [ht]; exact i3_c (by omega)) (fun A1 t1 p1 f1 => ?_)
    refine sp_append t1 (tp.toNat + 4) (by omega) p1 (fun A2 t2 p2 f2 => ?_)
    refine sp_append t2 (tp.toNat + 8) (by omega) p2 (fun A3 t3 p3 f3 => ?_)
    refine sp_append t3 (tp.toNat + 12) (by omega) p3 (fun A4 t4 p4 f4 => ?_)
    refine sp_append t4 (tp.toNat + 16) (by omega) p4 (fun A5 t5 p5 f5 => ?_)
    have e5 : A5 1 1 = i3 (tp + 20) := by rw [p5]; exact i3_c (by omega)
    rw [e5]
    exact h A5 ⟨t5, e5, by omega, by omega⟩ ((((f1.tr f2).tr f3).tr f4).tr f5)
  · rw [if_neg q, if_neg q, if_neg q] at h
    exact h SI ⟨hT, ht, t1, t2⟩ FI.rf
theorem sp_checkC {Q : Int32 → gj_I → gj_J → Prop} {a : Int32} (hN : NS3 F SI) (hG : Wg F) (tp : Int) (hT : CTp T tp SI) (x : Int) (xr : -2147483648 ≤ x ∧ x < 2147483648) (ha : a = i3 x) (h : ∀ SI', CTp T (checkN tp x) SI' → FI LCT SI SI' → Q (i3 (checkA F T tp x)) SI' SJ) : DoI E 98 [(.ref 0), (.int a)] SI SJ Q := by
  subst ha
  have hT0 := hT
  obtain ⟨hT, ht, t1, t2⟩ := hT
  obtain ⟨-, -, hf, -, -⟩ := hN
  obtain ⟨g1, g2, g3⟩ := hG
  unfold checkA checkN at h
  refine st_98 _ SI SJ (sp_offersC tp x 0 12 xr (by decide) (by decide) ht ⟨t1, t2⟩ rfl rfl rfl ⟨fun q => ?_, fun q => ?_⟩)
  · rw [ib_0, Decidable.not_not] at q
    rw [if_pos q, if_pos q] at h
    obtain ⟨n, hn⟩ : ∃ n : Nat, x = n := ⟨x.toNat, by omega⟩
    subst hn
    rw [show ((n : Nat) : Int).toNat = n by omega] at h
    have fin : ∀ r : Int, r = ckL F T 0 n → DoV E 71 [(.ref 1)] SI SJ (fun SI6 SJ6 => Q (i3 r) SI6 SJ6) := by
      intro r hr
      refine sp_wipe hT (fun A f hA => ?_)
      rw [hr]
      exact h A hA (f.le (fun o k z => Or.inl z))
    refine st_99 _ SI SJ ?_
    have loop : ∀ (d i : Nat), i + d = n → ckL F T i d = ckL F T 0 n → GoI E mt_99 2 [some (.ref 0), some (.int (i3 (n : Nat))), some (.int (i3 (i : Nat))), none, none] SI SJ (fun r3 SI4 SJ4 => DoV E 71 [(.ref 1)] SI4 SJ4 (fun SI6 SJ6 => Q r3 SI6 SJ6)) := by
      intro d
      induction d with
      | zero =>
        intro i hi e
        refine lp_99_2 _ _ SI SJ ⟨fun _ => fin (-1) e, fun z => ?_⟩
        rw [i3_le (by omega) (by omega) (by omega) (by omega)] at z; omega
      | succ d ih =>
        intro i hi e
        have sb : bad F T i → DoV E 71 [(.ref 1)] SI SJ (fun SI6 SJ6 => Q (i3 (i : Nat)) SI6 SJ6) := fun b => fin i (by rw [← e]; exact (if_pos b).symm)
        have sg : ¬ bad F T i → GoI E mt_99 2 [some (.ref 0), some (.int (i3 (n : Nat))), some (.int (i3 ((i : Int) + 1))), none, none] SI SJ (fun r3 SI4 SJ4 => DoV E 71 [(.ref 1)] SI4 SJ4 (fun SI6 SJ6 => Q r3 SI6 SJ6)) := fun b => ih (i + 1) (by omega) (by rw [← e]; exact (if_neg b).symm)
        have b1 := g3 (i / 2) (by omega)
        have tb := hT i (by omega)
        have er : i3 (i : Int) - i3 (i : Int) / i3 2 * i3 2 = i3 ((i % 2 : Nat) : Int) := i3_remN (a := i) (b := 2) (by omega) (by omega) (by omega)
        have ed : i3 (i : Int) / i3 2 = i3 ((i / 2 : Nat) : Int) := i3_divN (a := i) (b := 2) (by omega) (by omega) (by omega)
        refine lp_99_2 _ _ SI SJ ?_
        rw [er, ed, hf.1, i3_le (by omega) (by omega) (by omega) (by omega), i3_lt (by omega) (by omega) (by omega) (by omega), i3_add, i3_in (by omega) (by omega), i3_in (by omega) (by omega), i3_n (by omega) (by omega), i3_n (by omega) (by omega), show ((i : Nat) : Int).toNat = i by omega, show ((i / 2 : Nat) : Int).toNat = i / 2 by omega, tb.2.2, i3_eq0 (by omega) (by omega)]
        refine ⟨fun z => by omega, fun _ => ⟨fun z => ?_, fun z => sb (Or.inl (by omega))⟩⟩
        obtain ⟨s1, s2⟩ := hf.2.1 (i / 2) z
        rw [s1, s2, i3_eq (by omega) (by omega) (by omega) (by omega), i3_eq (by omega) (by omega) (by omega) (by omega)]
        refine ⟨fun o => ⟨by omega, by omega, fun e => sg (fun b => ?_), fun e => sb (Or.inr ?_)⟩, fun o => ⟨by omega, by omega, fun e => sg (fun b => ?_), fun e => sb (Or.inr ?_)⟩⟩
        · rcases b with b | b
          · omega
          · rw [if_neg (by omega)] at b; exact b e
        · rw [if_neg (by omega)]; exact e
        · rcases b with b | b
          · omega
          · rw [if_pos (by omega)] at b; exact b e
        · rw [if_pos (by omega)]; exact e
    exact loop n 0 (by omega) rfl
  · rw [ib_0] at q
    rw [if_neg q, if_neg q] at h
    exact h SI hT0 FI.rf
end FeedC
