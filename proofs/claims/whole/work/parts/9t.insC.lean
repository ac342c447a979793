/-! 9t: a push put in order among those found: class -/
def RFc (s : Fr) (SI : gj_I) (SJ : gj_J) : Prop := SI 61 3 = i3 s.1 ∧ ∀ k, k < s.1 → SJ 62 k = i6 (s.2 k).1 ∧ SJ 63 k = i6 (s.2 k).2.1 ∧ SJ 64 k = i6 (s.2 k).2.2
def LIfc (o k : Nat) : Prop := o = 61 ∧ k = 3
def LJfc (o _k : Nat) : Prop := o = 62 ∨ o = 63 ∨ o = 64
section InsC
variable {E : gj_E} {SI : gj_I} {SJ : gj_J} {F : Nat → Int} {W : Nat → V3} {O : Nat → Int} {n : Nat}
theorem sp_compareWith {Q : Int32 → gj_I → gj_J → Prop} {a : Int32} (s : Fr) (p : V3) (hs : RFc s SI SJ) (hw : WFr s) (hP : CA p SJ) (hb : Pb p) (k : Nat) (hk : k < s.1) (h14 : s.1 ≤ 14) (ha : a = i3 k) (h : ∀ v : Int, (vlt (s.2 k) p ∧ v = 1) ∨ (¬ vlt (s.2 k) p ∧ s.2 k = p ∧ v = 0) ∨ (¬ vlt (s.2 k) p ∧ s.2 k ≠ p ∧ v = -1) → Q (i3 v) SI SJ) : DoI E 51 [(.ref 61), (.int a)] SI SJ Q := by
  subst ha
  obtain ⟨q0, q1⟩ := hs
  obtain ⟨x1, x2, x3⟩ := q1 k hk
  obtain ⟨w1, w2, w3⟩ := hw k hk
  obtain ⟨s1, s2, s3⟩ := hP
  obtain ⟨b1, b2, b3⟩ := hb
  refine st_51 _ SI SJ ?_
  rw [i3_in (by omega) (by omega), i3_n (by omega) (by omega), show ((k : Nat) : Int).toNat = k by omega, x1, x2, x3, s1, s2, s3]
  rw [i6_eq (by omega) (by omega) (by omega) (by omega), i6_eq (by omega) (by omega) (by omega) (by omega)]
  generalize s.2 k = x at *
  obtain ⟨u1, u2, u3⟩ := x
  obtain ⟨p1, p2, p3⟩ := p
  have ne : ¬ (u1 = p1 ∧ u2 = p2 ∧ u3 = p3) → (u1, u2, u3) ≠ (p1, p2, p3) := fun z y => by
    have e1 : u1 = p1 := congrArg (fun t => t.1) y
    have e2 : u2 = p2 := congrArg (fun t => t.2.1) y
    have e3 : u3 = p3 := congrArg (fun t => t.2.2) y
    exact z ⟨e1, e2, e3⟩
  unfold vlt at h
  dsimp only at *
  refine ⟨by omega, fun c => ⟨fun d => sp_lcompare _ _ (by omega) (by omega) (by omega) (by omega) rfl rfl ?_, fun d => sp_lcompare _ _ (by omega) (by omega) (by omega) (by omega) rfl rfl ?_⟩, fun c => sp_lcompare _ _ (by omega) (by omega) (by omega) (by omega) rfl rfl ?_⟩
  · by_cases t : p3 < u3
    · rw [if_pos t]; exact h (-1) (Or.inr (Or.inr ⟨by omega, ne (by omega), rfl⟩))
    · rw [if_neg t]
      by_cases t2 : p3 = u3
      · rw [if_pos t2]; exact h 0 (Or.inr (Or.inl ⟨by omega, by rw [c, d, t2], rfl⟩))
      · rw [if_neg t2]; exact h 1 (Or.inl ⟨by omega, rfl⟩)
  · by_cases t : p2 < u2
    · rw [if_pos t]; exact h (-1) (Or.inr (Or.inr ⟨by omega, ne (by omega), rfl⟩))
    · rw [if_neg t, if_neg d]; exact h 1 (Or.inl ⟨by omega, rfl⟩)
  · by_cases t : p1 < u1
    · rw [if_pos t]; exact h (-1) (Or.inr (Or.inr ⟨by omega, ne (by omega), rfl⟩))
    · rw [if_neg t, if_neg c]; exact h 1 (Or.inl ⟨by omega, rfl⟩)
theorem sp_shiftC {Q : gj_I → gj_J → Prop} (s : Fr) (p : V3) (a : Nat) (ha : a ≤ s.1) (h70 : s.1 < 14) (hw : WFr s) (hP : CA p SJ) (h : ∀ SI' SJ', FI LIfc SI SI' → FJ LJfc SJ SJ' → RFc (putV s a p) SI' SJ' → Q SI' SJ') (h37 : SI 61 3 = i3 s.1) : ∀ (d : Nat) (B : gj_J), FJ LJfc SJ B → a + d ≤ s.1 → (∀ k, k < s.1 + 1 → (k < a + d → B 62 k = i6 (s.2 k).1 ∧ B 63 k = i6 (s.2 k).2.1 ∧ B 64 k = i6 (s.2 k).2.2) ∧ (a + d < k → B 62 k = i6 (s.2 (k - 1)).1 ∧ B 63 k = i6 (s.2 (k - 1)).2.1 ∧ B 64 k = i6 (s.2 (k - 1)).2.2)) → GoV E mt_52 55 [some (.ref 61), some (.int (i3 a)), some (.int (i3 ((a + d : Nat) : Int)))] SI B Q := by
  obtain ⟨s1, s2, s3⟩ := hP
  intro d
  induction d with
  | zero =>
    intro B f hd hk
    have t1 : B 61 7 = i6 p.1 := by rw [f 61 7 (by unfold LJfc; omega)]; exact s1
    have t2 : B 61 8 = i6 p.2.1 := by rw [f 61 8 (by unfold LJfc; omega)]; exact s2
    have t3 : B 61 9 = i6 p.2.2 := by rw [f 61 9 (by unfold LJfc; omega)]; exact s3
    refine lp_52_55 _ _ SI B ⟨fun _ => ⟨by rw [i3_in (by omega) (by omega)]; omega, ?_⟩, fun c => ?_⟩
    · rw [i3_n (by omega) (by omega), show ((a : Nat) : Int).toNat = a by omega, h37, i3_add, t1, t2, t3]
      refine h _ _ (FI.rf.u ⟨rfl, rfl⟩) (((f.w (Or.inl rfl)).w (Or.inr (Or.inl rfl))).w (Or.inr (Or.inr rfl))) ⟨u2_s, fun k hk2 => ?_⟩
      have hk2' : k < s.1 + 1 := hk2
      obtain ⟨q1, q2⟩ := hk k hk2'
      show _ = i6 (if k < a then s.2 k else if k = a then p else s.2 (k - 1)).1 ∧ _ = i6 (if k < a then s.2 k else if k = a then p else s.2 (k - 1)).2.1 ∧ _ = i6 (if k < a then s.2 k else if k = a then p else s.2 (k - 1)).2.2
      by_cases e : k = a
      · subst e
        rw [if_neg (Nat.lt_irrefl k), if_pos rfl, w2_n (by omega), w2_n (by omega), w2_s, w2_n (by omega), w2_s, w2_s]
        exact ⟨rfl, rfl, rfl⟩
      · rw [w2_n (by omega), w2_n (by omega), w2_n (by omega), w2_n (by omega), w2_n (by omega), w2_n (by omega), w2_n (by omega), w2_n (by omega), w2_n (by omega)]
        by_cases e2 : k < a
        · rw [if_pos e2]; exact q1 (by omega)
        · rw [if_neg e2, if_neg e]; exact q2 (by omega)
    · rw [i3_le (by omega) (by omega) (by omega) (by omega)] at c; omega
  | succ d ih =>
    intro B f hd hk
    refine lp_52_55 _ _ SI B ⟨fun c => ?_, fun c => ?_⟩
    · rw [i3_le (by omega) (by omega) (by omega) (by omega)] at c; omega
    · rw [i3_sub, i3_add, i3_in (by omega) (by omega), i3_in (by omega) (by omega), i3_n (by omega) (by omega), i3_n (by omega) (by omega), show (((a + (d + 1) : Nat) : Int) - 1).toNat = a + d by omega, show (((a + (d + 1) : Nat) : Int)).toNat = a + (d + 1) by omega, show ((a + (d + 1) : Nat) : Int) + -1 = ((a + d : Nat) : Int) by omega]
      obtain ⟨y1, y2, y3⟩ := (hk (a + d) (by omega)).1 (by omega)
      rw [y1, y2, y3]
      refine ⟨by omega, by omega, ih _ (((f.w (Or.inl rfl)).w (Or.inr (Or.inl rfl))).w (Or.inr (Or.inr rfl))) (by omega) (fun k hk2 => ⟨fun q => ?_, fun q => ?_⟩)⟩
      · rw [w2_n (by omega), w2_n (by omega), w2_n (by omega), w2_n (by omega), w2_n (by omega), w2_n (by omega), w2_n (by omega), w2_n (by omega), w2_n (by omega)]
        exact (hk k hk2).1 (by omega)
      · by_cases e : k = a + (d + 1)
        · subst e
          rw [w2_n (by omega), w2_n (by omega), w2_s, w2_n (by omega), w2_s, w2_s, show a + (d + 1) - 1 = a + d by omega]
          exact ⟨rfl, rfl, rfl⟩
        · rw [w2_n (by omega), w2_n (by omega), w2_n (by omega), w2_n (by omega), w2_n (by omega), w2_n (by omega), w2_n (by omega), w2_n (by omega), w2_n (by omega)]
          exact (hk k hk2).2 (by omega)
theorem sp_insertC {Q : gj_I → gj_J → Prop} (s : Fr) (p : V3) (hs : RFc s SI SJ) (hw : WFr s) (hP : CA p SJ) (hb : Pb p) (h14 : s.1 < 14) (h : ∀ SI' SJ', FI LIfc SI SI' → FJ LJfc SJ SJ' → RFc (insF s p) SI' SJ' → Q SI' SJ') : DoV E 52 [(.ref 61)] SI SJ Q := by
  refine st_52 SI SJ ?_
  have h37 := hs.1
  have sh : ∀ a, a ≤ s.1 → atF s p = a → ¬ (a < s.1 ∧ s.2 a = p) → GoV E mt_52 55 [some (.ref 61), some (.int (i3 (a : Nat))), some (.int (i3 s.1))] SI SJ Q := by
    intro a ha e hne
    have ei : insF s p = putV s a p := by unfold insF; rw [e, ic_f hne]
    rw [ei] at h
    have := sp_shiftC (E := E) (Q := Q) s p a ha h14 hw hP h h37 (s.1 - a) SJ FJ.rf (by omega) (fun k hk => ⟨fun q => hs.2 k (by omega), fun q => by omega⟩)
    rw [show a + (s.1 - a) = s.1 by omega] at this
    exact this
  refine up_lp (α := Unit) (P := fun i _ A B => A = SI ∧ B = SJ ∧ atF s p = fst (fun i => ¬ vlt (s.2 i) p) id s.1 i (s.1 - i)) (G := fun i _ A B => GoV E mt_52 2 [some (.ref 61), some (.int (i3 i)), none] A B Q) s.1 ?_ ?_ 0 () SI SJ (by omega) ⟨rfl, rfl, rfl⟩
  · rintro _ A B ⟨rfl, rfl, e⟩
    rw [Nat.sub_self] at e
    have e' : atF s p = s.1 := e
    refine lp_52_2 _ A B ⟨fun _ => ⟨fun c => ?_, fun _ => ⟨fun _ => ?_, fun c => ?_⟩⟩, fun c => ?_⟩
    · rw [h37, i3_le (by omega) (by omega) (by omega) (by omega)] at c; omega
    · rw [h37]; exact sh s.1 (Nat.le_refl _) e' (fun z => absurd z.1 (Nat.lt_irrefl _))
    · rw [h37, i3_le (by omega) (by omega) (by omega) (by omega)] at c; omega
    · rw [h37, i3_le (by omega) (by omega) (by omega) (by omega)] at c; omega
  · rintro i _ A B hi ⟨rfl, rfl, e⟩ ih
    rw [show s.1 - i = (s.1 - (i + 1)) + 1 by omega] at e
    refine lp_52_2 _ A B ⟨fun c => ?_, fun c => sp_compareWith s p hs hw hP hb i hi (by omega) rfl (fun v hv => ⟨fun d => ?_, fun d => ?_⟩)⟩
    · rw [h37, i3_le (by omega) (by omega) (by omega) (by omega)] at c; omega
    · have nv : ¬ vlt (s.2 i) p := by
        rcases hv with ⟨-, rfl⟩ | ⟨z, -⟩ | ⟨z, -⟩
        · exact absurd d (by decide)
        · exact z
        · exact z
      have ea : atF s p = i := by rw [e]; exact fst_t nv
      refine ⟨fun c2 => ?_, fun _ => ⟨fun c2 => ?_, fun _ => sp_compareWith s p hs hw hP hb i hi (by omega) rfl (fun v hv => ⟨fun g => ?_, fun g => ?_⟩)⟩⟩
      · rw [h37, i3_le (by omega) (by omega) (by omega) (by omega)] at c2; omega
      · rw [h37, i3_le (by omega) (by omega) (by omega) (by omega)] at c2; omega
      · rw [h37]
        refine sh i (by omega) ea (fun z => ?_)
        rcases hv with ⟨y, -⟩ | ⟨-, -, rfl⟩ | ⟨-, y, -⟩
        · exact nv y
        · exact g rfl
        · exact y z.2
      · have eq : s.2 i = p := by
          rcases hv with ⟨-, rfl⟩ | ⟨-, y, -⟩ | ⟨-, -, rfl⟩
          · exact absurd g (by decide)
          · exact y
          · exact absurd g (by decide)
        have ei : insF s p = s := by unfold insF; rw [ea, ic_t ⟨hi, eq⟩]
        rw [ei] at h
        exact h A B FI.rf FJ.rf hs
    · have yv : vlt (s.2 i) p := by
        rcases hv with ⟨y, -⟩ | ⟨-, -, rfl⟩ | ⟨-, -, rfl⟩
        · exact y
        · exact absurd (by decide) d
        · exact absurd (by decide) d
      rw [i3_add]
      refine ih () A B ⟨rfl, rfl, ?_⟩
      rw [e]; exact fst_f (fun z => z yv)
end InsC
