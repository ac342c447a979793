/-! 74: the reference's frees: rows put in order -/
def vlt (a b : V3) : Prop := a.1 < b.1 ∨ (a.1 = b.1 ∧ (a.2.1 < b.2.1 ∨ (a.2.1 = b.2.1 ∧ a.2.2 < b.2.2)))
abbrev Fr : Type := Nat × (Nat → V3)
noncomputable def atF (s : Fr) (p : V3) : Nat := fst (fun i => ¬ vlt (s.2 i) p) id s.1 0 s.1
def putV (s : Fr) (a : Nat) (p : V3) : Fr := (s.1 + 1, fun k => if k < a then s.2 k else if k = a then p else s.2 (k - 1))
noncomputable def insF (s : Fr) (p : V3) : Fr := ic (atF s p < s.1 ∧ s.2 (atF s p) = p) s (putV s (atF s p) p)
def oins (s : Fr) (o : Option V3) (f : Fr → V3 → Fr) : Fr := match o with
  | none => s
  | some p => f s p
noncomputable def frsI (W : Nat → V3) (n i : Nat) (s : Fr) : Fr := forN (fun j s => oins s (frP W n i j) insF) (i + 1) (n - (i + 1)) s
noncomputable def frs (W : Nat → V3) (n : Nat) : Fr := forN (frsI W n) 0 n (0, fun _ => (0, 0, 0))
def RFr (s : Fr) (SI : gj_I) (SJ : gj_J) : Prop := SI 81 37 = i3 s.1 ∧ ∀ k, k < s.1 → SJ 97 k = i6 (s.2 k).1 ∧ SJ 98 k = i6 (s.2 k).2.1 ∧ SJ 99 k = i6 (s.2 k).2.2
def WFr (s : Fr) : Prop := ∀ k, k < s.1 → Pb (s.2 k)
def LIf (o k : Nat) : Prop := o = 81 ∧ k = 37
def LJf (o _k : Nat) : Prop := o = 97 ∨ o = 98 ∨ o = 99
theorem ins_n (s : Fr) (p : V3) : (insF s p).1 ≤ s.1 + 1 := by
  unfold insF
  by_cases q : atF s p < s.1 ∧ s.2 (atF s p) = p
  · rw [ic_t q]; omega
  · rw [ic_f q]; exact Nat.le_refl _
theorem put_w {s : Fr} {a : Nat} {p : V3} (h : WFr s) (ha : a ≤ s.1) (hp : Pb p) : WFr (putV s a p) := by
  intro k hk
  have hk' : k < s.1 + 1 := hk
  show Pb (if k < a then s.2 k else if k = a then p else s.2 (k - 1))
  split
  · exact h k (by omega)
  · split
    · exact hp
    · exact h (k - 1) (by omega)
theorem atF_le (s : Fr) (p : V3) : atF s p ≤ s.1 := by
  unfold atF
  have : ∀ (d i : Nat), i + d = s.1 → fst (fun i => ¬ vlt (s.2 i) p) id s.1 i d ≤ s.1 := by
    intro d
    induction d with
    | zero => intro i hi; exact Nat.le_refl _
    | succ d ih =>
      intro i hi
      by_cases q : ¬ vlt (s.2 i) p
      · rw [fst_t q]; show i ≤ s.1; omega
      · rw [fst_f q]; exact ih (i + 1) (by omega)
  exact this s.1 0 (by omega)
theorem ins_w {s : Fr} {p : V3} (h : WFr s) (hp : Pb p) : WFr (insF s p) := by
  unfold insF
  by_cases q : atF s p < s.1 ∧ s.2 (atF s p) = p
  · rw [ic_t q]; exact h
  · rw [ic_f q]; exact put_w h (atF_le s p) hp
section Ins
variable {E : gj_E} {SI : gj_I} {SJ : gj_J} {F : Nat → Int} {W : Nat → V3} {O : Nat → Int} {n : Nat}
theorem sp_against {Q : Int32 → gj_I → gj_J → Prop} {a : Int32} (s : Fr) (p : V3) (hs : RFr s SI SJ) (hw : WFr s) (hP : PS p SJ) (hb : Pb p) (k : Nat) (hk : k < s.1) (h70 : s.1 ≤ 70) (ha : a = i3 k) (h : ∀ v : Int, (vlt (s.2 k) p ∧ v = -1) ∨ (¬ vlt (s.2 k) p ∧ s.2 k = p ∧ v = 0) ∨ (¬ vlt (s.2 k) p ∧ s.2 k ≠ p ∧ v = 1) → Q (i3 v) SI SJ) : DoI E 246 [(.ref 81), (.int a)] SI SJ Q := by
  subst ha
  obtain ⟨q0, q1⟩ := hs
  obtain ⟨x1, x2, x3⟩ := q1 k hk
  obtain ⟨w1, w2, w3⟩ := hw k hk
  obtain ⟨s1, s2, s3⟩ := hP
  obtain ⟨b1, b2, b3⟩ := hb
  refine st_246 _ SI SJ ?_
  rw [i3_in (by omega) (by omega), i3_n (by omega) (by omega), show ((k : Nat) : Int).toNat = k by omega, x1, x2, x3, s1, s2, s3]
  rw [i6_eq (by omega) (by omega) (by omega) (by omega), i6_eq (by omega) (by omega) (by omega) (by omega), i6_eq (by omega) (by omega) (by omega) (by omega), ge_iff_le, ge_iff_le, ge_iff_le, i6_le (by omega) (by omega) (by omega) (by omega), i6_le (by omega) (by omega) (by omega) (by omega), i6_le (by omega) (by omega) (by omega) (by omega)]
  generalize s.2 k = x at *
  obtain ⟨u1, u2, u3⟩ := x
  obtain ⟨p1, p2, p3⟩ := p
  have ne : ¬ (u1 = p1 ∧ u2 = p2 ∧ u3 = p3) → (u1, u2, u3) ≠ (p1, p2, p3) := fun z y => by
    have e1 : u1 = p1 := congrArg (fun t => t.1) y
    have e2 : u2 = p2 := congrArg (fun t => t.2.1) y
    have e3 : u3 = p3 := congrArg (fun t => t.2.2) y
    exact z ⟨e1, e2, e3⟩
  unfold vlt at h
  dsimp only at *
  refine ⟨by omega, fun c => ⟨fun d => ⟨fun g => ⟨fun t => ?_, fun t => ?_⟩, fun g => ?_⟩, fun d => ⟨fun t => ?_, fun t => ?_⟩⟩, fun c => ⟨fun t => ?_, fun t => ?_⟩⟩
  · exact h 1 (Or.inr (Or.inr ⟨by omega, ne (by omega), rfl⟩))
  · exact h (-1) (Or.inl ⟨by omega, rfl⟩)
  · exact h 0 (Or.inr (Or.inl ⟨by omega, by rw [c, d, g], rfl⟩))
  · exact h 1 (Or.inr (Or.inr ⟨by omega, ne (by omega), rfl⟩))
  · exact h (-1) (Or.inl ⟨by omega, rfl⟩)
  · exact h 1 (Or.inr (Or.inr ⟨by omega, ne (by omega), rfl⟩))
  · exact h (-1) (Or.inl ⟨by omega, rfl⟩)
theorem sp_shift {Q : gj_I → gj_J → Prop} (s : Fr) (p : V3) (a : Nat) (ha : a ≤ s.1) (h70 : s.1 < 70) (hw : WFr s) (hP : PS p SJ) (h : ∀ SI' SJ', FI LIf SI SI' → FJ LJf SJ SJ' → RFr (putV s a p) SI' SJ' → Q SI' SJ') (h37 : SI 81 37 = i3 s.1) : ∀ (d : Nat) (B : gj_J), FJ LJf SJ B → a + d ≤ s.1 → (∀ k, k < s.1 + 1 → (k < a + d → B 97 k = i6 (s.2 k).1 ∧ B 98 k = i6 (s.2 k).2.1 ∧ B 99 k = i6 (s.2 k).2.2) ∧ (a + d < k → B 97 k = i6 (s.2 (k - 1)).1 ∧ B 98 k = i6 (s.2 (k - 1)).2.1 ∧ B 99 k = i6 (s.2 (k - 1)).2.2)) → GoV E mt_247 47 [some (.ref 81), some (.int (i3 a)), some (.int (i3 ((a + d : Nat) : Int)))] SI B Q := by
  obtain ⟨s1, s2, s3⟩ := hP
  intro d
  induction d with
  | zero =>
    intro B f hd hk
    have t1 : B 81 9 = i6 p.1 := by rw [f 81 9 (by unfold LJf; omega)]; exact s1
    have t2 : B 81 10 = i6 p.2.1 := by rw [f 81 10 (by unfold LJf; omega)]; exact s2
    have t3 : B 81 11 = i6 p.2.2 := by rw [f 81 11 (by unfold LJf; omega)]; exact s3
    refine lp_247_47 _ _ SI B ⟨fun _ => ⟨by rw [i3_in (by omega) (by omega)]; omega, ?_⟩, fun c => ?_⟩
    · rw [i3_n (by omega) (by omega), show ((a : Nat) : Int).toNat = a by omega, h37, i3_add, t1, t2, t3]
      refine h _ _ (FI.rf.u ⟨rfl, rfl⟩) (((f.w (Or.inl rfl)).w (Or.inr (Or.inl rfl))).w (Or.inr (Or.inr rfl))) ⟨u2_s, fun k hk2 => ?_⟩
      have hk2' : k < s.1 + 1 := hk2
      obtain ⟨q1, q2⟩ := hk k hk2'
      show _ = i6 (if k < a then s.2 k else if k = a then p else s.2 (k - 1)).1 ∧ _ = i6 (if k < a then s.2 k else if k = a then p else s.2 (k - 1)).2.1 ∧ _ = i6 (if k < a then s.2 k else if k = a then p else s.2 (k - 1)).2.2
      by_cases e : k = a
      · subst e
        rw [if_neg (Nat.lt_irrefl k), if_pos rfl, w2_n (by omega), w2_n (by omega), w2_s, w2_n (by omega), w2_s, w2_s]
        exact ⟨rfl, rfl, rfl⟩
      · rw [w2_n (by omega), w2_n (by omega), w2_n (by omega), w2_n (by omega), w2_n (by omega), w2_n (by omega), w2_n (by omega), w2_n (by omega), w2_n (by omega)]
        by_cases e2 : k < a
        · rw [if_pos e2]; exact q1 (by omega)
        · rw [if_neg e2, if_neg e]; exact q2 (by omega)
    · rw [i3_le (by omega) (by omega) (by omega) (by omega)] at c; omega
  | succ d ih =>
    intro B f hd hk
    refine lp_247_47 _ _ SI B ⟨fun c => ?_, fun c => ?_⟩
    · rw [i3_le (by omega) (by omega) (by omega) (by omega)] at c; omega
    · rw [i3_sub, i3_add, i3_in (by omega) (by omega), i3_in (by omega) (by omega), i3_n (by omega) (by omega), i3_n (by omega) (by omega), show (((a + (d + 1) : Nat) : Int) - 1).toNat = a + d by omega, show (((a + (d + 1) : Nat) : Int)).toNat = a + (d + 1) by omega, show ((a + (d + 1) : Nat) : Int) + -1 = ((a + d : Nat) : Int) by omega]
      obtain ⟨y1, y2, y3⟩ := (hk (a + d) (by omega)).1 (by omega)
      rw [y1, y2, y3]
      refine ⟨by omega, by omega, ih _ (((f.w (Or.inl rfl)).w (Or.inr (Or.inl rfl))).w (Or.inr (Or.inr rfl))) (by omega) (fun k hk2 => ⟨fun q => ?_, fun q => ?_⟩)⟩
      · rw [w2_n (by omega), w2_n (by omega), w2_n (by omega), w2_n (by omega), w2_n (by omega), w2_n (by omega), w2_n (by omega), w2_n (by omega), w2_n (by omega)]
        exact (hk k hk2).1 (by omega)
      · by_cases e : k = a + (d + 1)
        · subst e
          rw [w2_n (by omega), w2_n (by omega), w2_s, w2_n (by omega), w2_s, w2_s, show a + (d + 1) - 1 = a + d by omega]
          exact ⟨rfl, rfl, rfl⟩
        · rw [w2_n (by omega), w2_n (by omega), w2_n (by omega), w2_n (by omega), w2_n (by omega), w2_n (by omega), w2_n (by omega), w2_n (by omega), w2_n (by omega)]
          exact (hk k hk2).2 (by omega)
theorem sp_comesFree {Q : gj_I → gj_J → Prop} (s : Fr) (p : V3) (hs : RFr s SI SJ) (hw : WFr s) (hP : PS p SJ) (hb : Pb p) (h70 : s.1 < 70) (h : ∀ SI' SJ', FI LIf SI SI' → FJ LJf SJ SJ' → RFr (insF s p) SI' SJ' → Q SI' SJ') : DoV E 247 [(.ref 81)] SI SJ Q := by
  refine st_247 SI SJ ?_
  have h37 := hs.1
  have sh : ∀ a, a ≤ s.1 → atF s p = a → ¬ (a < s.1 ∧ s.2 a = p) → GoV E mt_247 47 [some (.ref 81), some (.int (i3 (a : Nat))), some (.int (i3 s.1))] SI SJ Q := by
    intro a ha e hne
    have ei : insF s p = putV s a p := by unfold insF; rw [e, ic_f hne]
    rw [ei] at h
    have := sp_shift (E := E) (Q := Q) s p a ha h70 hw hP h h37 (s.1 - a) SJ FJ.rf (by omega) (fun k hk => ⟨fun q => hs.2 k (by omega), fun q => by omega⟩)
    rw [show a + (s.1 - a) = s.1 by omega] at this
    exact this
  refine up_lp (α := Unit) (P := fun i _ A B => A = SI ∧ B = SJ ∧ atF s p = fst (fun i => ¬ vlt (s.2 i) p) id s.1 i (s.1 - i)) (G := fun i _ A B => GoV E mt_247 2 [some (.ref 81), some (.int (i3 i)), none] A B Q) s.1 ?_ ?_ 0 () SI SJ (by omega) ⟨rfl, rfl, rfl⟩
  · rintro _ A B ⟨rfl, rfl, e⟩
    rw [Nat.sub_self] at e
    have e' : atF s p = s.1 := e
    refine lp_247_2 _ A B ⟨fun _ => ⟨fun _ => by rw [h37]; exact sh s.1 (Nat.le_refl _) e' (by omega), fun c => ?_⟩, fun c => ?_⟩
    · rw [h37, i3_le (by omega) (by omega) (by omega) (by omega)] at c; omega
    · rw [h37, i3_le (by omega) (by omega) (by omega) (by omega)] at c; omega
  · rintro i _ A B hi ⟨rfl, rfl, e⟩ ih
    rw [show s.1 - i = (s.1 - (i + 1)) + 1 by omega] at e
    refine lp_247_2 _ A B ⟨fun c => ?_, fun _ => ?_⟩
    · rw [h37, i3_le (by omega) (by omega) (by omega) (by omega)] at c; omega
    · refine sp_against s p hs hw hP hb i hi (by omega) rfl (fun v hv => ⟨fun c => ⟨fun c2 => ?_, fun _ => ?_⟩, fun c => ?_⟩)
      · rw [h37, i3_le (by omega) (by omega) (by omega) (by omega)] at c2; omega
      · have hv0 : ¬ vlt (s.2 i) p := by
          rcases hv with ⟨y, z⟩ | ⟨y, z⟩ | ⟨y, z⟩
          · rw [z, i3_0le (by omega) (by omega)] at c; omega
          · exact y
          · exact y
        have e' : atF s p = i := by rw [e, fst_t hv0]; rfl
        refine sp_against s p hs hw hP hb i hi (by omega) rfl (fun v hv => ⟨fun c3 => ?_, fun c3 => ?_⟩)
        · rw [h37]
          refine sh i (by omega) e' (fun z => ?_)
          rcases hv with ⟨y, -⟩ | ⟨y, z2, z3⟩ | ⟨y, z2, z3⟩
          · exact hv0 y
          · rw [z3] at c3; exact c3 rfl
          · exact z2 z.2
        · have ep : s.2 i = p := by
            rcases hv with ⟨y, z⟩ | ⟨y, z2, z3⟩ | ⟨y, z2, z3⟩
            · exact absurd y hv0
            · exact z2
            · rw [z3] at c3; exact absurd c3 (by decide)
          have ei : insF s p = s := by unfold insF; rw [e', ic_t ⟨hi, ep⟩]
          rw [ei] at h
          exact h A B FI.rf FJ.rf hs
      · have hv1 : vlt (s.2 i) p := by
          rcases hv with ⟨y, z⟩ | ⟨y, z2, z3⟩ | ⟨y, z2, z3⟩
          · exact y
          · rw [z3] at c; exact absurd (by decide) c
          · rw [z3] at c; exact absurd (by decide) c
        rw [i3_add]
        exact ih () A B ⟨rfl, rfl, by rw [e, fst_f (fun z => z hv1)]⟩
end Ins
