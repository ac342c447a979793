/-! 38: rank and firmness in the reference -/
def ctF (F : Nat → Int) (i : Nat) : Nat × Int := ((F (18 + i)).toNat, F (24 + i))
/-- fingers are at places -/
def Wn (F : Nat → Int) : Prop := 0 ≤ F 17 ∧ F 17 ≤ 6 ∧ ∀ i : Nat, (i : Int) < F 17 → 0 ≤ F (18 + i) ∧ F (18 + i) < nC F ∧ 1 ≤ F (24 + i) ∧ F (24 + i) < stp F (F (18 + i)).toNat
def nf (F : Nat → Int) : Nat := (F 17).toNat
def crs (a b : V3) : V3 := (a.2.1 * b.2.2 - a.2.2 * b.2.1, a.2.2 * b.1 - a.1 * b.2.2, a.1 * b.2.1 - a.2.1 * b.1)
def dot (p w : V3) : Int := p.1 * w.1 + p.2.1 * w.2.1 + p.2.2 * w.2.2
def neg3 (p : V3) : V3 := (-p.1, -p.2.1, -p.2.2)
def PS (p : V3) (SJ : gj_J) : Prop := SJ 81 9 = i6 p.1 ∧ SJ 81 10 = i6 p.2.1 ∧ SJ 81 11 = i6 p.2.2
def LPx (o k : Nat) : Prop := o = 81 ∧ (k = 9 ∨ k = 10 ∨ k = 11)
def Pb (p : V3) : Prop := p.1.natAbs ≤ 150000 ∧ p.2.1.natAbs ≤ 150000 ∧ p.2.2.natAbs ≤ 10000
def inS (s n i : Nat) : Prop := i < n ∧ s.testBit i = true
def R1 (n s : Nat) : Prop := ∃ i, inS s n i
def R2 (W : Nat → V3) (n s : Nat) : Prop := ∃ i j, i < j ∧ inS s n i ∧ inS s n j ∧ crs (W i) (W j) ≠ (0, 0, 0)
def R3 (W : Nat → V3) (n s : Nat) : Prop := ∃ i j k, i < j ∧ inS s n i ∧ inS s n j ∧ inS s n k ∧ crs (W i) (W j) ≠ (0, 0, 0) ∧ dot (crs (W i) (W j)) (W k) ≠ 0
def rkI (W : Nat → V3) (n s : Nat) (r : Int) : Prop := (r = 3 ∧ R3 W n s) ∨ (¬ R3 W n s ∧ ((r = 2 ∧ R2 W n s) ∨ (¬ R2 W n s ∧ ((r = 1 ∧ R1 n s) ∨ (r = 0 ∧ ¬ R1 n s)))))
theorem rkI_ex (W : Nat → V3) (n s : Nat) : ∃ r, rkI W n s r ∧ 0 ≤ r ∧ r ≤ 3 := by
  by_cases h3 : R3 W n s
  · exact ⟨3, Or.inl ⟨rfl, h3⟩, by omega, by omega⟩
  · by_cases h2 : R2 W n s
    · exact ⟨2, Or.inr ⟨h3, Or.inl ⟨rfl, h2⟩⟩, by omega, by omega⟩
    · by_cases h1 : R1 n s
      · exact ⟨1, Or.inr ⟨h3, Or.inr ⟨h2, Or.inl ⟨rfl, h1⟩⟩⟩, by omega, by omega⟩
      · exact ⟨0, Or.inr ⟨h3, Or.inr ⟨h2, Or.inr ⟨rfl, h1⟩⟩⟩, by omega, by omega⟩
theorem rkI_un {W : Nat → V3} {n s : Nat} {a b : Int} (h1 : rkI W n s a) (h2 : rkI W n s b) : a = b := by
  unfold rkI at h1 h2; grind
/-- firm, by the reference's own test -/
def firm (W : Nat → V3) (n s : Nat) : Prop := R3 W n s ∧ ∀ i j, i < j → inS s n i → inS s n j → crs (W i) (W j) ≠ (0, 0, 0) → (∃ k, inS s n k ∧ 0 < dot (crs (W i) (W j)) (W k)) ∧ ∃ k, inS s n k ∧ dot (crs (W i) (W j)) (W k) < 0
theorem crs_b {W : Nat → V3} {n i j : Nat} (h : Wb W n) (hi : i < n) (hj : j < n) : Pb (crs (W i) (W j)) := by
  obtain ⟨a1, a2, a3⟩ := h i hi
  obtain ⟨b1, b2, b3⟩ := h j hj
  have h1 := mul_b a2 b3; have h2 := mul_b a3 b2; have h3 := mul_b a3 b1; have h4 := mul_b a1 b3; have h5 := mul_b a1 b2; have h6 := mul_b a2 b1
  unfold Pb crs; dsimp only; omega
theorem dot_b {W : Nat → V3} {n k : Nat} {p : V3} (h : Wb W n) (hk : k < n) (hp : Pb p) : (dot p (W k)).natAbs ≤ 30000000 := by
  obtain ⟨a1, a2, a3⟩ := h k hk
  obtain ⟨b1, b2, b3⟩ := hp
  have h1 := mul_b b1 a1; have h2 := mul_b b2 a2; have h3 := mul_b b3 a3
  unfold dot; omega
theorem dot_neg (p w : V3) : dot (neg3 p) w = -dot p w := by unfold dot neg3; grind
section Firm
variable {E : gj_E} {SI : gj_I} {SJ : gj_J} {F : Nat → Int} {W : Nat → V3} {O : Nat → Int} {n : Nat}
theorem LW.f {SJ' : gj_J} (h : LW W O n SI SJ) (hf : FJ LPx SJ SJ') : LW W O n SI SJ' := ⟨h.1, fun j hj => by
  obtain ⟨h1, h2, h3, h4⟩ := h.2 j hj
  rw [hf 85 j (by unfold LPx; omega), hf 86 j (by unfold LPx; omega), hf 87 j (by unfold LPx; omega)]
  exact ⟨h1, h2, h3, h4⟩⟩
theorem Wn.c {i : Nat} (h : Wn F) (hW : Wc F) (hi : i < nf F) : (ctF F i).1 < nC F ∧ 0 ≤ (ctF F i).2 ∧ (ctF F i).2 ≤ 9 ∧ F (18 + i) = ((ctF F i).1 : Int) := by
  obtain ⟨h1, h2, h3⟩ := h
  unfold nf at hi
  obtain ⟨a, b, c, d⟩ := h3 i (by omega)
  have := hW.s (F (18 + i)).toNat
  unfold ctF; dsimp only; omega
theorem sp_lays {Q : gj_I → gj_J → Prop} (hR : RF F SI) (hW : Wp F) (hT : Wt F) (hN : Wn F) (h : ∀ SI' SJ', FI LI1 SI SI' → FJ LJ1 SJ SJ' → LW (Wl F (ctF F)) (fun j => ((j / fc F : Nat) : Int)) (nf F * fc F) SI' SJ' → Q SI' SJ') : DoV E 184 [(.ref 81)] SI SJ Q := by
  have hF17 : F 17 = nf F := by unfold nf; have := hN.1; omega
  have hf6 : nf F ≤ 6 := by have := hN.2.1; omega
  refine st_184 SI SJ ?_
  have key : ∀ (d i : Nat) (A : gj_I) (B : gj_J), i + d = nf F → FI LI1 SI A → FJ LJ1 SJ B → LW (Wl F (ctF F)) (fun j => ((j / fc F : Nat) : Int)) (i * fc F) A B → GoV E mt_184 7 [some (.ref 81), some (.int (i3 i))] A B Q := by
    intro d
    induction d with
    | zero =>
      intro i A B hi f1 f2 hL
      have hR2 : RF F A := hR.f f1 (fun k z => by rcases z with z | z <;> omega)
      refine lp_184_7 _ A B ⟨fun _ => ?_, fun c => ?_⟩
      · rw [show i = nf F by omega] at hL; exact h A B f1 f2 hL
      · rw [hR2 17 (by decide), hF17, i3_le (by omega) (by omega) (by omega) (by omega)] at c; omega
    | succ d ih =>
      intro i A B hi f1 f2 hL
      have hR2 : RF F A := hR.f f1 (fun k z => by rcases z with z | z <;> omega)
      obtain ⟨c1, c2, c3, c4⟩ := hN.c hW.1 (i := i) (by omega)
      have n8 := hW.1.n.2.1
      refine lp_184_7 _ A B ⟨fun c => ?_, fun c => ?_⟩
      · rw [hR2 17 (by decide), hF17, i3_le (by omega) (by omega) (by omega) (by omega)] at c; omega
      · simp only [i3_add]
        rw [i3_in (by omega) (by omega), i3_in (by omega) (by omega), i3_n (by omega) (by omega), i3_n (by omega) (by omega), show ((18 : Int) + (i : Int)).toNat = 18 + i by omega, show ((24 : Int) + (i : Int)).toNat = 24 + i by omega, hR2 _ (by omega), hR2 _ (by omega)]
        refine ⟨by omega, by omega, sp_comesFinger (O := fun i => (i : Int)) hR2 hW hT i (by omega) ⟨c2, c3⟩ (by omega) hL (i3_c c4) rfl rfl (fun A' B' g1 g2 hL2 => ?_)⟩
        exact ih (i + 1) A' B' (by omega) (f1.tr g1) (f2.tr g2) hL2
  refine key (nf F) 0 _ _ (by omega) (FI.rf.u (Or.inr ⟨rfl, rfl⟩)) FJ.rf ⟨by rw [u2_s]; simp, fun j hj => by omega⟩
theorem sp_all {Q : Int32 → gj_I → gj_J → Prop} (hL : SI 81 8 = i3 n) (hn : n ≤ 14) (h : Q (i3 ((2 ^ n - 1 : Nat) : Int)) SI SJ) : DoI E 185 [(.ref 81)] SI SJ Q := by
  refine st_185 SI SJ ?_
  rw [hL, i3_shl (by omega), i3_sub]
  have : 1 ≤ 2 ^ n := Nat.one_le_two_pow
  rw [show ((2 ^ n : Nat) : Int) - 1 = ((2 ^ n - 1 : Nat) : Int) by omega]
  exact h
theorem sp_crosses {Q : gj_I → gj_J → Prop} {a b : Int32} (hL : LW W O n SI SJ) (hn : n ≤ 16) (i j : Nat) (hi : i < n) (hj : j < n) (ha : a = i3 i) (hb : b = i3 j) (h : ∀ SJ', FJ LPx SJ SJ' → PS (crs (W i) (W j)) SJ' → Q SI SJ') : DoV E 187 [(.ref 81), (.int a), (.int b)] SI SJ Q := by
  subst ha; subst hb
  obtain ⟨x1, x2, x3, -⟩ := hL.2 i hi
  obtain ⟨y1, y2, y3, -⟩ := hL.2 j hj
  refine st_187 _ _ SI SJ ?_
  rw [i3_in (by omega) (by omega), i3_in (by omega) (by omega), i3_n (by omega) (by omega), i3_n (by omega) (by omega), show ((i : Int)).toNat = i by omega, show ((j : Int)).toNat = j by omega, x1, x2, x3, y1, y2, y3]
  simp only [i6_mul, i6_sub]
  refine ⟨by omega, by omega, h _ (((FJ.rf.w ⟨rfl, Or.inl rfl⟩).w ⟨rfl, Or.inr (Or.inl rfl)⟩).w ⟨rfl, Or.inr (Or.inr rfl)⟩) ⟨?_, ?_, ?_⟩⟩
  · rw [w2_n (by omega), w2_n (by omega), w2_s]; rfl
  · rw [w2_n (by omega), w2_s]; rfl
  · rw [w2_s]; rfl
theorem sp_isNothing {Q : Int32 → gj_I → gj_J → Prop} {p : V3} (hP : PS p SJ) (hb : Pb p) (h : Q (ibc (p = (0, 0, 0))) SI SJ) : DoI E 188 [(.ref 81)] SI SJ Q := by
  obtain ⟨h1, h2, h3⟩ := hP
  obtain ⟨b1, b2, b3⟩ := hb
  refine st_188 SI SJ ?_
  rw [h1, h2, h3, i6_eq (by omega) (by omega) (by omega) (by omega), i6_eq (by omega) (by omega) (by omega) (by omega), i6_eq (by omega) (by omega) (by omega) (by omega)]
  refine ⟨fun c => ?_, fun c => ⟨fun c2 => ?_, fun c2 => ⟨fun c3 => ?_, fun c3 => ?_⟩⟩⟩
  · rw [ibc_f (fun z => c (by rw [z]))] at h; exact h
  · rw [ibc_f (fun z => c2 (by rw [z]))] at h; exact h
  · rw [ibc_f (fun z => c3 (by rw [z]))] at h; exact h
  · rw [ibc_t (show p = (0, 0, 0) by obtain ⟨p1, p2, p3⟩ := p; simp only at c c2 c3; rw [c, c2, c3])] at h; exact h
theorem sp_makes {Q : Int64 → gj_I → gj_J → Prop} {p : V3} {a : Int32} (hL : LW W O n SI SJ) (hn : n ≤ 16) (hP : PS p SJ) (j : Nat) (hj : j < n) (ha : a = i3 j) (h : Q (i6 (dot p (W j))) SI SJ) : DoL E 191 [(.ref 81), (.int a)] SI SJ Q := by
  subst ha
  obtain ⟨h1, h2, h3⟩ := hP
  obtain ⟨y1, y2, y3, -⟩ := hL.2 j hj
  refine st_191 _ SI SJ ?_
  rw [i3_in (by omega) (by omega), i3_n (by omega) (by omega), show ((j : Int)).toNat = j by omega, y1, y2, y3, h1, h2, h3]
  simp only [i6_mul, i6_add]
  exact ⟨by omega, h⟩
theorem sp_turnsRow {Q : gj_I → gj_J → Prop} {p : V3} (hP : PS p SJ) (h : ∀ SJ', FJ LPx SJ SJ' → PS (neg3 p) SJ' → Q SI SJ') : DoV E 190 [(.ref 81)] SI SJ Q := by
  obtain ⟨h1, h2, h3⟩ := hP
  refine st_190 SI SJ ?_
  rw [h1, h2, h3]
  simp only [i6_neg]
  refine h _ (((FJ.rf.w ⟨rfl, Or.inl rfl⟩).w ⟨rfl, Or.inr (Or.inl rfl)⟩).w ⟨rfl, Or.inr (Or.inr rfl)⟩) ⟨?_, ?_, ?_⟩
  · rw [w2_n (by omega), w2_n (by omega), w2_s]; rfl
  · rw [w2_n (by omega), w2_s]; rfl
  · rw [w2_s]; rfl
theorem sp_makesNoMore {Q : Int32 → gj_I → gj_J → Prop} {p : V3} {a : Int32} (hL : LW W O n SI SJ) (hn : n ≤ 14) (hB : Wb W n) (hP : PS p SJ) (hb : Pb p) (s : Nat) (hs : s < 2147483648) (ha : a = i3 s) (h : Q (ibc (∀ k, inS s n k → dot p (W k) ≤ 0)) SI SJ) : DoI E 192 [(.ref 81), (.int a)] SI SJ Q := by
  subst ha
  refine st_192 _ SI SJ ?_
  have key : ∀ (d i : Nat), i + d = n → (∀ k, k < i → inS s n k → dot p (W k) ≤ 0) → GoI E mt_192 2 [some (.ref 81), some (.int (i3 s)), some (.int (i3 i))] SI SJ Q := by
    intro d
    induction d with
    | zero =>
      intro i hi hk
      refine lp_192_2 _ _ SI SJ ⟨fun _ => ?_, fun c => ?_⟩
      · rw [ibc_t (fun k hk2 => hk k (by have := hk2.1; omega) hk2)] at h; exact h
      · rw [hL.1, i3_le (by omega) (by omega) (by omega) (by omega)] at c; omega
    | succ d ih =>
      intro i hi hk
      have hd := dot_b hB (k := i) (by omega) hb
      refine lp_192_2 _ _ SI SJ ⟨fun c => ?_, fun c => ?_⟩
      · rw [hL.1, i3_le (by omega) (by omega) (by omega) (by omega)] at c; omega
      · rw [i3_add, show (i : Int) + 1 = ((i + 1 : Nat) : Int) by omega]
        refine sp_has hs (by omega) ?_
        rw [ib_0]
        refine ⟨fun q => ?_, fun q => ?_⟩
        · refine ih (i + 1) (by omega) (fun k h1 h2 => ?_)
          rcases Nat.lt_or_ge k i with z | z
          · exact hk k z h2
          · have : k = i := by omega
            subst this; exact absurd h2.2 q
        · rw [Decidable.not_not] at q
          refine sp_makes hL (by omega) hP i (by omega) rfl ?_
          rw [i6_le (by omega) (by omega) (by omega) (by omega)]
          refine ⟨fun q2 => ?_, fun q2 => ?_⟩
          · refine ih (i + 1) (by omega) (fun k h1 h2 => ?_)
            rcases Nat.lt_or_ge k i with z | z
            · exact hk k z h2
            · have : k = i := by omega
              subst this; exact q2
          · rw [ibc_f (fun z => q2 (z i ⟨by omega, q⟩))] at h; exact h
  exact key n 0 (by omega) (fun k hk => by omega)
end Firm
