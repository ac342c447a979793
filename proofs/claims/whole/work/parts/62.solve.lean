/-! 62: a push by one, two, three wrenches: the reference's solves -/
def det3 (a b c : V3) : Int := a.1 * (b.2.1 * c.2.2 - b.2.2 * c.2.1) - a.2.1 * (b.1 * c.2.2 - b.2.2 * c.1) + a.2.2 * (b.1 * c.2.1 - b.2.1 * c.1)
theorem det_dot (a b c : V3) : det3 a b c = dot a (crs b c) := by unfold det3 dot crs; dsimp only; grind
theorem dot_com (a b : V3) : dot a b = dot b a := by unfold dot; grind
/-- line, then numbers, made so that line is above 0 -/
def stn (l x : Int) : Int := if l ≤ 0 then -x else x
def ck {α : Type} (t : α × α × α) (k : Nat) : α := if k = 0 then t.1 else if k = 1 then t.2.1 else t.2.2
/-- many, rows, numbers above, line -/
abbrev Cd : Type := Nat × (Nat × Nat × Nat) × (Int × Int × Int) × Int
def sumK (t : Int × Int × Int) : Nat → Int
  | 0 => 0
  | k + 1 => sumK t k + ck t k
def sumC (c : Cd) : Int := sumK c.2.2.1 c.1
def raw1 (w r : V3) : Int × Int := if w.1 = 0 then (w.2.1, r.2.1) else (w.1, r.1)
def raw2 (a b r : V3) : Int × Int × Int := if (crs a b).2.2 = 0 then (if (crs a b).2.1 = 0 then ((crs a b).1, r.2.1 * b.2.2 - r.2.2 * b.2.1, a.2.1 * r.2.2 - a.2.2 * r.2.1) else ((crs a b).2.1, r.2.2 * b.1 - r.1 * b.2.2, a.2.2 * r.1 - a.1 * r.2.2)) else ((crs a b).2.2, r.1 * b.2.1 - r.2.1 * b.1, a.1 * r.2.1 - a.2.1 * r.1)
def cd1 (W : Nat → V3) (r : V3) (i : Nat) : Cd := (1, (i, 0, 0), (stn (raw1 (W i) r).1 (raw1 (W i) r).2, 0, 0), stn (raw1 (W i) r).1 (raw1 (W i) r).1)
def cd2 (W : Nat → V3) (r : V3) (i j : Nat) : Cd := (2, (i, j, 0), (stn (raw2 (W i) (W j) r).1 (raw2 (W i) (W j) r).2.1, stn (raw2 (W i) (W j) r).1 (raw2 (W i) (W j) r).2.2, 0), stn (raw2 (W i) (W j) r).1 (raw2 (W i) (W j) r).1)
def cd3 (W : Nat → V3) (r : V3) (i j k : Nat) : Cd := (3, (i, j, k), (stn (det3 (W i) (W j) (W k)) (det3 r (W j) (W k)), stn (det3 (W i) (W j) (W k)) (det3 (W i) r (W k)), stn (det3 (W i) (W j) (W k)) (det3 (W i) (W j) r)), stn (det3 (W i) (W j) (W k)) (det3 (W i) (W j) (W k)))
def ok1 (W : Nat → V3) (r : V3) (i : Nat) : Prop := (cd1 W r i).2.2.1.1 * (W i).1 = r.1 * (cd1 W r i).2.2.2 ∧ (cd1 W r i).2.2.1.1 * (W i).2.1 = r.2.1 * (cd1 W r i).2.2.2 ∧ (cd1 W r i).2.2.1.1 * (W i).2.2 = r.2.2 * (cd1 W r i).2.2.2 ∧ 0 < (cd1 W r i).2.2.1.1
def ok2 (W : Nat → V3) (r : V3) (i j : Nat) : Prop := crs (W i) (W j) ≠ (0, 0, 0) ∧ dot (crs (W i) (W j)) r = 0 ∧ 0 < (cd2 W r i j).2.2.1.1 ∧ 0 < (cd2 W r i j).2.2.1.2.1
def ok3 (W : Nat → V3) (r : V3) (i j k : Nat) : Prop := det3 (W i) (W j) (W k) ≠ 0 ∧ 0 < (cd3 W r i j k).2.2.1.1 ∧ 0 < (cd3 W r i j k).2.2.1.2.1 ∧ 0 < (cd3 W r i j k).2.2.1.2.2
def RPv (r : V3) (SJ : gj_J) : Prop := SJ 81 21 = i6 r.1 ∧ SJ 81 22 = i6 r.2.1 ∧ SJ 81 23 = i6 r.2.2
def Rb (r : V3) : Prop := r.1.natAbs ≤ 40000 ∧ r.2.1.natAbs ≤ 40000 ∧ r.2.2.natAbs ≤ 2000000
def CH (c : Cd) (SI : gj_I) (SJ : gj_J) : Prop := SJ 81 24 = i6 c.2.2.2 ∧ ∀ k, k < c.1 → SJ 92 k = i6 (ck c.2.2.1 k) ∧ SI 93 k = i3 ((ck c.2.1 k : Nat) : Int)
def WC (c : Cd) : Prop := c.1 ≤ 3 ∧ 0 < c.2.2.2 ∧ c.2.2.2 ≤ 30000000 ∧ ∀ k, k < c.1 → 0 < ck c.2.2.1 k ∧ ck c.2.2.1 k ≤ 40000000000
def LJs (o k : Nat) : Prop := o = 92 ∨ (o = 81 ∧ (k = 9 ∨ k = 10 ∨ k = 11 ∨ k = 24))
theorem crs_r {W : Nat → V3} {n i : Nat} {r : V3} (h : Wb W n) (hi : i < n) (hr : Rb r) : (crs (W i) r).1.natAbs ≤ 200000000 ∧ (crs (W i) r).2.1.natAbs ≤ 200000000 ∧ (crs (W i) r).2.2.natAbs ≤ 5000000 := by
  obtain ⟨a1, a2, a3⟩ := h i hi
  obtain ⟨b1, b2, b3⟩ := hr
  have h1 := mul_b a2 b3; have h2 := mul_b a3 b2; have h3 := mul_b a3 b1; have h4 := mul_b a1 b3; have h5 := mul_b a1 b2; have h6 := mul_b a2 b1
  unfold crs; dsimp only; omega
theorem dot_r {p r : V3} (hp : Pb p) (hr : Rb r) : (dot p r).natAbs ≤ 40000000000 := by
  obtain ⟨a1, a2, a3⟩ := hp
  obtain ⟨b1, b2, b3⟩ := hr
  have h1 := mul_b a1 b1; have h2 := mul_b a2 b2; have h3 := mul_b a3 b3
  unfold dot; omega
theorem stn_b {l x : Int} {m : Nat} (h : x.natAbs ≤ m) : (stn l x).natAbs ≤ m := by unfold stn; split <;> omega
theorem stn_l {l : Int} (h : l ≠ 0) : 0 < stn l l := by unfold stn; split <;> omega
section Solve
variable {E : gj_E} {SI : gj_I} {SJ : gj_J} {W : Nat → V3} {O : Nat → Int} {n : Nat} {r : V3}
theorem sp_three {Q : Int64 → gj_I → gj_J → Prop} {a1 a2 a3 b1 b2 b3 c1 c2 c3 : Int64} (a b c : V3) (h1 : a1 = i6 a.1) (h2 : a2 = i6 a.2.1) (h3 : a3 = i6 a.2.2) (h4 : b1 = i6 b.1) (h5 : b2 = i6 b.2.1) (h6 : b3 = i6 b.2.2) (h7 : c1 = i6 c.1) (h8 : c2 = i6 c.2.1) (h9 : c3 = i6 c.2.2) (h : Q (i6 (det3 a b c)) SI SJ) : DoL E 221 [(.long a1), (.long a2), (.long a3), (.long b1), (.long b2), (.long b3), (.long c1), (.long c2), (.long c3)] SI SJ Q := by
  subst h1; subst h2; subst h3; subst h4; subst h5; subst h6; subst h7; subst h8; subst h9
  refine st_221 _ _ _ _ _ _ _ _ _ SI SJ ?_
  simp only [i6_mul, i6_sub, i6_add]
  exact h
theorem sp_straightens {Q : gj_I → gj_J → Prop} (l : Int) (x : Nat → Int) (hl : -9000000000000000000 ≤ l ∧ l ≤ 9000000000000000000) (h24 : SJ 81 24 = i6 l) (h : ∀ SJ', FJ (fun o k => o = 92 ∨ (o = 81 ∧ k = 24)) SJ SJ' → SJ' 81 24 = i6 (stn l l) → (∀ k, k < 3 → SJ 92 k = i6 (x k) → SJ' 92 k = i6 (stn l (x k))) → Q SI SJ') : DoV E 222 [(.ref 81)] SI SJ Q := by
  refine st_222 SI SJ ?_
  rw [h24, i6_le (by omega) (by omega) (by omega) (by omega)]
  refine ⟨fun c => ?_, fun c => ?_⟩
  · have en : ∀ y, stn l y = -y := fun y => if_pos c
    simp only [en] at h
    refine up_lp (α := Unit) (P := fun i _ A B => A = SI ∧ FJ (fun o k => o = 92 ∨ (o = 81 ∧ k = 24)) SJ B ∧ B 81 24 = i6 (-l) ∧ ∀ k, k < 3 → SJ 92 k = i6 (x k) → B 92 k = if k < i then i6 (-x k) else i6 (x k)) (G := fun i _ A B => GoV E mt_222 21 [some (.ref 81), some (.int (i3 i))] A B Q) 3 ?_ ?_ 0 () _ _ (by omega) ⟨rfl, FJ.rf.w (Or.inr ⟨rfl, rfl⟩), by rw [w2_s, i6_neg], fun k hk e => by rw [w2_n (by omega), if_neg (by omega)]; exact e⟩
    · rintro _ A B ⟨rfl, f, e1, e2⟩
      refine lp_222_21 _ A B ⟨fun _ => ?_, fun c2 => absurd (by decide) c2⟩
      refine h B f e1 (fun k hk e => ?_)
      have := e2 k hk e
      rw [if_pos hk] at this; exact this
    · rintro i _ A B hi ⟨rfl, f, e1, e2⟩ ih
      refine lp_222_21 _ A B ⟨fun c2 => ?_, fun c2 => ⟨by rw [i3_in (by omega) (by omega)]; omega, ?_⟩⟩
      · rw [i3_le (by omega) (by omega) (by omega) (by omega)] at c2; omega
      · rw [i3_n (by omega) (by omega), i3_add, show ((i : Nat) : Int).toNat = i by omega]
        refine ih () A _ ⟨rfl, f.w (Or.inl rfl), by rw [w2_n (by omega)]; exact e1, fun k hk e => ?_⟩
        by_cases q : k = i
        · subst q
          have := e2 k hk e
          rw [if_neg (by omega)] at this
          rw [w2_s, this, i6_neg, if_pos (by omega)]
        · rw [w2_n (by omega), e2 k hk e]
          by_cases q2 : k < i
          · rw [if_pos q2, if_pos (by omega)]
          · rw [if_neg q2, if_neg (by omega)]
  · have en : ∀ y, stn l y = y := fun y => if_neg c
    simp only [en] at h
    exact h SJ FJ.rf h24 (fun k hk e => e)
theorem LW.fs {L : Nat → Nat → Prop} {SJ' : gj_J} (h : LW W O n SI SJ) (hf : FJ L SJ SJ') (hl : ∀ k, ¬ L 85 k ∧ ¬ L 86 k ∧ ¬ L 87 k) : LW W O n SI SJ' := ⟨h.1, fun j hj => by
  obtain ⟨h1, h2, h3, h4⟩ := h.2 j hj
  rw [hf 85 j (hl j).1, hf 86 j (hl j).2.1, hf 87 j (hl j).2.2]
  exact ⟨h1, h2, h3, h4⟩⟩
theorem RPv.fs {L : Nat → Nat → Prop} {SJ' : gj_J} (h : RPv r SJ) (hf : FJ L SJ SJ') (hl : ¬ L 81 21 ∧ ¬ L 81 22 ∧ ¬ L 81 23) : RPv r SJ' := by
  unfold RPv
  rw [hf 81 21 hl.1, hf 81 22 hl.2.1, hf 81 23 hl.2.2]; exact h
theorem sp_solvesOne {Q : Int32 → gj_I → gj_J → Prop} (hL : LW W O n SI SJ) (hn : n ≤ 14) (hB : Wb W n) (hZ : ∀ j, j < n → ¬ ((W j).1 = 0 ∧ (W j).2.1 = 0)) (hP : RPv r SJ) (hr : Rb r) (i : Nat) (hi : i < n) (h93 : SI 93 0 = i3 i) (h : ∀ SJ', FJ LJs SJ SJ' → (ok1 W r i → CH (cd1 W r i) SI SJ' ∧ WC (cd1 W r i)) → Q (ibc (ok1 W r i)) SI SJ') : DoI E 223 [(.ref 81)] SI SJ Q := by
  obtain ⟨x1, x2, x3, -⟩ := hL.2 i hi
  obtain ⟨p1, p2, p3⟩ := hP
  obtain ⟨b1, b2, b3⟩ := hB i hi
  obtain ⟨r1, r2, r3⟩ := hr
  have hz := hZ i hi
  refine st_223 SI SJ ?_
  rw [h93, i3_in (by omega) (by omega), i3_n (by omega) (by omega), show ((i : Nat) : Int).toNat = i by omega, x1, i6_eq (by omega) (by omega) (by omega) (by omega)]
  have main : ∀ (l u : Int) (z1 z2 : Int64), raw1 (W i) r = (l, u) → l.natAbs ≤ 60 → u.natAbs ≤ 40000 → l ≠ 0 → z1 = i6 l → z2 = i6 u → DoV E 222 [(.ref 81)] SI (gj_w2 (gj_w2 SJ 81 24 z1) 92 0 z2) (fun SI2 SJ2 => (¬ ((SJ2 92 0) * (SJ2 85 i)) = ((SJ2 81 21) * (SJ2 81 24)) → Q (i3 0) SI2 SJ2) ∧ (((SJ2 92 0) * (SJ2 85 i)) = ((SJ2 81 21) * (SJ2 81 24)) → (¬ ((SJ2 92 0) * (SJ2 86 i)) = ((SJ2 81 22) * (SJ2 81 24)) → Q (i3 0) SI2 SJ2) ∧ (((SJ2 92 0) * (SJ2 86 i)) = ((SJ2 81 22) * (SJ2 81 24)) → (¬ ((SJ2 92 0) * (SJ2 87 i)) = ((SJ2 81 23) * (SJ2 81 24)) → Q (i3 0) SI2 SJ2) ∧ (((SJ2 92 0) * (SJ2 87 i)) = ((SJ2 81 23) * (SJ2 81 24)) → ((SJ2 92 0) ≤ (i6 0) → Q (i3 0) SI2 SJ2) ∧ (¬ (SJ2 92 0) ≤ (i6 0) → Q (i3 1) SI2 SJ2))))) := by
    intro l u z1 z2 er lb ub l0 hz1 hz2
    subst hz1; subst hz2
    refine sp_straightens l (fun k => if k = 0 then u else 0) (by omega) (by rw [w2_n (by omega), w2_s]) (fun B f e1 e2 => ?_)
    have e3 := e2 0 (by omega) (by rw [w2_s]; rfl)
    have f2 : FJ LJs SJ B := (((FJ.rf.w (Or.inr ⟨rfl, Or.inr (Or.inr (Or.inr rfl))⟩)).w (Or.inl rfl)) : FJ LJs SJ _).tr (f.le (fun o k z => by unfold LJs; omega))
    rw [show (if (0 : Nat) = 0 then u else 0) = u from rfl] at e3
    have y1 : B 85 i = i6 (W i).1 := by rw [f2 85 i (by unfold LJs; omega)]; exact x1
    have y2 : B 86 i = i6 (W i).2.1 := by rw [f2 86 i (by unfold LJs; omega)]; exact x2
    have y3 : B 87 i = i6 (W i).2.2 := by rw [f2 87 i (by unfold LJs; omega)]; exact x3
    have q1 : B 81 21 = i6 r.1 := by rw [f2 81 21 (by unfold LJs; omega)]; exact p1
    have q2 : B 81 22 = i6 r.2.1 := by rw [f2 81 22 (by unfold LJs; omega)]; exact p2
    have q3 : B 81 23 = i6 r.2.2 := by rw [f2 81 23 (by unfold LJs; omega)]; exact p3
    have ec : cd1 W r i = (1, (i, 0, 0), (stn l u, 0, 0), stn l l) := by unfold cd1; rw [er]
    have hl := stn_l l0
    have hlb := stn_b (l := l) lb
    have hub := stn_b (l := l) ub
    have hh := h B f2
    unfold ok1 at hh
    rw [ec] at hh
    dsimp only at hh
    rw [e3, e1, y1, y2, y3, q1, q2, q3]
    simp only [i6_mul]
    generalize stn l u = a at *
    generalize stn l l = m at *
    have m1 := mul_b hub b1; have m2 := mul_b hub b2; have m3 := mul_b hub b3
    have m4 := mul_b r1 hlb; have m5 := mul_b r2 hlb; have m6 := mul_b r3 hlb
    rw [i6_eq (by omega) (by omega) (by omega) (by omega), i6_eq (by omega) (by omega) (by omega) (by omega), i6_eq (by omega) (by omega) (by omega) (by omega), i6_le (by omega) (by omega) (by omega) (by omega)]
    refine ⟨fun c => ?_, fun c => ⟨fun d => ?_, fun d => ⟨fun g => ?_, fun g => ⟨fun k => ?_, fun k => ?_⟩⟩⟩⟩
    · rw [ibc_f (fun z => c z.1)] at hh; exact hh (fun z => absurd z.1 c)
    · rw [ibc_f (fun z => d z.2.1)] at hh; exact hh (fun z => absurd z.2.1 d)
    · rw [ibc_f (fun z => g z.2.2.1)] at hh; exact hh (fun z => absurd z.2.2.1 g)
    · rw [ibc_f (fun z => by omega)] at hh; exact hh (fun z => by omega)
    · rw [ibc_t ⟨c, d, g, by omega⟩] at hh
      refine hh (fun _ => ⟨⟨e1, fun k hk => ?_⟩, ⟨by dsimp only; omega, hl, by dsimp only; omega, fun k hk => ?_⟩⟩)
      · have : k = 0 := by dsimp only at hk; omega
        subst this; exact ⟨e3, h93⟩
      · have : k = 0 := by dsimp only at hk; omega
        subst this; show 0 < a ∧ a ≤ 40000000000; omega
  refine ⟨by omega, fun c => ⟨fun _ => ?_, fun c2 => absurd c c2⟩, fun c => ⟨fun c2 => absurd c2 c, fun _ => ?_⟩⟩
  · exact main _ _ _ _ (if_pos c) b2 (by omega) (fun z => hz ⟨c, z⟩) x2 p2
  · exact main _ _ _ _ (if_neg c) b1 (by omega) c rfl p1
end Solve
