/-! 9c: the class's hold: seek -/
def RV (r : V3) (SJ : gj_J) : Prop := SJ 55 9 = i6 r.1 ∧ SJ 55 10 = i6 r.2.1 ∧ SJ 55 11 = i6 r.2.2
def MK (S : Nat → Nat → Prop) (W : Nat → V3) (n : Nat) (r : V3) (SJ : gj_J) : Prop := ∀ i j, i < j → j < n → S i j → SJ 60 (cpl i j) = i6 (dot r (crs (W i) (W j)))
def LIk (o k : Nat) : Prop := o = 58 ∨ (o = 55 ∧ (k = 5 ∨ k = 8))
def LJk (o k : Nat) : Prop := o = 59 ∨ o = 60 ∨ (o = 55 ∧ (k = 6 ∨ k = 7))
section Seek
variable {E : gj_E} {SI : gj_I} {SJ : gj_J} {W : Nat → V3} {O : Nat → Int} {n : Nat} {r : V3}
theorem LIH_k {A B : gj_I} (h : FI LIH A B) : FI LIk A B := h
theorem LJH_k {A B : gj_J} (h : FJ LJH A B) : FJ LJk A B := h.le (fun o k z => by unfold LJH at z; unfold LJk; omega)
theorem LB42.k {A : gj_I} {B : gj_J} (h : LB42 W O n SI SJ) (f : FI LIk SI A) (g : FJ LJk SJ B) : LB42 W O n A B := h.f f g ⟨by unfold LIk; omega, fun k => by unfold LIk; omega⟩ (fun k => by unfold LJk; omega)
theorem PB42.k {A : gj_I} {B : gj_J} (h : PB42 W n SI SJ) (f : FI LIk SI A) (g : FJ LJk SJ B) : PB42 W n A B := CB42.f h f g (fun k => by unfold LIk; omega) (fun k => by unfold LJk; omega)
theorem RV.k {B : gj_J} (h : RV r SJ) (g : FJ LJk SJ B) : RV r B := by
  unfold RV
  rw [g 55 9 (by unfold LJk; omega), g 55 10 (by unfold LJk; omega), g 55 11 (by unfold LJk; omega)]; exact h
theorem RH.m {b : Option Cd} {B : gj_J} (h : RH b SI SJ) (g : FJ (fun o _ => o = 60) SJ B) : RH b SI B := by
  cases b with
  | none => exact h
  | some c =>
    obtain ⟨g1, g2, L, S, g3, g4, g5, g6, g7, g8⟩ := h
    refine ⟨g1, g2, L, S, by rw [g 55 6 (by omega)]; exact g3, by rw [g 55 7 (by omega)]; exact g4, g5, g6, g7, fun k hk => ?_⟩
    obtain ⟨k1, p, k2, k3⟩ := g8 k hk
    exact ⟨k1, p, by rw [g 59 k (by omega)]; exact k2, k3⟩
theorem sp_seekOnes {Q : gj_I → gj_J → Prop} (hL : LB42 W O n SI SJ) (hn : n ≤ 14) (hB : Wb W n) (hZ : ∀ j, j < n → ¬ ((W j).1 = 0 ∧ (W j).2.1 = 0)) (hr : Rb r) (hV : RV r SJ) (hb : RH none SI SJ) (h : ∀ SI' SJ', FI LIk SI SI' → FJ LJk SJ SJ' → RH (hs1 W n r) SI' SJ' → WB (hs1 W n r) → Q SI' SJ') : DoV E 17 [(.ref 55), (.ref 42)] SI SJ Q := by
  refine st_17 SI SJ ?_
  obtain ⟨r1, r2, r3⟩ := hr
  refine for_lp (f := hA1 W r) (n := n) (R := fun _ b A B => FI LIk SI A ∧ FJ LJk SJ B ∧ RH b A B ∧ WB b) (G := fun i _ A B => GoV E mt_17 2 [some (.ref 55), some (.ref 42), some (.int (i3 (i : Nat))), none, none, none, none, none, none, none, none, none, none] A B Q) ?_ n 0 none SI SJ (by omega) ⟨FI.rf, FJ.rf, hb, trivial⟩ ?_
  · rintro i b A B hi ⟨g1, g2, g3, g4⟩ ih
    have hLA := hL.k g1 g2
    obtain ⟨v1, v2, v3⟩ := hV.k g2
    obtain ⟨x1, x2, x3, -⟩ := hLA.2 i hi
    obtain ⟨b1, b2, b3⟩ := hB i hi
    have hz := hZ i hi
    have okk := ok1_iff (r := r) hz
    have ihk : hA1 W r i b = ic (ok1 W r i) (stepB b (cd1 W r i)) b := rfl
    rw [ihk] at ih
    have skip : ¬ ok1 W r i → GoV E mt_17 2 [some (.ref 55), some (.ref 42), some (.int (i3 ((i : Int) + 1))), none, none, none, none, none, none, none, none, none, none] A B Q := by
      intro q
      rw [ic_f q] at ih
      exact ih A B ⟨g1, g2, g3, g4⟩
    refine lp_17_2 _ A B ⟨fun q => ?_, fun q => ?_⟩
    · rw [hLA.1, i3_le (by omega) (by omega) (by omega) (by omega)] at q; omega
    · obtain ⟨P, hP⟩ : ∃ P : Int → Int → Prop, ∀ u l, P u l = DoI E 21 [(.ref 55), (.int (i3 1)), (.long (i6 u)), (.long (i6 0)), (.long (i6 0)), (.long (i6 l))] A B (fun r1 SI2 SJ2 => (r1 = 0 → GoV E mt_17 2 [some (.ref 55), some (.ref 42), some (.int (i3 ((i : Int) + 1))), none, none, none, none, none, none, none, none, none, none] SI2 SJ2 Q) ∧ (¬ r1 = 0 → DoV E 22 [(.ref 55), (.int (i3 (i : Nat))), (.int (i3 0)), (.int (i3 0))] SI2 SJ2 (fun SI4 SJ4 => GoV E mt_17 2 [some (.ref 55), some (.ref 42), some (.int (i3 ((i : Int) + 1))), none, none, none, none, none, none, none, none, none, none] SI4 SJ4 Q))) := ⟨_, fun _ _ => rfl⟩
      have leaf : oc1 (W i) r → ∀ u l, raw1 (W i) r = (l, u) → l ≠ 0 → P u l := by
        intro hoc u l er l0
        rw [hP]
        have lub : u.natAbs ≤ 40000 ∧ l.natAbs ≤ 60 := by
          unfold raw1 at er
          split at er
          · have e1 : (W i).2.1 = l := congrArg Prod.fst er
            have e2 : r.2.1 = u := congrArg Prod.snd er
            rw [← e1, ← e2]; exact ⟨r2, b2⟩
          · have e1 : (W i).1 = l := congrArg Prod.fst er
            have e2 : r.1 = u := congrArg Prod.snd er
            rw [← e1, ← e2]; exact ⟨r1, b1⟩
        have ec : cd1 W r i = (1, (i, 0, 0), (l.sign * u, 0, 0), l.sign * l) := by
          unfold cd1; rw [er]; dsimp only; rw [stn_sg l0, stn_sg l0]
        rw [er] at okk
        refine sp_hstep b (cd1 W r i) (ok1 W r i) u 0 0 l i 0 0 g3 g4 (by omega) (by decide) (by decide) (by omega) (by rw [ec]; exact ⟨Nat.le_refl 1, by dsimp only; decide⟩) ⟨fun _ => ⟨rfl, rfl⟩, fun _ => rfl⟩ ?_ ?_ (by rw [ec]) (by rw [ec]; rfl) rfl rfl rfl rfl rfl rfl rfl (fun A' B' k1 k2 k3 k4 => ih A' B' ⟨g1.tr k1, g2.tr (LJH_k k2), k3, k4⟩)
        · rw [okk, ec]
          exact ⟨fun z => ⟨z.2, fun q => absurd q (by dsimp only; decide), fun q => absurd q (by dsimp only; decide)⟩, fun z => ⟨hoc, z.1⟩⟩
        · intro hp
          rw [ec]
          have hp2 := (okk.mp hp).2
          dsimp only at hp2
          have ll : 0 < l.sign * l ∧ l.sign * l ≤ 60 := by rcases sg_nz l0 with q | q <;> rw [q.1] <;> omega
          have uu : l.sign * u ≤ 40000 := by rcases sg_nz l0 with q | q <;> rw [q.1] <;> omega
          refine ⟨⟨by dsimp only; omega, ll.1, by dsimp only; omega, fun k hk => ?_⟩, rfl, fun q => absurd q (by dsimp only; decide), fun q => absurd q (by dsimp only; decide)⟩
          have : k = 0 := by dsimp only at hk; omega
          subst this
          show 0 < l.sign * u ∧ l.sign * u ≤ 40000000000
          omega
      have lf1 : oc1 (W i) r → (W i).1 ≠ 0 → P r.1 (W i).1 := fun o q => leaf o _ _ (if_neg q) q
      have lf2 : oc1 (W i) r → (W i).1 = 0 → (W i).2.1 ≠ 0 → P r.2.1 (W i).2.1 := fun o q q2 => leaf o _ _ (if_pos q) q2
      clear leaf ih
      have m1 := mul_b r2 b3; have m2 := mul_b r3 b2; have m3 := mul_b r3 b1; have m4 := mul_b r1 b3; have m5 := mul_b r1 b2; have m6 := mul_b r2 b1
      rw [i3_in (by omega) (by omega), i3_n (by omega) (by omega), show ((i : Nat) : Int).toNat = i by omega, x1, x2, x3, v1, v2, v3, i3_add]
      simp only [i6_mul]
      rw [i6_eq (by omega) (by omega) (by omega) (by omega), i6_eq (a := r.2.2 * (W i).1) (by omega) (by omega) (by omega) (by omega), i6_eq (a := r.1 * (W i).2.1) (by omega) (by omega) (by omega) (by omega), i6_eq (a := (W i).1) (by omega) (by omega) (by omega) (by omega), i6_eq (a := (W i).2.1) (by omega) (by omega) (by omega) (by omega)]
      simp only [← hP]
      clear hP
      refine ⟨by omega, fun c1 => skip (fun z => c1 (okk.mp z).1.1), fun c1 => ⟨fun c2 => skip (fun z => c2 (okk.mp z).1.2.1), fun c2 => ⟨fun c3 => ?_, fun c3 => skip (fun z => c3 (okk.mp z).1.2.2)⟩⟩⟩
      have lf1' := lf1 ⟨c1, c2, c3⟩
      have lf2' := lf2 ⟨c1, c2, c3⟩
      by_cases a0 : (W i).1 = 0
      · have b0 : (W i).2.1 ≠ 0 := fun z => hz ⟨a0, z⟩
        exact ⟨fun _ => ⟨fun z => absurd z b0, fun _ => ⟨fun _ => ⟨fun z => absurd z b0, fun _ => lf2' a0 b0⟩, fun z => absurd a0 z⟩⟩, fun z => absurd a0 z⟩
      · exact ⟨fun z => absurd z a0, fun _ => ⟨fun z => absurd z a0, fun _ => lf1' a0⟩⟩
  · rintro A B ⟨g1, g2, g3, g4⟩
    have hLA := hL.k g1 g2
    refine lp_17_2 _ A B ⟨fun _ => h A B g1 g2 g3 g4, fun q => ?_⟩
    rw [hLA.1, i3_le (by omega) (by omega) (by omega) (by omega)] at q; omega
end Seek
