/-! 9v: all pushes that free: class -/
noncomputable def sk (W : Nat → V3) (n i j : Nat) (x : Option V3 × Fr) : Option V3 × Fr := (oth x.1 (frP W n i j), oins x.2 (frP W n i j) insF)
noncomputable def skI (W : Nat → V3) (n i : Nat) (x : Option V3 × Fr) : Option V3 × Fr := forN (sk W n i) (i + 1) (n - (i + 1)) x
noncomputable def skA (W : Nat → V3) (n : Nat) : Option V3 × Fr := forN (skI W n) 0 n (none, (0, fun _ => (0, 0, 0)))
def LJrl (o k : Nat) : Prop := LJfc o k ∨ LJcx o k
theorem forN_p {α β : Type} {f : Nat → α → α} {g : Nat → β → β} {π : α → β} (h : ∀ j x, π (f j x) = g j (π x)) : ∀ (d i : Nat) (x : α), π (forN f i d x) = forN g i d (π x) := by
  intro d
  induction d with
  | zero => intro i x; rfl
  | succ d ih =>
    intro i x
    show π (forN f (i + 1) d (f i x)) = forN g (i + 1) d (g i (π x))
    rw [ih, h]
theorem skI_1 (W : Nat → V3) (n i : Nat) (x : Option V3 × Fr) : (skI W n i x).1 = frI W n i x.1 := forN_p (f := sk W n i) (g := fun j o => oth o (frP W n i j)) (π := fun x : Option V3 × Fr => x.1) (fun j x => rfl) _ _ x
theorem skI_2 (W : Nat → V3) (n i : Nat) (x : Option V3 × Fr) : (skI W n i x).2 = frsI W n i x.2 := forN_p (f := sk W n i) (g := fun j s => oins s (frP W n i j) insF) (π := fun x : Option V3 × Fr => x.2) (fun j x => rfl) _ _ x
theorem skA_1 (W : Nat → V3) (n : Nat) : (skA W n).1 = frFst W n := forN_p (f := skI W n) (g := frI W n) (π := fun x : Option V3 × Fr => x.1) (fun i x => skI_1 W n i x) _ _ _
theorem skA_2 (W : Nat → V3) (n : Nat) : (skA W n).2 = frs W n := forN_p (f := skI W n) (g := frsI W n) (π := fun x : Option V3 × Fr => x.2) (fun i x => skI_2 W n i x) _ _ _
section SeekAll
variable {E : gj_E} {SI : gj_I} {SJ : gj_J} {F : Nat → Int} {W : Nat → V3} {n t : Nat}
def RSk (W : Nat → V3) (n : Nat) (SI : gj_I) (SJ : gj_J) (x : Option V3 × Fr) (A : gj_I) (B : gj_J) : Prop := FI LIfc SI A ∧ FJ LJrl SJ B ∧ RFc x.2 A B ∧ WFr x.2 ∧ SM W n x.2 ∧ ∀ p, x.1 = some p → CX p B
theorem sk_one {Q : gj_I → gj_J → Prop} {X : Int32 → gj_I → gj_J → Prop} (hC : PB42 W n SI SJ) (hn : n ≤ 12) (hB : Wb W n) (hR : R3 W n t) (i j : Nat) (hij : i < j) (hj : j < n) (x : Option V3 × Fr) (A : gj_I) (B : gj_J) (hS : RSk W n SI SJ x A B) (hz : crs (W i) (W j) ≠ (0, 0, 0)) (s : Int) (hs : s = 1 ∨ s = -1) (hf : frP W n i j = some (sgv s (low3 (crs (W i) (W j))))) (h : ∀ A' B', RSk W n SI SJ (sk W n i j x) A' B' → X (ibc ((sk W n i j x).1.isSome = true)) A' B') : DoV E 49 [(.ref 61), (.ref 42), (.int (i3 (cpl i j : Nat))), (.int (i3 s))] A B (fun SI6 SJ6 => (¬ ibc (x.1.isSome = true) = 0 → DoV E 52 [(.ref 61)] SI6 SJ6 (fun SI8 SJ8 => X (ibc (x.1.isSome = true)) SI8 SJ8)) ∧ (ibc (x.1.isSome = true) = 0 → DoV E 50 [(.ref 61)] SI6 SJ6 (fun SI10 SJ10 => DoV E 52 [(.ref 61)] SI10 SJ10 (fun SI12 SJ12 => X (i3 1) SI12 SJ12)))) := by
  obtain ⟨o, fr⟩ := x
  obtain ⟨g1, g2, g3, g4, g5, g6⟩ := hS
  dsimp only at g3 g4 g5 g6 ⊢
  have hi : i < n := by omega
  have pb := frP_b hB hi hj hf
  have few := g5.few hR
  have oi := frP_ori hi hj hf
  have cb := cpl_b hij (show j < 14 by omega)
  have crb := crs_b hB hi hj
  obtain ⟨c1, c2, c3, -, -⟩ := hC i j hij hj trivial
  have es : sk W n i j (o, fr) = (oth o (some (sgv s (low3 (crs (W i) (W j))))), insF fr (sgv s (low3 (crs (W i) (W j))))) := by
    unfold sk; rw [hf]; rfl
  rw [es] at h
  have b1 : B 47 (cpl i j) = i6 (crs (W i) (W j)).1 := by rw [g2 47 _ (by unfold LJrl LJfc LJcx; omega)]; exact c1
  have b2 : B 48 (cpl i j) = i6 (crs (W i) (W j)).2.1 := by rw [g2 48 _ (by unfold LJrl LJfc LJcx; omega)]; exact c2
  have b3 : B 49 (cpl i j) = i6 (crs (W i) (W j)).2.2 := by rw [g2 49 _ (by unfold LJrl LJfc LJcx; omega)]; exact c3
  refine sp_lower crb hz (cpl i j) cb b1 b2 b3 s hs rfl rfl (fun B2 f2 hca => ?_)
  generalize sgv s (low3 (crs (W i) (W j))) = v at *
  have r2 : RFc fr A B2 := ⟨g3.1, fun k hk => by rw [f2 62 k (by unfold LJca; omega), f2 63 k (by unfold LJca; omega), f2 64 k (by unfold LJca; omega)]; exact g3.2 k hk⟩
  have l2 : FJ LJrl SJ B2 := g2.tr (f2.le (fun o k y => by unfold LJca at y; unfold LJrl LJcx; omega))
  have sm := g5.ins oi
  have ww := ins_w g4 pb
  refine ⟨fun q => ?_, fun q => ?_⟩
  · rw [ibc_0, Classical.not_not] at q
    cases o with
    | none => cases q
    | some w =>
      refine sp_insertC fr v r2 g4 hca pb (by omega) (fun A3 B3 f3 f4 k3 => h A3 B3 ⟨g1.tr f3, l2.tr (f4.le (fun o k y => Or.inl y)), k3, ww, sm, fun p hp => ?_⟩)
      obtain ⟨x1, x2, x3⟩ := g6 p hp
      refine ⟨?_, ?_, ?_⟩
      · rw [f4 61 4 (by unfold LJfc; omega), f2 61 4 (by unfold LJca; omega)]; exact x1
      · rw [f4 61 5 (by unfold LJfc; omega), f2 61 5 (by unfold LJca; omega)]; exact x2
      · rw [f4 61 6 (by unfold LJfc; omega), f2 61 6 (by unfold LJca; omega)]; exact x3
  · rw [ibc_0] at q
    cases o with
    | some w => exact absurd rfl q
    | none =>
      refine sp_choose hca (fun B3 f3 x3 a3 => ?_)
      have r3 : RFc fr A B3 := ⟨r2.1, fun k hk => by rw [f3 62 k (by unfold LJcx; omega), f3 63 k (by unfold LJcx; omega), f3 64 k (by unfold LJcx; omega)]; exact r2.2 k hk⟩
      refine sp_insertC fr v r3 g4 a3 pb (by omega) (fun A4 B4 f4 f5 k4 => ?_)
      have hh := h A4 B4 ⟨g1.tr f4, (l2.tr (f3.le (fun o k y => Or.inr y))).tr (f5.le (fun o k y => Or.inl y)), k4, ww, sm, fun p hp => ?_⟩
      · rw [ibc_t (show (oth none (some v)).isSome = true from rfl)] at hh; exact hh
      · injection hp with hp
        subst hp
        obtain ⟨y1, y2, y3⟩ := x3
        refine ⟨?_, ?_, ?_⟩
        · rw [f5 61 4 (by unfold LJfc; omega)]; exact y1
        · rw [f5 61 5 (by unfold LJfc; omega)]; exact y2
        · rw [f5 61 6 (by unfold LJfc; omega)]; exact y3
end SeekAll
