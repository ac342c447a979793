/-! 9w: all pushes that free: class, the loops -/
section SeekA2
variable {E : gj_E} {SI : gj_I} {SJ : gj_J} {F : Nat → Int} {W : Nat → V3} {n t : Nat}
theorem sp_seekAllC {Q : gj_I → gj_J → Prop} (hL : SI 42 9 = i3 n) (hC : PB42 W n SI SJ) (hn : n ≤ 12) (hB : Wb W n) (hR : R3 W n t) (h3 : SI 61 3 = i3 0) (h : ∀ SI' SJ', RSk W n SI SJ (skA W n) SI' SJ' → Q SI' SJ') : DoV E 45 [(.ref 61), (.ref 42)] SI SJ Q := by
  refine st_45 SI SJ ?_
  have inner : ∀ (i : Nat) (x : Option V3 × Fr) (A : gj_I) (B : gj_J), i < n → RSk W n SI SJ x A B → (∀ A' B', RSk W n SI SJ (skI W n i x) A' B' → GoV E mt_45 4 [some (.ref 61), some (.ref 42), some (.int (ibc ((skI W n i x).1.isSome = true))), some (.int (i3 ((i + 1 : Nat) : Int))), none, none] A' B' Q) → GoV E mt_45 17 [some (.ref 61), some (.ref 42), some (.int (ibc (x.1.isSome = true))), some (.int (i3 (i : Nat))), some (.int (i3 ((i + 1 : Nat) : Int))), none] A B Q := by
    intro i x A B hi hS hc
    refine for_lp (f := sk W n i) (n := n) (R := fun j x A B => RSk W n SI SJ x A B ∧ i < j) (G := fun j x A B => GoV E mt_45 17 [some (.ref 61), some (.ref 42), some (.int (ibc (x.1.isSome = true))), some (.int (i3 (i : Nat))), some (.int (i3 (j : Nat))), none] A B Q) ?_ (n - (i + 1)) (i + 1) x A B (by omega) ⟨hS, by omega⟩ ?_
    · rintro j x A B hj ⟨hS, hij⟩ ih
      have g1 := hS.1
      have aL : A 42 9 = i3 n := by rw [g1 42 9 (by unfold LIfc; omega)]; exact hL
      have cb := cpl_b hij (show j < 14 by omega)
      have crb := crs_b hB hi hj
      have ab := ab14 (W := W) (p := crs (W i) (W j)) (n := n) (by omega)
      obtain ⟨c1, c2, c3, c4, c5⟩ := hC i j hij hj trivial
      have b1 : B 47 (cpl i j) = i6 (crs (W i) (W j)).1 := by rw [hS.2.1 47 _ (by unfold LJrl LJfc LJcx; omega)]; exact c1
      have b2 : B 48 (cpl i j) = i6 (crs (W i) (W j)).2.1 := by rw [hS.2.1 48 _ (by unfold LJrl LJfc LJcx; omega)]; exact c2
      have b3 : B 49 (cpl i j) = i6 (crs (W i) (W j)).2.2 := by rw [hS.2.1 49 _ (by unfold LJrl LJfc LJcx; omega)]; exact c3
      have a4 : A 50 (cpl i j) = i3 (abS W (crs (W i) (W j)) n : Nat) := by rw [g1 50 _ (by unfold LIfc; omega)]; exact c4
      have a5 : A 51 (cpl i j) = i3 (beS W (crs (W i) (W j)) n : Nat) := by rw [g1 51 _ (by unfold LIfc; omega)]; exact c5
      have skip : frP W n i j = none → GoV E mt_45 17 [some (.ref 61), some (.ref 42), some (.int (ibc (x.1.isSome = true))), some (.int (i3 (i : Nat))), some (.int (i3 ((j : Int) + 1))), none] A B Q := by
        intro z
        have es : sk W n i j x = x := by
          obtain ⟨o, fr⟩ := x
          unfold sk; rw [z]
          cases o <;> rfl
        rw [es] at ih
        exact ih A B ⟨hS, by omega⟩
      have one := fun (s : Int) hs hz hf => sk_one (E := E) (Q := Q) (X := fun v A' B' => GoV E mt_45 17 [some (.ref 61), some (.ref 42), some (.int v), some (.int (i3 (i : Nat))), some (.int (i3 ((j : Int) + 1))), none] A' B' Q) hC hn hB hR i j hij hj x A B hS hz s hs hf (fun A' B' k => by have w := ih A' B' ⟨k, by omega⟩; exact w)
      refine lp_45_17 _ _ _ A B ⟨fun c => ?_, fun c => sp_couple i j (by omega) rfl rfl (sp_isPlane42 crb (cpl i j) cb b1 b2 b3 rfl ⟨fun q => ?_, fun q => ?_⟩)⟩
      · rw [aL, i3_le (by omega) (by omega) (by omega) (by omega)] at c; omega
      · rw [ibc_0, Classical.not_not] at q
        rw [i3_add]; exact skip (frP_z q)
      · rw [ibc_0, Classical.not_not] at q
        rw [i3_add, i3_in (by omega) (by omega), i3_n (by omega) (by omega), show ((cpl i j : Nat) : Int).toNat = cpl i j by omega, a4, a5, i3_eq0 (by omega) (by omega), i3_eq0 (by omega) (by omega)]
        refine ⟨by omega, fun y => ⟨fun z => absurd y z, fun _ => ?_⟩, fun y => ⟨fun z => ⟨fun _ => ?_, fun w => absurd w y⟩, fun z => skip (frP_3 q (by omega) (by omega))⟩⟩
        · exact one 1 (Or.inl rfl) q (frP_1 q (by omega))
        · exact one (-1) (Or.inr rfl) q (frP_2 q (by omega) (by omega))
    · rintro A' B' ⟨hS', -⟩
      have aL : A' 42 9 = i3 n := by rw [hS'.1 42 9 (by unfold LIfc; omega)]; exact hL
      refine lp_45_17 _ _ _ A' B' ⟨fun _ => ?_, fun c => ?_⟩
      · rw [i3_add]; exact hc A' B' hS'
      · rw [aL, i3_le (by omega) (by omega) (by omega) (by omega)] at c; omega
  have st : RSk W n SI SJ (none, (0, fun _ => (0, 0, 0))) SI SJ := ⟨FI.rf, FJ.rf, ⟨h3, fun k hk => absurd hk (Nat.not_lt_zero k)⟩, fun k hk => absurd hk (Nat.not_lt_zero k), ⟨fun i j _ hj => absurd hj (Nat.not_lt_zero j), fun k hk => absurd hk (Nat.not_lt_zero k)⟩, fun p hp => by cases hp⟩
  have := for_lp (f := skI W n) (n := n) (R := fun _ x A B => RSk W n SI SJ x A B) (G := fun i x A B => GoV E mt_45 4 [some (.ref 61), some (.ref 42), some (.int (ibc (x.1.isSome = true))), some (.int (i3 (i : Nat))), none, none] A B Q) ?_ n 0 (none, (0, fun _ => (0, 0, 0))) SI SJ (by omega) st ?_
  · have e0 : ibc ((none : Option V3).isSome = true) = i3 0 := ibc_no
    dsimp only at this
    rw [e0] at this; exact this
  · intro i x A B hi hS ih
    have aL : A 42 9 = i3 n := by rw [hS.1 42 9 (by unfold LIfc; omega)]; exact hL
    refine lp_45_4 _ _ A B ⟨fun c => ?_, fun c => ?_⟩
    · rw [aL, i3_le (by omega) (by omega) (by omega) (by omega)] at c; omega
    · rw [i3_add]; exact inner i x A B hi hS ih
  · intro A' B' hS'
    have aL : A' 42 9 = i3 n := by rw [hS'.1 42 9 (by unfold LIfc; omega)]; exact hL
    refine lp_45_4 _ _ A' B' ⟨fun _ => h A' B' hS', fun c => ?_⟩
    rw [aL, i3_le (by omega) (by omega) (by omega) (by omega)] at c; omega
end SeekA2
