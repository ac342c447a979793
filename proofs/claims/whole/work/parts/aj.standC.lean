/-! aj: a plate of the class stands -/
section StandC
variable {E : gj_E} {SI : gj_I} {SJ : gj_J} {F : Nat → Int}
theorem cx_2 (F : Nat → Int) (i : Nat) : cx F (nx F (nx F i)) = cx F (i + 2) ∧ cy F (nx F (nx F i)) = cy F (i + 2) := by
  have e : nx F (nx F i) = (i + 2) % nC F := by
    unfold nx
    rw [Nat.mod_add_mod]
  rw [e]; exact cx_m (i + 2)
theorem cx_1 (F : Nat → Int) (i : Nat) : cx F (nx F i) = cx F (i + 1) ∧ cy F (nx F i) = cy F (i + 1) := cx_m (i + 1)
theorem sd_1 (F : Nat → Int) (i : Nat) (x y : Int) : sd F i (nx F i) x y = sd F i (i + 1) x y := by
  unfold sd; rw [(cx_1 F i).1, (cx_1 F i).2]
theorem nx_lt (hW : Wc F) (i : Nat) : nx F i < nC F := Nat.mod_lt _ hW.n.1
theorem sp_bend {Q : Int32 → gj_I → gj_J → Prop} {a b c : Int32} (hX : PX29 F SI) (hW : Wc F) (i j k : Nat) (hi : i < nC F) (hj : j < nC F) (hk : k < nC F) (ha : a = i3 i) (hb : b = i3 j) (hc : c = i3 k) (h : Q (i3 (sd F i j (cx F k) (cy F k))) SI SJ) : DoI E 37 [(.ref 29), (.int a), (.int b), (.int c)] SI SJ Q := by
  subst ha; subst hb; subst hc
  obtain ⟨n1, n2, n3⟩ := hW.n
  obtain ⟨x1, y1⟩ := hX.2 i hi
  obtain ⟨x2, y2⟩ := hX.2 j hj
  obtain ⟨x3, y3⟩ := hX.2 k hk
  refine st_37 _ _ _ SI SJ ?_
  rw [i3_in (by omega) (by omega), i3_in (by omega) (by omega), i3_in (by omega) (by omega), i3_n (by omega) (by omega), i3_n (by omega) (by omega), i3_n (by omega) (by omega), show ((i : Nat) : Int).toNat = i by omega, show ((j : Nat) : Int).toNat = j by omega, show ((k : Nat) : Int).toNat = k by omega, x1, x2, x3, y1, y2, y3, i3_sub, i3_sub, i3_sub, i3_sub]
  exact ⟨by omega, by omega, by omega, sp_turning _ _ _ _ rfl rfl rfl rfl h⟩
theorem sp_twiceArea29 {Q : Int32 → gj_I → gj_J → Prop} (hX : PX29 F SI) (hW : Wc F) (h : Q (i3 (ar F (nC F))) SI SJ) : DoI E 41 [(.ref 29)] SI SJ Q := by
  obtain ⟨n1, n2, n3⟩ := hW.n
  refine st_41_29 SI SJ ?_
  refine up_lp (α := Unit) (P := fun i _ A B => A = SI ∧ B = SJ) (G := fun i _ A B => GoI E mt_41 4 [some (.ref 29), some (.int (i3 (ar F i))), some (.int (i3 (i : Nat)))] A B Q) (nC F) ?_ ?_ 0 () SI SJ (by omega) ⟨rfl, rfl⟩
  · rintro _ A B ⟨rfl, rfl⟩
    refine lp_41_4_29 _ _ A B ⟨fun _ => h, fun c => ?_⟩
    rw [hX.1, n3, i3_le (by omega) (by omega) (by omega) (by omega)] at c; omega
  · rintro i _ A B hi ⟨rfl, rfl⟩ ih
    obtain ⟨y1, y2⟩ := hX.2 i hi
    obtain ⟨z0, z1, z2⟩ := hX.xn hW i
    refine lp_41_4_29 _ _ A B ⟨fun c => ?_, fun c => ⟨by rw [i3_in (by omega) (by omega)]; omega, sp_next29 hX.1 hW i hi rfl ⟨by rw [i3_in (by omega) (by omega)]; omega, sp_next29 hX.1 hW i hi rfl ⟨by rw [i3_in (by omega) (by omega)]; omega, ?_⟩⟩⟩⟩
    · rw [hX.1, n3, i3_le (by omega) (by omega) (by omega) (by omega)] at c; omega
    · rw [i3_n (by omega) (by omega), i3_n (by omega) (by omega), show ((i : Nat) : Int).toNat = i by omega, show ((nx F i : Nat) : Int).toNat = nx F i by omega, y1, y2, z1, z2]
      refine sp_turning _ _ _ _ rfl rfl rfl rfl ?_
      rw [i3_add, i3_add]
      have e : ar F i + (cx F i * cy F (i + 1) - cy F i * cx F (i + 1)) = ar F (i + 1) := by
        show _ = ar F i + cx F i * cy F (i + 1) - cx F (i + 1) * cy F i
        rw [Int.mul_comm (cy F i)]; omega
      rw [e]; exact ih () A B ⟨rfl, rfl⟩
theorem mt_tail {Q : Int32 → gj_I → gj_J → Prop} (hX : PX29 F SI) (hW : Wc F) (e f : Nat) (he : e < nC F) (hf : f < nC F) (hx : ¬ ((sd F e (e + 1) (cx F f) (cy F f)).sign * (sd F e (e + 1) (cx F (f + 1)) (cy F (f + 1))).sign < 0 ∧ (sd F f (f + 1) (cx F e) (cy F e)).sign * (sd F f (f + 1) (cx F (e + 1)) (cy F (e + 1))).sign < 0)) (h : Q (ibc (mtg F e f)) SI SJ) : vp_in (i3 (f : Nat)) 8 ∧ (DoI E 40 [(.ref 29), (.int (i3 (e : Nat))), (.int (SI 30 (gj_n (i3 (f : Nat))))), (.int (SI 31 (gj_n (i3 (f : Nat)))))] SI SJ (fun r29 SI30 SJ30 => (¬ r29 = 0 → Q (i3 1) SI30 SJ30) ∧ (r29 = 0 → DoI E 29 [(.ref 29), (.int (i3 (f : Nat)))] SI30 SJ30 (fun r31 SI32 SJ32 => vp_in r31 8 ∧ (DoI E 29 [(.ref 29), (.int (i3 (f : Nat)))] SI32 SJ32 (fun r33 SI34 SJ34 => vp_in r33 8 ∧ (DoI E 40 [(.ref 29), (.int (i3 (e : Nat))), (.int (SI32 30 (gj_n r31))), (.int (SI34 31 (gj_n r33)))] SI34 SJ34 (fun r35 SI36 SJ36 => (¬ r35 = 0 → Q (i3 1) SI36 SJ36) ∧ (r35 = 0 → vp_in (i3 (e : Nat)) 8 ∧ (DoI E 40 [(.ref 29), (.int (i3 (f : Nat))), (.int (SI36 30 (gj_n (i3 (e : Nat))))), (.int (SI36 31 (gj_n (i3 (e : Nat)))))] SI36 SJ36 (fun r37 SI38 SJ38 => (¬ r37 = 0 → Q (i3 1) SI38 SJ38) ∧ (r37 = 0 → DoI E 29 [(.ref 29), (.int (i3 (e : Nat)))] SI38 SJ38 (fun r39 SI40 SJ40 => vp_in r39 8 ∧ (DoI E 29 [(.ref 29), (.int (i3 (e : Nat)))] SI40 SJ40 (fun r41 SI42 SJ42 => vp_in r41 8 ∧ (DoI E 40 [(.ref 29), (.int (i3 (f : Nat))), (.int (SI40 30 (gj_n r39))), (.int (SI42 31 (gj_n r41)))] SI42 SJ42 (fun r43 SI44 SJ44 => (r43 = 0 → Q (i3 0) SI44 SJ44) ∧ (¬ r43 = 0 → Q (i3 1) SI44 SJ44)))))))))))))))))) := by
  obtain ⟨n1, n2, n3⟩ := hW.n
  obtain ⟨x1, y1⟩ := hX.2 e he
  obtain ⟨x2, y2⟩ := hX.2 f hf
  obtain ⟨e0, e1, e2⟩ := hX.xn hW e
  obtain ⟨f0, f1, f2⟩ := hX.xn hW f
  have b1 := hW.b e; have b2 := hW.b (e + 1); have b3 := hW.b f; have b4 := hW.b (f + 1)
  have yes : mtg F e f → Q (i3 1) SI SJ := fun z => by rw [ibc_t z] at h; exact h
  have no : ¬ mtg F e f → Q (i3 0) SI SJ := fun z => by rw [ibc_f z] at h; exact h
  rw [i3_in (by omega) (by omega), i3_n (by omega) (by omega), show ((f : Nat) : Int).toNat = f by omega, x2, y2]
  refine ⟨by omega, sp_lies29 hX hW e he _ _ (by omega) (by omega) rfl rfl rfl ⟨fun c => yes (Or.inr (Or.inl (Classical.not_not.mp (fun z => c (ibc_0.mpr z))))), fun c1 => sp_next29 hX.1 hW f hf rfl ?_⟩⟩
  rw [i3_in (by omega) (by omega), i3_n (by omega) (by omega), show ((nx F f : Nat) : Int).toNat = nx F f by omega, f1]
  refine ⟨by omega, sp_next29 hX.1 hW f hf rfl ?_⟩
  rw [i3_in (by omega) (by omega), i3_n (by omega) (by omega), show ((nx F f : Nat) : Int).toNat = nx F f by omega, f2]
  refine ⟨by omega, sp_lies29 hX hW e he _ _ (by omega) (by omega) rfl rfl rfl ⟨fun c => yes (Or.inr (Or.inr (Or.inl (Classical.not_not.mp (fun z => c (ibc_0.mpr z)))))), fun c2 => ?_⟩⟩
  rw [i3_in (by omega) (by omega), i3_n (by omega) (by omega), show ((e : Nat) : Int).toNat = e by omega, x1, y1]
  refine ⟨by omega, sp_lies29 hX hW f hf _ _ (by omega) (by omega) rfl rfl rfl ⟨fun c => yes (Or.inr (Or.inr (Or.inr (Or.inl (Classical.not_not.mp (fun z => c (ibc_0.mpr z))))))), fun c3 => sp_next29 hX.1 hW e he rfl ?_⟩⟩
  rw [i3_in (by omega) (by omega), i3_n (by omega) (by omega), show ((nx F e : Nat) : Int).toNat = nx F e by omega, e1]
  refine ⟨by omega, sp_next29 hX.1 hW e he rfl ?_⟩
  rw [i3_in (by omega) (by omega), i3_n (by omega) (by omega), show ((nx F e : Nat) : Int).toNat = nx F e by omega, e2]
  refine ⟨by omega, sp_lies29 hX hW f hf _ _ (by omega) (by omega) rfl rfl rfl ⟨fun c4 => no ?_, fun c => yes (Or.inr (Or.inr (Or.inr (Or.inr (Classical.not_not.mp (fun z => c (ibc_0.mpr z)))))))⟩⟩
  rintro (z | z | z | z | z)
  · exact hx z
  · exact ibc_0.mp c1 z
  · exact ibc_0.mp c2 z
  · exact ibc_0.mp c3 z
  · exact ibc_0.mp c4 z
theorem sp_meet {Q : Int32 → gj_I → gj_J → Prop} {a b : Int32} (hX : PX29 F SI) (hW : Wc F) (e f : Nat) (he : e < nC F) (hf : f < nC F) (ha : a = i3 e) (hb : b = i3 f) (h : Q (ibc (mtg F e f)) SI SJ) : DoI E 39 [(.ref 29), (.int a), (.int b)] SI SJ Q := by
  subst ha; subst hb
  have ne := nx_lt hW e
  have nf := nx_lt hW f
  have be := hW.b e; have be1 := hW.b (e + 1); have bf := hW.b f; have bf1 := hW.b (f + 1)
  have s1 := sd_b hW e (e + 1) (u := cx F f) (v := cy F f) (by omega) (by omega)
  have s2 := sd_b hW e (e + 1) (u := cx F (f + 1)) (v := cy F (f + 1)) (by omega) (by omega)
  have s3 := sd_b hW f (f + 1) (u := cx F e) (v := cy F e) (by omega) (by omega)
  have s4 := sd_b hW f (f + 1) (u := cx F (e + 1)) (v := cy F (e + 1)) (by omega) (by omega)
  have g1 := sgn_bb (sd F e (e + 1) (cx F f) (cy F f))
  have g2 := sgn_bb (sd F e (e + 1) (cx F (f + 1)) (cy F (f + 1)))
  have g3 := sgn_bb (sd F f (f + 1) (cx F e) (cy F e))
  have g4 := sgn_bb (sd F f (f + 1) (cx F (e + 1)) (cy F (e + 1)))
  have m1 := mul_b (a := (sd F e (e + 1) (cx F f) (cy F f)).sign) (b := (sd F e (e + 1) (cx F (f + 1)) (cy F (f + 1))).sign) (m := 1) (n := 1) (by omega) (by omega)
  have m2 := mul_b (a := (sd F f (f + 1) (cx F e) (cy F e)).sign) (b := (sd F f (f + 1) (cx F (e + 1)) (cy F (e + 1))).sign) (m := 1) (n := 1) (by omega) (by omega)
  refine st_39 _ _ SI SJ (sp_next29 hX.1 hW e he rfl (sp_bend hX hW e (nx F e) f he ne hf rfl rfl rfl ?_))
  rw [sd_1]
  refine sp_isignum _ (by omega) (by omega) rfl (sp_next29 hX.1 hW e he rfl (sp_next29 hX.1 hW f hf rfl (sp_bend hX hW e (nx F e) (nx F f) he ne nf rfl rfl rfl ?_)))
  rw [sd_1, (cx_1 F f).1, (cx_1 F f).2]
  refine sp_isignum _ (by omega) (by omega) rfl (sp_next29 hX.1 hW f hf rfl (sp_bend hX hW f (nx F f) e hf nf he rfl rfl rfl ?_))
  rw [sd_1]
  refine sp_isignum _ (by omega) (by omega) rfl (sp_next29 hX.1 hW f hf rfl (sp_next29 hX.1 hW e he rfl (sp_bend hX hW f (nx F f) (nx F e) hf nf ne rfl rfl rfl ?_)))
  rw [sd_1, (cx_1 F e).1, (cx_1 F e).2]
  refine sp_isignum _ (by omega) (by omega) rfl ?_
  rw [i3_mul, i3_mul, i3_0le (by omega) (by omega), i3_0le (by omega) (by omega)]
  clear g1 g2 g3 g4 s1 s2 s3 s4
  refine ⟨fun c => mt_tail hX hW e f he hf (fun z => by omega) h, fun c => ⟨fun d => mt_tail hX hW e f he hf (fun z => by omega) h, fun d => ?_⟩⟩
  rw [ibc_t (show mtg F e f from Or.inl ⟨by omega, by omega⟩)] at h; exact h
theorem sp_stands {Q : Int32 → gj_I → gj_J → Prop} (hX : PX29 F SI) (hW : Wc F) (h : Q (ibc (plt F)) SI SJ) : DoI E 36 [(.ref 29)] SI SJ Q := by
  obtain ⟨n1, n2, n3⟩ := hW.n
  have ab := ar_b hW (nC F)
  have no : ¬ plt F → Q (i3 0) SI SJ := fun z => by rw [ibc_f z] at h; exact h
  refine st_36 SI SJ ?_
  rw [hX.1, n3, i3_lt (by omega) (by omega) (by omega) (by omega)]
  refine ⟨fun c => no (fun z => by have := z.1; omega), fun c => sp_twiceArea29 hX hW ?_⟩
  rw [i3_0lt (by omega) (by omega)]
  refine ⟨fun ap => ?_, fun ap => no (fun z => ap z.2.2.2)⟩
  have outer : ∀ (d i : Nat), i + d = nC F → (∀ j, j < i → sd F j (j + 1) (cx F (j + 2)) (cy F (j + 2)) ≠ 0) → (∀ e f, e < i → e + 2 ≤ f → f < nC F → (f + 1) % nC F ≠ e → ¬ mtg F e f) → GoI E mt_36 19 [some (.ref 29), some (.int (i3 (i : Nat))), none] SI SJ Q := by
    intro d
    induction d with
    | zero =>
      intro i hi g1 g2
      have : i = nC F := by omega
      subst this
      refine lp_36_19 _ SI SJ ⟨fun _ => ?_, fun q => ?_⟩
      · rw [ibc_t ⟨by omega, g1, g2, ap⟩] at h; exact h
      · rw [hX.1, n3, i3_le (by omega) (by omega) (by omega) (by omega)] at q; omega
    | succ d ih =>
      intro i hi g1 g2
      have il : i < nC F := by omega
      have bi := hW.b (i + 2)
      have sb := sd_b hW i (i + 1) (u := cx F (i + 2)) (v := cy F (i + 2)) (by omega) (by omega)
      refine lp_36_19 _ SI SJ ⟨fun q => ?_, fun _ => sp_next29 hX.1 hW i il rfl (sp_next29 hX.1 hW i il rfl (sp_next29 hX.1 hW (nx F i) (nx_lt hW i) rfl (sp_bend hX hW i (nx F i) (nx F (nx F i)) il (nx_lt hW i) (nx_lt hW _) rfl rfl rfl ?_)))⟩
      · rw [hX.1, n3, i3_le (by omega) (by omega) (by omega) (by omega)] at q; omega
      · rw [sd_1, (cx_2 F i).1, (cx_2 F i).2, i3_eq0 (by omega) (by omega), i3_add]
        refine ⟨fun bz => ?_, fun bz => no (fun z => z.2.1 i il bz)⟩
        have inner : ∀ (d2 j : Nat), j + d2 = nC F ∨ (d2 = 0 ∧ nC F ≤ j) → i + 2 ≤ j → j ≤ 12 → (∀ f, i + 2 ≤ f → f < j → f < nC F → (f + 1) % nC F ≠ i → ¬ mtg F i f) → GoI E mt_36 55 [some (.ref 29), some (.int (i3 (i : Nat))), some (.int (i3 (j : Nat)))] SI SJ Q := by
          intro d2
          induction d2 with
          | zero =>
            intro j hj hij j12 g3
            refine lp_36_55 _ _ SI SJ ⟨fun _ => ?_, fun q => ?_⟩
            · rw [i3_add]
              refine ih (i + 1) (by omega) (fun j hj => ?_) (fun e f a1 a2 a3 a4 => ?_)
              · by_cases e : j = i
                · rw [e]; exact bz
                · exact g1 j (by omega)
              · by_cases z : e = i
                · subst z; exact g3 f a2 (by omega) a3 a4
                · exact g2 e f (by omega) a2 a3 a4
            · rw [hX.1, n3, i3_le (by omega) (by omega) (by omega) (by omega)] at q; omega
          | succ d2 ih2 =>
            intro j hj hij j12 g3
            have jl : j < nC F := by omega
            have njl := nx_lt hW j
            refine lp_36_55 _ _ SI SJ ⟨fun q => ?_, fun _ => sp_next29 hX.1 hW j jl rfl ?_⟩
            · rw [hX.1, n3, i3_le (by omega) (by omega) (by omega) (by omega)] at q; omega
            · rw [i3_eq (by omega) (by omega) (by omega) (by omega), i3_add]
              have nxj : nx F j = (j + 1) % nC F := rfl
              refine ⟨fun q => ih2 (j + 1) (by omega) (by omega) (by omega) (fun f a1 a2 a3 a4 => ?_), fun q => sp_meet hX hW i j il jl rfl rfl ⟨fun z => ih2 (j + 1) (by omega) (by omega) (by omega) (fun f a1 a2 a3 a4 => ?_), fun z => no (fun y => ?_)⟩⟩
              · by_cases y : f = j
                · subst y; exact absurd (by omega) a4
                · exact g3 f a1 (by omega) a3 a4
              · rw [ibc_0] at z
                by_cases y : f = j
                · subst y; exact z
                · exact g3 f a1 (by omega) a3 a4
              · rw [ibc_0, Classical.not_not] at z
                exact y.2.2.1 i j il hij jl (by omega) z
        rcases Nat.lt_or_ge (i + 2) (nC F) with q | q
        · exact inner (nC F - (i + 2)) (i + 2) (by omega) (by omega) (by omega) (fun f a1 a2 => absurd a1 (by omega))
        · exact inner 0 (i + 2) (by omega) (by omega) (by omega) (fun f a1 a2 => absurd a1 (by omega))
  exact outer (nC F) 0 (by omega) (fun j hj => absurd hj (Nat.not_lt_zero j)) (fun e f he => absurd he (Nat.not_lt_zero e))
end StandC
