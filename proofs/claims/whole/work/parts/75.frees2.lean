/-! 75: the reference's frees -/
def c2 : Nat → Nat
  | 0 => 0
  | a + 1 => c2 a + a
def c3 : Nat → Nat
  | 0 => 0
  | a + 1 => c3 a + c2 a
theorem c2_m : ∀ {a b : Nat}, a ≤ b → c2 a ≤ c2 b := by
  intro a b h
  induction b with
  | zero => rw [show a = 0 by omega]; exact Nat.le_refl _
  | succ b ih =>
    by_cases q : a = b + 1
    · rw [q]; exact Nat.le_refl _
    · have := ih (by omega)
      show c2 a ≤ c2 b + b; omega
theorem c3_m : ∀ {a b : Nat}, a ≤ b → c3 a ≤ c3 b := by
  intro a b h
  induction b with
  | zero => rw [show a = 0 by omega]; exact Nat.le_refl _
  | succ b ih =>
    by_cases q : a = b + 1
    · rw [q]; exact Nat.le_refl _
    · have := ih (by omega)
      show c3 a ≤ c3 b + c2 b; omega
theorem c2_s {n i : Nat} (h : i < n) : c2 (n - i) = c2 (n - (i + 1)) + (n - (i + 1)) := by
  rw [show n - i = (n - (i + 1)) + 1 by omega]; rfl
theorem c3_s {n i : Nat} (h : i < n) : c3 (n - i) = c3 (n - (i + 1)) + c2 (n - (i + 1)) := by
  rw [show n - i = (n - (i + 1)) + 1 by omega]; rfl
noncomputable def frsF (F : Nat → Int) : Fr := if rkF F = 3 then frs (WW F) (nW F) else (0, fun _ => (0, 0, 0))
def frsA (s : Fr) (k w : Int) : Int := if k = -1 then (if w = 0 then (s.1 : Int) else -9000000000000000000) else if k < s.1 then (if w = 0 then (s.2 k.toNat).1 else if w = 1 then (s.2 k.toNat).2.1 else (s.2 k.toNat).2.2) else -9000000000000000000
noncomputable def freesA (F : Nat → Int) (k w : Int) : Int := if -1 ≤ k ∧ 0 ≤ w ∧ w ≤ 2 then frsA (frsF F) k w else -9000000000000000000
def LIg (o k : Nat) : Prop := LI1 o k ∨ LIf o k
def LJg (o k : Nat) : Prop := LJ1 o k ∨ LJf o k
theorem LIg_R {A B : gj_I} (h : FI LIg A B) : FI LRI A B := h.le (fun o k z => by unfold LIg LI1 LIf at z; unfold LRI; omega)
theorem LJg_R {A B : gj_J} (h : FJ LJg A B) : FJ LRJ A B := h.le (fun o k z => by unfold LJg LJ1 LJf at z; unfold LRJ; omega)
section Frees2
variable {E : gj_E} {SI : gj_I} {SJ : gj_J} {F : Nat → Int} {W : Nat → V3} {O : Nat → Int} {n : Nat}
theorem frs_end {Q : Int64 → gj_I → gj_J → Prop} (s : Fr) (k w : Int) (hk : -1 ≤ k ∧ k < 2147483648) (hw : 0 ≤ w ∧ w ≤ 2) (h1 : k = -1 → w = 0) (hs : RFr s SI SJ) (h70 : s.1 ≤ 70) (h : Q (i6 (frsA s k w)) SI SJ) : (¬ i3 k = (i3 (-1)) → (i3 k < (SI 81 37) → (¬ i3 w = 0 → (¬ i3 w = (i3 1) → vp_in (i3 k) 70 ∧ (Q (SJ 99 (gj_n (i3 k))) SI SJ)) ∧ (i3 w = (i3 1) → vp_in (i3 k) 70 ∧ (Q (SJ 98 (gj_n (i3 k))) SI SJ))) ∧ (i3 w = 0 → vp_in (i3 k) 70 ∧ (Q (SJ 97 (gj_n (i3 k))) SI SJ))) ∧ (¬ i3 k < (SI 81 37) → Q (i6 (-9000000000000000000)) SI SJ)) ∧ (i3 k = (i3 (-1)) → Q (SI 81 37).toInt64 SI SJ) := by
  obtain ⟨s0, s1⟩ := hs
  unfold frsA at h
  rw [s0, i3_eq (by omega) (by omega) (by omega) (by omega), i3_lt (by omega) (by omega) (by omega) (by omega), i3_eq0 (by omega) (by omega), i3_eq (by omega) (by omega) (by omega) (by omega), i3_64 (by omega) (by omega)]
  refine ⟨fun c => ⟨fun d => ?_, fun d => ?_⟩, fun c => ?_⟩
  · obtain ⟨m, hm⟩ : ∃ m : Nat, k = m := ⟨k.toNat, by omega⟩
    subst hm
    rw [if_neg c, if_pos d, show ((m : Nat) : Int).toNat = m by omega] at h
    obtain ⟨x1, x2, x3⟩ := s1 m (by omega)
    rw [i3_n (by omega) (by omega), i3_in (by omega) (by omega), show ((m : Nat) : Int).toNat = m by omega, x1, x2, x3]
    refine ⟨fun y => ⟨fun z => ⟨by omega, ?_⟩, fun z => ⟨by omega, ?_⟩⟩, fun y => ⟨by omega, ?_⟩⟩
    · rw [if_neg y, if_neg z] at h; exact h
    · rw [if_neg y, if_pos z] at h; exact h
    · rw [if_pos y] at h; exact h
  · rw [if_neg c, if_neg d] at h; exact h
  · rw [if_pos c, if_pos (h1 c)] at h; exact h
theorem frs_loop {Q : Int64 → gj_I → gj_J → Prop} (k w : Int) (hk : -1 ≤ k ∧ k < 2147483648) (hw : 0 ≤ w ∧ w ≤ 2) (h1 : k = -1 → w = 0) (hL : LW W O n SI SJ) (hn : n ≤ 12) (hB : Wb W n) (h37 : SI 81 37 = i3 0) (h : ∀ SI' SJ', FI LIg SI SI' → FJ LJg SJ SJ' → Q (i6 (frsA (frs W n) k w)) SI' SJ') : GoL E mt_248 53 [some (.ref 81), some (.int (i3 k)), some (.int (i3 w)), some (.int (i3 0)), none] SI SJ Q := by
  have b66 : c2 n ≤ 66 := c2_m (b := 12) hn
  have LWf : ∀ A B, FI LIg SI A → FJ LJg SJ B → A 81 8 = i3 n → (∀ k, A 88 k = SI 88 k) → FJ (fun o k => LPx o k ∨ LJf o k) SJ B → LW W O n A B := by
    intro A B _ _ fa f8 fb
    refine ⟨fa, fun j hj => ?_⟩
    obtain ⟨l1, l2, l3, l4⟩ := hL.2 j hj
    rw [fb 85 j (by unfold LPx LJf; omega), fb 86 j (by unfold LPx LJf; omega), fb 87 j (by unfold LPx LJf; omega), f8]
    exact ⟨l1, l2, l3, l4⟩
  let HR : Nat → Fr → gj_I → gj_J → Prop := fun left s A B => FI LIf SI A ∧ FJ (fun o k => LPx o k ∨ LJf o k) SJ B ∧ RFr s A B ∧ WFr s ∧ s.1 + left ≤ 66
  have lw : ∀ left s A B, HR left s A B → LW W O n A B := by
    rintro left s A B ⟨g1, g2, -⟩
    refine ⟨by rw [g1 81 8 (by unfold LIf; omega)]; exact hL.1, fun j hj => ?_⟩
    obtain ⟨l1, l2, l3, l4⟩ := hL.2 j hj
    rw [g2 85 j (by unfold LPx LJf; omega), g2 86 j (by unfold LPx LJf; omega), g2 87 j (by unfold LPx LJf; omega), g1 88 j (by unfold LIf; omega)]
    exact ⟨l1, l2, l3, l4⟩
  have inner : ∀ (i : Nat) (s : Fr) (A : gj_I) (B : gj_J), i < n → HR (c2 (n - i)) s A B → (∀ A' B', HR (c2 (n - (i + 1))) (frsI W n i s) A' B' → GoL E mt_248 53 [some (.ref 81), some (.int (i3 k)), some (.int (i3 w)), some (.int (i3 ((i + 1 : Nat) : Int))), none] A' B' Q) → GoL E mt_248 66 [some (.ref 81), some (.int (i3 k)), some (.int (i3 w)), some (.int (i3 (i : Nat))), some (.int (i3 ((i + 1 : Nat) : Int)))] A B Q := by
    intro i s A B hi hH hc
    refine for_lp (f := fun j s => oins s (frP W n i j) insF) (n := n) (R := fun j s A B => HR (c2 (n - (i + 1)) + (n - j)) s A B ∧ i < j) (G := fun j s A B => GoL E mt_248 66 [some (.ref 81), some (.int (i3 k)), some (.int (i3 w)), some (.int (i3 (i : Nat))), some (.int (i3 (j : Nat)))] A B Q) ?_ (n - (i + 1)) (i + 1) s A B (by omega) ⟨by rw [c2_s hi] at hH; exact hH, by omega⟩ ?_
    · rintro j s A B hj ⟨hH, hij⟩ ih
      have hLA := lw _ _ _ _ hH
      obtain ⟨g1, g2, g3, g4, g5⟩ := hH
      refine lp_248_66 _ _ _ _ A B ⟨fun q => ?_, fun q => sp_freesBy hLA (by omega) hB i j hi hj rfl rfl (fun B2 f2 hP => ⟨fun y => ?_, fun y => ?_⟩)⟩
      · rw [hLA.1, i3_le (by omega) (by omega) (by omega) (by omega)] at q; omega
      · rw [ibc_0] at y
        rw [i3_add]
        cases hp : frP W n i j with
        | some p => rw [hp] at y; exact absurd rfl y
        | none =>
          rw [hp] at ih
          refine ih A B2 ⟨⟨g1, g2.tr (f2.le (fun o k z => Or.inl z)), ⟨g3.1, fun k hk => ?_⟩, g4, ?_⟩, by omega⟩
          · rw [f2 97 k (by unfold LPx; omega), f2 98 k (by unfold LPx; omega), f2 99 k (by unfold LPx; omega)]; exact g3.2 k hk
          · show s.1 + _ ≤ 66; omega
      · rw [ibc_0, Classical.not_not] at y
        cases hp : frP W n i j with
        | none => rw [hp] at y; cases y
        | some p =>
          rw [hp] at ih
          have g3' : RFr s A B2 := ⟨g3.1, fun k hk => by rw [f2 97 k (by unfold LPx; omega), f2 98 k (by unfold LPx; omega), f2 99 k (by unfold LPx; omega)]; exact g3.2 k hk⟩
          have pb := frP_b hB hi hj hp
          refine sp_comesFree s p g3' g4 (hP p hp) pb (by omega) (fun A3 B3 f3 f4 g => ?_)
          rw [i3_add]
          have nn := ins_n s p
          refine ih A3 B3 ⟨⟨g1.tr f3, (g2.tr (f2.le (fun o k z => Or.inl z))).tr (f4.le (fun o k z => Or.inr z)), g, ins_w g4 pb, ?_⟩, by omega⟩
          show (insF s p).1 + _ ≤ 66; omega
    · rintro A' B' ⟨hH', -⟩
      have hLA := lw _ _ _ _ hH'
      refine lp_248_66 _ _ _ _ A' B' ⟨fun _ => ?_, fun q => ?_⟩
      · rw [i3_add]
        refine hc A' B' ?_
        obtain ⟨g1, g2, g3, g4, g5⟩ := hH'
        exact ⟨g1, g2, g3, g4, by show (frsI W n i s).1 + _ ≤ 66; have g5' : (frsI W n i s).1 + (c2 (n - (i + 1)) + (n - n)) ≤ 66 := g5; omega⟩
      · rw [hLA.1, i3_le (by omega) (by omega) (by omega) (by omega)] at q; omega
  refine for_lp (f := frsI W n) (n := n) (R := fun i s A B => HR (c2 (n - i)) s A B) (G := fun i s A B => GoL E mt_248 53 [some (.ref 81), some (.int (i3 k)), some (.int (i3 w)), some (.int (i3 (i : Nat))), none] A B Q) ?_ n 0 (0, fun _ => (0, 0, 0)) SI SJ (by omega) ⟨FI.rf, FJ.rf, ⟨h37, fun k hk => absurd hk (Nat.not_lt_zero k)⟩, fun k hk => absurd hk (Nat.not_lt_zero k), by show 0 + c2 n ≤ 66; omega⟩ ?_
  · intro i s A B hi hH ih
    have hLA := lw _ _ _ _ hH
    refine lp_248_53 _ _ _ A B ⟨fun q => ?_, fun q => ?_⟩
    · rw [hLA.1, i3_le (by omega) (by omega) (by omega) (by omega)] at q; omega
    · rw [i3_add]
      exact inner i s A B hi hH ih
  · intro A' B' hH'
    have hLA := lw _ _ _ _ hH'
    obtain ⟨g1, g2, g3, g4, g5⟩ := hH'
    refine lp_248_53 _ _ _ A' B' ⟨fun _ => ?_, fun q => ?_⟩
    · refine frs_end (frs W n) k w hk hw h1 g3 ?_ (h A' B' (g1.le (fun o k z => Or.inr z)) (g2.le (fun o k z => Or.elim z (fun y => Or.inl (LPx_J1 o k y)) Or.inr)))
      have g5' : (frs W n).1 + c2 (n - n) ≤ 66 := g5
      omega
    · rw [hLA.1, i3_le (by omega) (by omega) (by omega) (by omega)] at q; omega
theorem sp_frees {Q : Int64 → gj_I → gj_J → Prop} {a b : Int32} (hR : RF F SI) (hW : Wp F) (hT : Wt F) (hN : Wn F) (k w : Int) (kr : -2147483648 ≤ k ∧ k < 2147483648) (wr : -2147483648 ≤ w ∧ w < 2147483648) (ha : a = i3 k) (hb : b = i3 w) (h : ∀ SI' SJ', FI LIg SI SI' → FJ LJg SJ SJ' → Q (i6 (freesA F k w)) SI' SJ') : DoL E 248 [(.ref 81), (.int a), (.int b)] SI SJ Q := by
  subst ha; subst hb
  have nb := nw_b hN
  have hB := Wl_b hW hT (hN.ok hW.1)
  have hfb := fullS_b (n := nf F * fc F) (by omega)
  have rk := rkF_I F
  have bad : ¬ (-1 ≤ k ∧ 0 ≤ w ∧ w ≤ 2) → Q (i6 (-9000000000000000000)) SI SJ := by
    intro z
    have e : freesA F k w = -9000000000000000000 := if_neg z
    have hh := h SI SJ FI.rf FJ.rf
    rw [e] at hh; exact hh
  refine st_248 _ _ SI SJ ?_
  rw [i3_64 (by omega) (by omega), i3_lt (b := -1) (by omega) (by omega) (by omega) (by omega)]
  refine ⟨fun c => bad (by omega), fun c => sp_in (by omega) (by omega) (by omega) (by omega) (by omega) (by omega) ⟨fun z => ?_, fun z => ?_⟩⟩
  · rw [ib_0] at z; exact bad (fun y => z y.2)
  · rw [ib_0, Decidable.not_not] at z
    have e : freesA F k w = frsA (frsF F) k w := if_pos ⟨by omega, z⟩
    rw [e] at h
    have key : (k = -1 → w = 0) → DoV E 184 [(.ref 81)] SI SJ (fun SI4 SJ4 => DoI E 185 [(.ref 81)] (gj_u2 SI4 81 37 (i3 0)) SJ4 (fun r5 SI6 SJ6 => DoI E 193 [(.ref 81), (.int r5)] SI6 SJ6 (fun r7 SI8 SJ8 => (¬ r7 = (i3 3) → (¬ i3 k = (i3 (-1)) → (i3 k < (SI8 81 37) → (¬ i3 w = 0 → (¬ i3 w = (i3 1) → vp_in (i3 k) 70 ∧ (Q (SJ8 99 (gj_n (i3 k))) SI8 SJ8)) ∧ (i3 w = (i3 1) → vp_in (i3 k) 70 ∧ (Q (SJ8 98 (gj_n (i3 k))) SI8 SJ8))) ∧ (i3 w = 0 → vp_in (i3 k) 70 ∧ (Q (SJ8 97 (gj_n (i3 k))) SI8 SJ8))) ∧ (¬ i3 k < (SI8 81 37) → Q (i6 (-9000000000000000000)) SI8 SJ8)) ∧ (i3 k = (i3 (-1)) → Q (SI8 81 37).toInt64 SI8 SJ8)) ∧ (r7 = (i3 3) → GoL E mt_248 53 [some (.ref 81), some (.int (i3 k)), some (.int (i3 w)), some (.int (i3 0)), none] SI8 SJ8 Q)))) := by
      intro h1
      unfold frsF WW nW at h
      refine sp_lays hR hW hT hN (fun A B f1 f2 hL => ?_)
      have hL2 : LW (Wl F (ctF F)) (fun j => ((j / fc F : Nat) : Int)) (nf F * fc F) (gj_u2 A 81 37 (i3 0)) B := ⟨by rw [u2_n (by omega)]; exact hL.1, fun j hj => by rw [u2_n (by omega)]; exact hL.2 j hj⟩
      refine sp_all hL2.1 (by omega) (sp_rankOf hL2 (by omega) hB (fullS (nf F * fc F)) (by omega) rfl (fun r B2 f3 hr hr2 => ?_))
      have er : r = rkF F := rkI_un hr rk.1
      subst er
      rw [i3_eq (a := rkF F) (by omega) (by omega) (by omega) (by omega)]
      have fA : FI LIg SI (gj_u2 A 81 37 (i3 0)) := (f1.le (fun o k z => Or.inl z) : FI LIg SI A).u (Or.inr ⟨rfl, rfl⟩)
      have fB : FJ LJg SJ B2 := (f2.tr (f3.le LPx_J1)).le (fun o k z => Or.inl z)
      refine ⟨fun c3 => ?_, fun c3 => ?_⟩
      · rw [if_neg c3] at h
        exact frs_end (0, fun _ => (0, 0, 0)) k w (by omega) z h1 ⟨u2_s, fun k hk => absurd hk (Nat.not_lt_zero k)⟩ (by decide) (h _ _ fA fB)
      · rw [if_pos c3] at h
        exact frs_loop k w (by omega) z h1 (hL2.f f3) nb hB u2_s (fun A' B' g1 g2 => h A' B' (fA.tr g1) (fB.tr g2))
    by_cases q : k = -1
    · refine ⟨fun y => absurd (by rw [q]) y, fun _ => ?_⟩
      rw [i3_le0 (by omega) (by omega)]
      refine ⟨fun y => key (fun _ => by omega), fun y => ?_⟩
      have hh := h SI SJ FI.rf FJ.rf
      have e2 : frsA (frsF F) k w = -9000000000000000000 := by unfold frsA; rw [if_pos q, if_neg (by omega)]
      rw [e2] at hh; exact hh
    · refine ⟨fun _ => key (fun y => absurd y q), fun y => ?_⟩
      rw [i3_eq (by omega) (by omega) (by omega) (by omega)] at y; exact absurd y q
end Frees2
