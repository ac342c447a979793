/-! 9k: firm by a set of fingers: needed, least, safe, finger, count of the class -/
theorem co_all : ∀ n, n < 7 → ∀ s, s < 64 → s ≤ fullS n → pct (wo (fullS n) s) = n - pct s ∧ pct s ≤ n ∧ wo (fullS n) (wo (fullS n) s) = s := by decide +kernel
theorem pct_full : ∀ n, n < 7 → pct (fullS n) = n := by decide +kernel
theorem lsS_ne (F : Nat → Int) (m : Nat) : ∀ d s t, s ≤ t → t < s + d → pct t = m → firmS F t → lsS F m s d ≠ -2 := by
  intro d
  induction d with
  | zero => intro s t h1 h2; omega
  | succ d ih =>
    intro s t h1 h2 h3 h4
    by_cases q : pct s = m ∧ firmS F s
    · have e : lsS F m s (d + 1) = s := if_pos q
      rw [e]; omega
    · have e : lsS F m s (d + 1) = lsS F m (s + 1) d := if_neg q
      rw [e]
      by_cases u : s = t
      · subst u; exact absurd ⟨h3, h4⟩ q
      · exact ih (s + 1) t (by omega) (by omega) h3 h4
theorem lsM_ne (F : Nat → Int) : ∀ d m t, m ≤ t → t < m + d → lsS F t 0 (fullS (nf F) + 1) ≠ -2 → lsM F m d ≠ -2 := by
  intro d
  induction d with
  | zero => intro m t h1 h2; omega
  | succ d ih =>
    intro m t h1 h2 h3
    by_cases q : lsS F m 0 (fullS (nf F) + 1) = -2
    · have e : lsM F m (d + 1) = lsM F (m + 1) d := if_pos q
      rw [e]
      by_cases u : m = t
      · subst u; exact absurd q h3
      · exact ih (m + 1) t (by omega) (by omega) h3
    · have e : lsM F m (d + 1) = lsS F m 0 (fullS (nf F) + 1) := if_neg q
      rw [e]; exact q
theorem full_bit {n j : Nat} (h : j < n) : (fullS n).testBit j = true := by
  unfold fullS
  rw [Nat.testBit_two_pow_sub_one]; exact decide_eq_true h
theorem firmS_full {F : Nat → Int} : firmS F (fullS (nf F)) ↔ firmF F := by
  have e : wsO F (fullS (nf F)) = fullS (nf F * fc F) := by
    obtain ⟨w1, w2⟩ := wsO_s F (fullS (nf F))
    apply Nat.eq_of_testBit_eq
    intro j
    by_cases q : j < nf F * fc F
    · rw [w2 j q, full_bit q, full_bit (Nat.div_lt_of_lt_mul (by rw [Nat.mul_comm]; exact q))]
    · rw [Nat.testBit_lt_two_pow (Nat.lt_of_lt_of_le w1 (Nat.pow_le_pow_right (by decide) (by omega)))]
      unfold fullS
      rw [Nat.testBit_two_pow_sub_one]; exact (decide_eq_false q).symm
  unfold firmS firmF
  rw [e]
theorem lsM_firm {F : Nat → Int} (hN : Wn F) (h : firmF F) : lsM F 1 (nf F) ≠ -2 := by
  have n6 : nf F ≤ 6 := by have := hN.2.1; unfold nf; omega
  have n1 : 1 ≤ nf F := by
    by_cases q : nf F = 0
    · obtain ⟨⟨i, j, k, h1, h2, h3, h4, h5, h6⟩, g⟩ := h
      have := h3.1
      rw [q, Nat.zero_mul] at this; omega
    · omega
  exact lsM_ne F (nf F) 1 (nf F) n1 (by omega) (lsS_ne F (nf F) _ 0 (fullS (nf F)) (by omega) (by omega) (pct_full _ (by omega)) (firmS_full.mpr h))
theorem lsS_1 {F : Nat → Int} {m : Nat} (hm : 1 ≤ m) : lsS F m 0 (fullS (nf F) + 1) = lsS F m 1 (fullS (nf F)) := by
  refine if_neg (fun c => ?_)
  have : pct 0 = 0 := by decide
  omega
section FingC
variable {E : gj_E} {SI : gj_I} {SJ : gj_J} {F : Nat → Int}
theorem sp_allC {Q : Int32 → gj_I → gj_J → Prop} (h5 : SI 3 5 = i3 (F 17)) (hN : Wn F) (h : Q (i3 ((fullS (nf F) : Nat) : Int)) SI SJ) : DoI E 126 [(.ref 0)] SI SJ Q := by
  refine st_126 SI SJ ?_
  have n0 := hN.1; have n1 := hN.2.1
  have en : F 17 = nf F := by unfold nf; omega
  have n6 : nf F ≤ 6 := by omega
  have h2 : 1 ≤ 2 ^ nf F := Nat.one_le_two_pow
  rw [h5, en, i3_shl (by omega), i3_sub]
  unfold fullS at h
  rw [show ((2 ^ nf F : Nat) : Int) - 1 = ((2 ^ nf F - 1 : Nat) : Int) by omega]
  exact h
theorem sp_firmByC {Q : Int32 → gj_I → gj_J → Prop} {a : Int32} (hg : GR F SI SJ) (hF : WF F) (s : Nat) (hs : s < 64) (ha : a = i3 s) (h : Q (ibc (firmS F s)) SI SJ) : DoI E 127 [(.ref 0), (.int a)] SI SJ Q := by
  obtain ⟨hW, hT, hN, -, -, -⟩ := hF
  have hb := nw_b hN
  have hB := Wl_b hW hT (hN.ok hW.1)
  obtain ⟨w1, w2⟩ := wsO_s F s
  have w14 : 2 ^ (nf F * fc F) ≤ 2 ^ 12 := Nat.pow_le_pow_right (by decide) hb
  obtain ⟨g1, g2, g3, g4⟩ := hg
  refine st_127 _ SI SJ (sp_ownedBy g1 (show nf F * fc F ≤ 14 by omega) (fun j hj => ?_) s (by omega) ha (wsO F s) w1 (fun j hj => ?_) ?_)
  · have hj2 : j < nf F * fc F := hj
    have : j / fc F ≤ j := Nat.div_le_self ..
    exact ⟨Int.natCast_nonneg _, Int.ofNat_lt.mpr (Nat.lt_of_le_of_lt this (show j < 31 by omega))⟩
  · rw [w2 j hj]; congr 1
  · refine sp_spans42 g1.1 g2 (show nf F * fc F ≤ 14 by omega) hB (wsO F s) (by omega) rfl ⟨?_, h⟩
    by_cases q : firm (WW F) (nW F) (wsO F s)
    · rw [ibc_t q]; right; rfl
    · rw [ibc_f q]; left; rfl
theorem sp_neededC {Q : Int32 → gj_I → gj_J → Prop} (h5 : SI 3 5 = i3 (F 17)) (hg : GR F SI SJ) (hF : WF F) (h : Q (i3 (ndS F (nf F) : Nat)) SI SJ) : DoI E 128 [(.ref 0)] SI SJ Q := by
  have hN := hF.2.2.1
  have n0 := hN.1; have n1 := hN.2.1
  have en : F 17 = nf F := by unfold nf; omega
  have fl := fullS_lt hN
  refine st_128 SI SJ ?_
  refine up_lp (α := Unit) (P := fun i _ A B => A = SI ∧ B = SJ) (G := fun i _ A B => GoI E mt_128 4 [some (.ref 0), some (.int (i3 ((ndS F i : Nat) : Int))), some (.int (i3 i))] A B Q) (nf F) ?_ ?_ 0 () SI SJ (by omega) ⟨rfl, rfl⟩
  · rintro _ A B ⟨rfl, rfl⟩
    refine lp_128_4 _ _ A B ⟨fun _ => h, fun q => ?_⟩
    rw [h5, i3_le (by omega) (by omega) (by omega) (by omega)] at q; omega
  · rintro i _ A B hi ⟨rfl, rfl⟩ ih
    refine lp_128_4 _ _ A B ⟨fun q => ?_, fun q => sp_allC h5 hN ?_⟩
    · rw [h5, i3_le (by omega) (by omega) (by omega) (by omega)] at q; omega
    · rw [i3_shl (by omega), i3_wo, i3_add, show (i : Int) + 1 = ((i + 1 : Nat) : Int) by omega, i3_or]
      have wl1 := wo_le (a := fullS (nf F)) (b := 2 ^ i)
      have nx := ih () A B ⟨rfl, rfl⟩
      refine sp_firmByC hg hF (wo (fullS (nf F)) (2 ^ i)) (by omega) rfl ⟨fun y => ?_, fun y => ?_⟩
      · rw [ibc_0, Classical.not_not] at y
        have e : ndS F (i + 1) = ndS F i := if_pos y
        rw [e] at nx; exact nx
      · rw [ibc_0] at y
        have e : ndS F (i + 1) = ndS F i ||| 2 ^ i := if_neg y
        rw [e] at nx; exact nx
theorem sp_leastC {Q : Int32 → gj_I → gj_J → Prop} (h5 : SI 3 5 = i3 (F 17)) (hg : GR F SI SJ) (hF : WF F) (hf : firmF F) (h : Q (i3 (lsM F 1 (nf F))) SI SJ) : DoI E 129 [(.ref 0)] SI SJ Q := by
  have hN := hF.2.2.1
  have n0 := hN.1; have n1 := hN.2.1
  have en : F 17 = nf F := by unfold nf; omega
  have fl := fullS_lt hN
  have ne := lsM_firm hN hf
  refine st_129 SI SJ ?_
  have inner : ∀ (m : Nat) (R : Int), m ≤ 6 → (R = -2 → GoI E mt_129 2 [some (.ref 0), some (.int (i3 ((m + 1 : Nat) : Int))), none] SI SJ Q) → (R ≠ -2 → Q (i3 R) SI SJ) → ∀ (d s : Nat), s + d = fullS (nf F) + 1 → lsS F m s d = R → GoI E mt_129 15 [some (.ref 0), some (.int (i3 m)), some (.int (i3 s))] SI SJ Q := by
    intro m R hm hout hfin d
    induction d with
    | zero =>
      intro s hs hR2
      refine lp_129_15 _ _ SI SJ (sp_allC h5 hN ⟨fun _ => ?_, fun q => ?_⟩)
      · rw [i3_add, show (m : Int) + 1 = ((m + 1 : Nat) : Int) by omega]
        exact hout hR2.symm
      · rw [i3_lt (by omega) (by omega) (by omega) (by omega)] at q; omega
    | succ d ih =>
      intro s hs hR2
      have e31 : pct s ≤ 31 := pcn_le 31 s
      refine lp_129_15 _ _ SI SJ (sp_allC h5 hN ⟨fun q => ?_, fun q => sp_bitCount s (by omega) rfl ?_⟩)
      · rw [i3_lt (by omega) (by omega) (by omega) (by omega)] at q; omega
      · rw [i3_eq (by omega) (by omega) (by omega) (by omega), i3_add, show (s : Int) + 1 = ((s + 1 : Nat) : Int) by omega]
        refine ⟨fun y => ?_, fun y => sp_firmByC hg hF s (by omega) rfl ⟨fun w => ?_, fun w => ?_⟩⟩
        · have e : lsS F m s (d + 1) = lsS F m (s + 1) d := if_neg (fun c => y (by omega))
          exact ih (s + 1) (by omega) (by rw [← e]; exact hR2)
        · rw [ibc_0] at w
          have e : lsS F m s (d + 1) = lsS F m (s + 1) d := if_neg (fun c => w c.2)
          exact ih (s + 1) (by omega) (by rw [← e]; exact hR2)
        · rw [ibc_0, Classical.not_not] at w
          have e : lsS F m s (d + 1) = s := if_pos ⟨by omega, w⟩
          have er : R = s := by rw [← hR2, e]
          rw [← er]
          exact hfin (by omega)
  have outer : ∀ (d m : Nat), 1 ≤ m → m + d = nf F + 1 → lsM F m d = lsM F 1 (nf F) → GoI E mt_129 2 [some (.ref 0), some (.int (i3 m)), none] SI SJ Q := by
    intro d
    induction d with
    | zero =>
      intro m hm1 hm hR2
      exact absurd hR2.symm ne
    | succ d ih =>
      intro m hm1 hm hR2
      refine lp_129_2 _ SI SJ ⟨fun q => ?_, fun q => ?_⟩
      · rw [h5, i3_lt (by omega) (by omega) (by omega) (by omega)] at q; omega
      · refine inner m (lsS F m 0 (fullS (nf F) + 1)) (by omega) (fun e2 => ?_) (fun e2 => ?_) (fullS (nf F)) 1 (by omega) (lsS_1 hm1).symm
        · have e : lsM F m (d + 1) = lsM F (m + 1) d := if_pos e2
          exact ih (m + 1) (by omega) (by omega) (by rw [← e]; exact hR2)
        · have e : lsM F m (d + 1) = lsS F m 0 (fullS (nf F) + 1) := if_neg e2
          rw [← e, hR2]; exact h
  exact outer (nf F) 1 (by omega) (by omega) rfl
theorem sp_safeC {Q : Int32 → gj_I → gj_J → Prop} {a : Int32} (h5 : SI 3 5 = i3 (F 17)) (hg : GR F SI SJ) (hF : WF F) (k : Int) (kr : -2147483648 ≤ k ∧ k < 2147483648) (ha : a = i3 k) (h : Q (i3 (safeA F k)) SI SJ) : DoI E 130 [(.ref 0), (.int a)] SI SJ Q := by
  subst ha
  have hN := hF.2.2.1
  have n0 := hN.1; have n1 := hN.2.1
  have en : F 17 = nf F := by unfold nf; omega
  have fl := fullS_lt hN
  unfold safeA at h
  refine st_130 _ SI SJ ?_
  rw [i3_lt0 (by omega) (by omega), i3_le (by omega) (by omega) (by omega) (by omega), h5]
  refine ⟨fun c => ?_, fun c => ⟨fun d => ?_, fun d => ?_⟩⟩
  · rw [if_neg (by omega)] at h; exact h
  · rw [if_pos (by omega)] at h
    rw [i3_sub, i3_ifmax (by omega) (by omega) (by omega) (by omega)]
    obtain ⟨g, hg0⟩ : ∃ g : Nat, (min k (F 17)).toNat = g := ⟨_, rfl⟩
    rw [hg0] at h
    obtain ⟨t, ht⟩ : ∃ t : Nat, t + g = nf F := ⟨nf F - g, by omega⟩
    have et : (if 0 < F 17 - k then F 17 - k else 0) = (t : Int) := by
      split
      · omega
      · omega
    rw [et]
    have key : ∀ (d s : Nat), s + d = fullS (nf F) + 1 → (∀ r, r < s → pct r = t → firmS F r) → GoI E mt_130 28 [some (.ref 0), none, some (.int (i3 t)), some (.int (i3 s))] SI SJ Q := by
      intro d
      induction d with
      | zero =>
        intro s hs hp
        refine lp_130_28 _ _ SI SJ (sp_allC h5 hN ⟨fun _ => ?_, fun q => ?_⟩)
        · rw [bz_t (p := sfP F g) (fun r hr e => ?_)] at h; exact h
          obtain ⟨c1, c2, c3⟩ := co_all (nf F) (by omega) r (by omega) hr
          have wl1 := wo_le (a := fullS (nf F)) (b := r)
          exact hp _ (by omega) (by omega)
        · rw [i3_lt (by omega) (by omega) (by omega) (by omega)] at q; omega
      | succ d ih =>
        intro s hs hp
        have e31 : pct s ≤ 31 := pcn_le 31 s
        have nx : (pct s = t → firmS F s) → GoI E mt_130 28 [some (.ref 0), none, some (.int (i3 t)), some (.int (i3 ((s : Int) + 1)))] SI SJ Q := by
          intro hs2
          refine ih (s + 1) (by omega) (fun r hr e => ?_)
          by_cases q : r = s
          · subst q; exact hs2 e
          · exact hp r (by omega) e
        refine lp_130_28 _ _ SI SJ (sp_allC h5 hN ⟨fun q => ?_, fun q => sp_bitCount s (by omega) rfl ?_⟩)
        · rw [i3_lt (by omega) (by omega) (by omega) (by omega)] at q; omega
        · rw [i3_eq (by omega) (by omega) (by omega) (by omega), i3_add]
          refine ⟨fun y => nx (fun e => absurd (by omega) y), fun y => sp_firmByC hg hF s (by omega) rfl ⟨fun w => ?_, fun w => ?_⟩⟩
          · rw [ibc_0, Classical.not_not] at w
            exact nx (fun _ => w)
          · rw [ibc_0] at w
            rw [bz_f (p := sfP F g) (fun c => w ?_)] at h
            · exact h
            · obtain ⟨c1, c2, c3⟩ := co_all (nf F) (by omega) s (by omega) (by omega)
              have wl1 := wo_le (a := fullS (nf F)) (b := s)
              have := c (wo (fullS (nf F)) s) wl1 (by omega)
              rw [c3] at this; exact this
    exact key (fullS (nf F) + 1) 0 (by omega) (fun r hr => by omega)
  · rw [if_neg (by omega)] at h; exact h
end FingC
