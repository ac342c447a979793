/-! 56: opposite places of the reference -/
noncomputable def pe (F : Nat → Int) (i : Int) : Nat := Classical.epsilon (fun e => e < nC F ∧ pl F e ≤ i ∧ i < pl F (e + 1))
noncomputable def ps (F : Nat → Int) (i : Int) : Int := i - pl F (pe F i) + 1
theorem pe_s {F : Nat → Int} {i : Int} (h0 : 0 ≤ i) (h1 : i < pl F (nC F)) : pe F i < nC F ∧ pl F (pe F i) ≤ i ∧ i < pl F (pe F i + 1) := Classical.epsilon_spec (p := fun e => e < nC F ∧ pl F e ≤ i ∧ i < pl F (e + 1)) (pl_in h0 (nC F) h1)
theorem ps_b {F : Nat → Int} {i : Int} (h0 : 0 ≤ i) (h1 : i < pl F (nC F)) : 1 ≤ ps F i ∧ ps F i < stp F (pe F i) := by
  obtain ⟨a, b, c⟩ := pe_s h0 h1
  have e : pl F (pe F i + 1) = pl F (pe F i) + stp F (pe F i) - 1 := rfl
  unfold ps; omega
noncomputable def xp (F : Nat → Int) (i : Int) : Int := px F (pe F i) (ps F i)
noncomputable def yp (F : Nat → Int) (i : Int) : Int := py F (pe F i) (ps F i)
noncomputable def upp (F : Nat → Int) (i j : Int) : Int := -(xp F j - xp F i) * ay F (pe F i) + (yp F j - yp F i) * ax F (pe F i)
noncomputable def alo (F : Nat → Int) (i j : Int) : Int := (xp F j - xp F i) * ax F (pe F i) + (yp F j - yp F i) * ay F (pe F i)
def see (F : Nat → Int) (i j : Int) : Prop := 0 ≤ upp F i j ∧ F 31 * ((alo F i j).natAbs : Int) ≤ F 30 * upp F i j
def opp (F : Nat → Int) (i j : Int) : Prop := i ≠ j ∧ see F i j ∧ see F j i
theorem xp_b {F : Nat → Int} (hW : Wp F) {i : Int} (h0 : 0 ≤ i) (h1 : i < pl F (nC F)) : 0 ≤ xp F i ∧ xp F i ≤ 9 ∧ 0 ≤ yp F i ∧ yp F i ≤ 9 := by
  have b := ps_b h0 h1
  exact px_b hW (pe F i) (by omega) (by omega)
theorem upp_b {F : Nat → Int} (hW : Wp F) {i j : Int} (h0 : 0 ≤ i) (h1 : i < pl F (nC F)) (g0 : 0 ≤ j) (g1 : j < pl F (nC F)) : (upp F i j).natAbs ≤ 162 ∧ (alo F i j).natAbs ≤ 162 := by
  have b1 := xp_b hW h0 h1; have b2 := xp_b hW g0 g1; have b3 := hW.1.a (pe F i)
  have m1 := mul_b (a := -(xp F j - xp F i)) (b := ay F (pe F i)) (m := 9) (n := 9) (by omega) (by omega)
  have m2 := mul_b (a := yp F j - yp F i) (b := ax F (pe F i)) (m := 9) (n := 9) (by omega) (by omega)
  have m3 := mul_b (a := xp F j - xp F i) (b := ax F (pe F i)) (m := 9) (n := 9) (by omega) (by omega)
  have m4 := mul_b (a := yp F j - yp F i) (b := ay F (pe F i)) (m := 9) (n := 9) (by omega) (by omega)
  unfold upp alo; omega
section Opp
variable {E : gj_E} {SI : gj_I} {SJ : gj_J} {F : Nat → Int}
theorem sp_sees {Q : Int32 → gj_I → gj_J → Prop} {a b : Int32} (hR : RF F SI) (hW : Wp F) (hT : Wt F) (i j : Int) (h0 : 0 ≤ i) (h1 : i < pl F (nC F)) (g0 : 0 ≤ j) (g1 : j < pl F (nC F)) (ha : a = i3 i) (hb : b = i3 j) (h : Q (ibc (see F i j)) SI SJ) : DoI E 268 [(.ref 81), (.int a), (.int b)] SI SJ Q := by
  subst ha; subst hb
  obtain ⟨n1, n2, n3⟩ := hW.1.n
  obtain ⟨i1, i2, i3'⟩ := pe_s h0 h1
  obtain ⟨j1, j2, j3⟩ := pe_s g0 g1
  have ib := ps_b h0 h1; have jb := ps_b g0 g1
  have ex := xp_b hW h0 h1; have jx := xp_b hW g0 g1
  have ba := hW.1.a (pe F i)
  have si := hW.2.2 (pe F i); have sj := hW.2.2 (pe F j)
  have ub := upp_b hW h0 h1 g0 g1
  obtain ⟨t1, t2, t3, t4, -⟩ := hT
  refine st_268 _ _ SI SJ ?_
  refine sp_placeEdge hR hW i (pe F i) i1 i2 i3' rfl ?_
  refine sp_placeEdge hR hW j (pe F j) j1 j2 j3 rfl ?_
  refine sp_placeStep hR hW j (pe F j) j1 j2 j3 rfl ?_
  refine sp_atX hR hW.1 (pe F j) (ps F j) (by omega) sj rfl rfl ?_
  refine sp_placeStep hR hW i (pe F i) i1 i2 i3' rfl ?_
  refine sp_atX hR hW.1 (pe F i) (ps F i) (by omega) si rfl rfl ?_
  refine sp_placeEdge hR hW j (pe F j) j1 j2 j3 rfl ?_
  refine sp_placeStep hR hW j (pe F j) j1 j2 j3 rfl ?_
  refine sp_atY hR hW.1 (pe F j) (ps F j) (by omega) sj rfl rfl ?_
  refine sp_placeStep hR hW i (pe F i) i1 i2 i3' rfl ?_
  refine sp_atY hR hW.1 (pe F i) (ps F i) (by omega) si rfl rfl ?_
  refine sp_alongY hR hW.1 (pe F i) (by omega) si rfl ?_
  refine sp_alongX hR hW.1 (pe F i) (by omega) si rfl ?_
  refine sp_alongX hR hW.1 (pe F i) (by omega) si rfl ?_
  refine sp_alongY hR hW.1 (pe F i) (by omega) si rfl ?_
  have eu : (-(i3 (px F (pe F j) (ps F j)) - i3 (px F (pe F i) (ps F i))).toInt64) * (i3 (ay F (pe F i))).toInt64 + (i3 (py F (pe F j) (ps F j)) - i3 (py F (pe F i) (ps F i))).toInt64 * (i3 (ax F (pe F i))).toInt64 = i6 (upp F i j) := by
    unfold xp yp at ex jx
    rw [i3_sub, i3_sub, i3_64 (by omega) (by omega), i3_64 (by omega) (by omega), i3_64 (by omega) (by omega), i3_64 (by omega) (by omega), i6_neg, i6_mul, i6_mul, i6_add]
    rfl
  have el : (i3 (px F (pe F j) (ps F j)) - i3 (px F (pe F i) (ps F i))).toInt64 * (i3 (ax F (pe F i))).toInt64 + (i3 (py F (pe F j) (ps F j)) - i3 (py F (pe F i) (ps F i))).toInt64 * (i3 (ay F (pe F i))).toInt64 = i6 (alo F i j) := by
    unfold xp yp at ex jx
    rw [i3_sub, i3_sub, i3_64 (by omega) (by omega), i3_64 (by omega) (by omega), i3_64 (by omega) (by omega), i3_64 (by omega) (by omega), i6_mul, i6_mul, i6_add]
    rfl
  rw [eu, el, i6_lt (by omega) (by omega) (by omega) (by omega)]
  refine ⟨fun z => ?_, fun z => sp_size (by omega) (by omega) ?_⟩
  · rw [ibc_f (p := see F i j) (fun q => by have := q.1; omega)] at h; exact h
  · have m1 := mul_b (a := F 31) (b := ((alo F i j).natAbs : Int)) (m := 3) (n := 162) (by omega) (by omega)
    have m2 := mul_b (a := F 30) (b := upp F i j) (m := 3) (n := 162) (by omega) (by omega)
    rw [hR 31 (by decide), hR 30 (by decide), i3_64 (by omega) (by omega), i3_64 (by omega) (by omega), i6_mul, i6_mul]
    refine ⟨fun y => ?_, fun y => ?_⟩
    · have y' : i6 (F 30 * upp F i j) < i6 (F 31 * ((alo F i j).natAbs : Int)) := y
      rw [i6_lt (by omega) (by omega) (by omega) (by omega)] at y'
      rw [ibc_f (p := see F i j) (fun q => by have := q.2; omega)] at h; exact h
    · have y' : ¬ i6 (F 30 * upp F i j) < i6 (F 31 * ((alo F i j).natAbs : Int)) := y
      rw [i6_lt (by omega) (by omega) (by omega) (by omega)] at y'
      rw [ibc_t (p := see F i j) ⟨by omega, by omega⟩] at h; exact h
theorem sp_areOpposite {Q : Int32 → gj_I → gj_J → Prop} {a b : Int32} (hR : RF F SI) (hW : Wp F) (hT : Wt F) (i j : Int) (h0 : 0 ≤ i) (h1 : i < pl F (nC F)) (g0 : 0 ≤ j) (g1 : j < pl F (nC F)) (ha : a = i3 i) (hb : b = i3 j) (h : Q (ibc (opp F i j)) SI SJ) : DoI E 269 [(.ref 81), (.int a), (.int b)] SI SJ Q := by
  subst ha; subst hb
  obtain ⟨n1, n2, n3⟩ := hW.1.n
  have pb := pl_b hW.1 (nC F)
  refine st_269 _ _ SI SJ ?_
  rw [i3_eq (by omega) (by omega) (by omega) (by omega)]
  refine ⟨fun z => ?_, fun z => sp_sees hR hW hT i j h0 h1 g0 g1 rfl rfl ⟨fun y => ?_, fun y => sp_sees hR hW hT j i g0 g1 h0 h1 rfl rfl ⟨fun w => ?_, fun w => ?_⟩⟩⟩
  · rw [ibc_f (p := opp F i j) (fun q => q.1 z)] at h; exact h
  · rw [ibc_0] at y
    rw [ibc_f (p := opp F i j) (fun q => y q.2.1)] at h; exact h
  · rw [ibc_0] at w
    rw [ibc_f (p := opp F i j) (fun q => w q.2.2)] at h; exact h
  · rw [ibc_0, Classical.not_not] at y w
    rw [ibc_t (p := opp F i j) ⟨z, y, w⟩] at h; exact h
noncomputable def oppA (F : Nat → Int) (i j : Int) : Int := if 0 ≤ i ∧ i < pl F (nC F) ∧ 0 ≤ j ∧ j < pl F (nC F) then bz (opp F i j) else -1
theorem sp_opposite {Q : Int32 → gj_I → gj_J → Prop} {a b : Int32} (hR : RF F SI) (hW : Wp F) (hT : Wt F) (i j : Int) (hi : -2147483648 ≤ i ∧ i < 2147483648) (hj : -2147483648 ≤ j ∧ j < 2147483648) (ha : a = i3 i) (hb : b = i3 j) (h : Q (i3 (oppA F i j)) SI SJ) : DoI E 270 [(.ref 81), (.int a), (.int b)] SI SJ Q := by
  subst ha; subst hb
  unfold oppA at h
  refine st_270 _ _ SI SJ (sp_isPlace hR hW.1 i hi rfl ⟨fun z => ?_, fun z => sp_isPlace hR hW.1 j hj rfl ⟨fun y => ?_, fun y => ?_⟩⟩)
  · rw [ibc_0] at z; rw [if_neg (by omega)] at h; exact h
  · rw [ibc_0, Decidable.not_not] at z y
    rw [if_pos (by omega)] at h
    refine sp_areOpposite hR hW hT i j z.1 z.2 y.1 y.2 rfl rfl ⟨fun w => ?_, fun w => ?_⟩
    · rw [ibc_0] at w; rw [bz_f w] at h; exact h
    · rw [ibc_0, Classical.not_not] at w; rw [bz_t w] at h; exact h
  · rw [ibc_0] at y; rw [if_neg (by omega)] at h; exact h
/-- so many of the first d from j on -/
noncomputable def opN (F : Nat → Int) (i : Int) : Nat → Nat → Int
  | _, 0 => 0
  | j, d + 1 => bz (opp F i j) + opN F i (j + 1) d
theorem opN_b (F : Nat → Int) (i : Int) : ∀ d j, 0 ≤ opN F i j d ∧ opN F i j d ≤ d := by
  intro d
  induction d with
  | zero => intro j; exact ⟨Int.le_refl 0, Int.le_refl 0⟩
  | succ d ih =>
    intro j
    have a := ih (j + 1); have b := bz_01 (opp F i j)
    unfold opN; omega
noncomputable def opF (F : Nat → Int) (i : Int) : Nat → Nat → Int
  | _, 0 => -2
  | j, d + 1 => @ite _ (opp F i j) (Classical.propDecidable _) (j : Int) (opF F i (j + 1) d)
noncomputable def pn (F : Nat → Int) : Nat := (pl F (nC F)).toNat
theorem pn_e {F : Nat → Int} (hW : Wp F) : pl F (nC F) = pn F ∧ pn F ≤ 64 := by
  obtain ⟨n1, n2, n3⟩ := hW.1.n
  have pb := pl_b hW.1 (nC F)
  have m := hW.mono (nC F) 0
  have e0 : pl F 0 = 0 := rfl
  rw [Nat.zero_add, e0] at m
  unfold pn; omega
theorem sp_oppositeMany {Q : Int32 → gj_I → gj_J → Prop} {a : Int32} (hR : RF F SI) (hW : Wp F) (hT : Wt F) (i : Int) (h0 : 0 ≤ i) (h1 : i < pl F (nC F)) (ha : a = i3 i) (h : Q (i3 (opN F i 0 (pn F))) SI SJ) : DoI E 271 [(.ref 81), (.int a)] SI SJ Q := by
  subst ha
  obtain ⟨e, eb⟩ := pn_e hW
  refine st_271 _ SI SJ ?_
  have key : ∀ (d j : Nat) (x : Int), j + d = pn F → x + opN F i j d = opN F i 0 (pn F) → GoI E mt_271 4 [some (.ref 81), some (.int (i3 i)), some (.int (i3 x)), some (.int (i3 j))] SI SJ Q := by
    intro d
    induction d with
    | zero =>
      intro j x hj hx
      refine lp_271_4 _ _ _ SI SJ (sp_placeMany hR hW.1 ⟨fun _ => ?_, fun z => ?_⟩)
      · have e0 : opN F i j 0 = 0 := rfl
        rw [show x = opN F i 0 (pn F) by omega]; exact h
      · rw [e, i3_le (by omega) (by omega) (by omega) (by omega)] at z; omega
    | succ d ih =>
      intro j x hj hx
      have es : opN F i j (d + 1) = bz (opp F i j) + opN F i (j + 1) d := rfl
      refine lp_271_4 _ _ _ SI SJ (sp_placeMany hR hW.1 ⟨fun z => ?_, fun z => ?_⟩)
      · rw [e, i3_le (by omega) (by omega) (by omega) (by omega)] at z; omega
      · refine sp_areOpposite hR hW hT i j h0 h1 (by omega) (by omega) rfl rfl ⟨fun y => ?_, fun y => ?_⟩
        · rw [ibc_0] at y; rw [bz_f y] at es
          rw [i3_add, show (j : Int) + 1 = ((j + 1 : Nat) : Int) by omega]
          exact ih (j + 1) x (by omega) (by omega)
        · rw [ibc_0, Classical.not_not] at y; rw [bz_t y] at es
          simp only [i3_add]
          rw [show (j : Int) + 1 = ((j + 1 : Nat) : Int) by omega]
          exact ih (j + 1) (x + 1) (by omega) (by omega)
  exact key (pn F) 0 0 (by omega) (by omega)
theorem sp_oppositeFirst {Q : Int32 → gj_I → gj_J → Prop} {a : Int32} (hR : RF F SI) (hW : Wp F) (hT : Wt F) (i : Int) (h0 : 0 ≤ i) (h1 : i < pl F (nC F)) (ha : a = i3 i) (h : Q (i3 (opF F i 0 (pn F))) SI SJ) : DoI E 272 [(.ref 81), (.int a)] SI SJ Q := by
  subst ha
  obtain ⟨e, eb⟩ := pn_e hW
  refine st_272 _ SI SJ ?_
  have key : ∀ (d j : Nat), j + d = pn F → opF F i j d = opF F i 0 (pn F) → GoI E mt_272 2 [some (.ref 81), some (.int (i3 i)), some (.int (i3 j))] SI SJ Q := by
    intro d
    induction d with
    | zero =>
      intro j hj hx
      refine lp_272_2 _ _ SI SJ (sp_placeMany hR hW.1 ⟨fun _ => ?_, fun z => ?_⟩)
      · rw [← hx] at h; exact h
      · rw [e, i3_le (by omega) (by omega) (by omega) (by omega)] at z; omega
    | succ d ih =>
      intro j hj hx
      refine lp_272_2 _ _ SI SJ (sp_placeMany hR hW.1 ⟨fun z => ?_, fun z => ?_⟩)
      · rw [e, i3_le (by omega) (by omega) (by omega) (by omega)] at z; omega
      · refine sp_areOpposite hR hW hT i j h0 h1 (by omega) (by omega) rfl rfl ⟨fun y => ?_, fun y => ?_⟩
        · rw [ibc_0] at y
          have es : opF F i j (d + 1) = opF F i (j + 1) d := if_neg y
          rw [i3_add, show (j : Int) + 1 = ((j + 1 : Nat) : Int) by omega]
          exact ih (j + 1) (by omega) (by omega)
        · rw [ibc_0, Classical.not_not] at y
          have es : opF F i j (d + 1) = j := if_pos y
          rw [← hx, es] at h; exact h
  exact key (pn F) 0 (by omega) rfl
noncomputable def opS (F : Nat → Int) : Nat → Nat → Int
  | _, 0 => 0
  | i, d + 1 => opN F i 0 (pn F) + opS F (i + 1) d
theorem opS_b {F : Nat → Int} (hp : pn F ≤ 64) : ∀ d i, 0 ≤ opS F i d ∧ opS F i d ≤ 64 * d := by
  intro d
  induction d with
  | zero => intro j; exact ⟨Int.le_refl 0, Int.le_refl 0⟩
  | succ d ih =>
    intro j
    have a := ih (j + 1); have b := opN_b F j (pn F) 0
    unfold opS; omega
theorem sp_opposites {Q : Int32 → gj_I → gj_J → Prop} (hR : RF F SI) (hW : Wp F) (hT : Wt F) (h : Q (i3 (opS F 0 (pn F) / 2)) SI SJ) : DoI E 273 [(.ref 81)] SI SJ Q := by
  obtain ⟨e, eb⟩ := pn_e hW
  have sb := opS_b eb (pn F) 0
  refine st_273 SI SJ ?_
  have key : ∀ (d i : Nat) (x : Int), i + d = pn F → x + opS F i d = opS F 0 (pn F) → GoI E mt_273 4 [some (.ref 81), some (.int (i3 x)), some (.int (i3 i))] SI SJ Q := by
    intro d
    induction d with
    | zero =>
      intro i x hi hx
      refine lp_273_4 _ _ SI SJ (sp_placeMany hR hW.1 ⟨fun _ => ?_, fun z => ?_⟩)
      · have e0 : opS F i 0 = 0 := rfl
        rw [show x = opS F 0 (pn F) by omega]
        have ed : i3 (opS F 0 (pn F)) / i3 2 = i3 (opS F 0 (pn F) / 2) := by
          rw [i3_div (by omega) (by omega) (by omega) (by omega), Int.tdiv_eq_ediv_of_nonneg sb.1]
        rw [ed]; exact h
      · rw [e, i3_le (by omega) (by omega) (by omega) (by omega)] at z; omega
    | succ d ih =>
      intro i x hi hx
      have es : opS F i (d + 1) = opN F i 0 (pn F) + opS F (i + 1) d := rfl
      refine lp_273_4 _ _ SI SJ (sp_placeMany hR hW.1 ⟨fun z => ?_, fun z => ?_⟩)
      · rw [e, i3_le (by omega) (by omega) (by omega) (by omega)] at z; omega
      · refine sp_oppositeMany hR hW hT i (by omega) (by omega) rfl ?_
        simp only [i3_add]
        rw [show (i : Int) + 1 = ((i + 1 : Nat) : Int) by omega]
        exact ih (i + 1) _ (by omega) (by omega)
  exact key (pn F) 0 0 (by omega) (by omega)
end Opp
