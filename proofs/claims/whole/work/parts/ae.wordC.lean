/-! ae: words of the class -/
theorem st_294n {E : gj_E} {Q : Int32 → gj_I → gj_J → Prop} (a1 : Int32) (a2 : Int32) (SI : gj_I) (SJ : gj_J) (h : (a1 < 0 → False) ∧ (¬ a1 < 0 → (a1 < a2 → Q a1 SI SJ) ∧ (¬ a1 < a2 → False))) : DoI E 294 [(.int a1), (.int a2), .null] SI SJ Q := by
  refine gj_start (M := mt_294) ok_294 (Nat.le_of_ble_eq_true rfl) ?_
  refine gj_goq gj_clT ok_294 [] ?_
  show (a1 < 0 → gj_Goes E om0 mt_294 9 [some (.int a1), some (.int a2), some .null] [] SI SJ (QI Q)) ∧ (¬ a1 < 0 → (a1 < a2 → gj_Goes E om0 mt_294 16 [some (.int a1), some (.int a2), some .null] [] SI SJ (QI Q)) ∧ (¬ a1 < a2 → False))
  refine ⟨fun c1 => ?_, fun c1 => ?_⟩
  · refine gj_goq gj_clT ok_294 [] ?_
    show False
    exact (h.1 c1).elim
  · refine ⟨fun c2 => ?_, fun c2 => ?_⟩
    · refine gj_goq gj_clT ok_294 [] ?_
      show QI Q (some (.int a1)) SI SJ
      exact ⟨_, rfl, ((h.2 c1).1 c2)⟩
    · exact ((h.2 c1).2 c2).elim
/-- letters of the four words -/
def wch (w i : Nat) : Int := (([[112, 117, 116], [116, 97, 107, 101], [116, 114, 101, 97, 100], [99, 101, 110, 116, 114, 101]] : List (List Int)).getD w []).getD i 0
section WordC
variable {E : gj_E} {SI : gj_I} {SJ : gj_J} {T : Nat → Int} {n p : Nat}
theorem sp_chkI {Q : gj_I → gj_J → Prop} {a b : Int32} (i l : Nat) (hi : i < l) (hl : l < 100) (ha : a = i3 i) (hb : b = i3 l) (h : Q SI SJ) : DoV E 292 [(.int a), (.int b)] SI SJ Q := by
  subst ha; subst hb
  have g : (i3 (i : Nat) < 0 → False) ∧ (¬ i3 (i : Nat) < 0 → (i3 (i : Nat) < i3 (l : Nat) → Q SI SJ) ∧ (¬ i3 (i : Nat) < i3 (l : Nat) → False)) := by
    rw [i3_lt0 (by omega) (by omega), i3_lt (by omega) (by omega) (by omega) (by omega)]
    exact ⟨fun c => by omega, fun _ => ⟨fun _ => h, fun c => by omega⟩⟩
  exact st_292 _ _ SI SJ ⟨st_294n _ _ SI SJ g, st_294 _ _ SI SJ g⟩
theorem sp_wordLen {Q : Int32 → gj_I → gj_J → Prop} (hP : CP T n p SI) (h : Q (i3 (wl T n 120 p : Nat)) SI SJ) : DoI E 78 [(.ref 1)] SI SJ Q := by
  obtain ⟨h1, h2, h3, h4, h5⟩ := hP
  refine st_78 SI SJ ?_
  have loop : ∀ (f i : Nat), i + f = 120 → wl T n 120 p = i + wl T n f (p + i) → GoI E mt_78 2 [some (.ref 1), some (.int (i3 (i : Nat)))] SI SJ Q := by
    intro f
    induction f with
    | zero =>
      intro i hi e
      refine lp_78_2 _ SI SJ ⟨fun _ => ?_, fun q => ?_⟩
      · have e' : wl T n 120 p = i := e
        rw [e'] at h; exact h
      · rw [i3_le (by omega) (by omega) (by omega) (by omega)] at q; omega
    | succ f ih =>
      intro i hi e
      have b := hr_bC h1 h2 (p + i)
      have e2 : wl T n (f + 1) (p + i) = if lt T n (p + i) then 1 + wl T n f (p + i + 1) else 0 := rfl
      rw [e2] at e
      refine lp_78_2 _ SI SJ ⟨fun q => ?_, fun _ => sp_sign h1 h2 h4 (p + i) (by omega) (by rw [h5, i3_add]; rfl) ?_⟩
      · rw [i3_le (by omega) (by omega) (by omega) (by omega)] at q; omega
      · have no : ¬ lt T n (p + i) → Q (i3 (i : Nat)) SI SJ := fun z => by
          rw [if_neg z] at e
          rw [e] at h; exact h
        rw [i3_lt (by omega) (by omega) (by omega) (by omega)]
        refine ⟨fun q => no (fun z => by omega), fun q => sp_sign h1 h2 h4 (p + i) (by omega) (by rw [h5, i3_add]; rfl) ?_⟩
        rw [i3_lt (by omega) (by omega) (by omega) (by omega)]
        refine ⟨fun q2 => no (fun z => by omega), fun q2 => ?_⟩
        rw [if_pos (show lt T n (p + i) from ⟨by omega, by omega⟩)] at e
        rw [i3_add]
        refine ih (i + 1) (by omega) ?_
        rw [show p + (i + 1) = p + i + 1 by omega]; omega
  exact loop 120 0 (by omega) (by rw [Nat.zero_add, Nat.add_zero])
theorem wl_le (T : Nat → Int) (n : Nat) : ∀ f p, wl T n f p ≤ f := by
  intro f
  induction f with
  | zero => intro p; exact Nat.le_refl _
  | succ f ih =>
    intro p
    unfold wl
    split
    · have := ih (p + 1); omega
    · omega
/-- the word w stands at p -/
def mW (w l : Nat) (T : Nat → Int) (n p : Nat) : Prop := wl T n 120 p = l ∧ ∀ i, i < l → hr T n (p + i) = wch w i
theorem mW_n {w l : Nat} (hl : 0 < l) (h : mW w l T n p) : p + l ≤ n := by
  have := wl_lt T n 120 p (l - 1) (by rw [h.1]; omega)
  have := hr_lt (show 0 ≤ hr T n (p + (l - 1)) by have := this.1; omega)
  omega
theorem sp_len132 {Q : Int32 → gj_I → gj_J → Prop} (h : Q (i3 3) SI SJ) : DoI E 288 [(.ref 132)] SI SJ Q := by
  refine st_288_132 SI SJ (st_290_132 SI SJ ⟨fun z => absurd z (by decide), fun _ => ⟨rfl, ?_⟩⟩)
  rw [show (i3 3 >>> (i3 0 &&& 31)) = i3 3 by decide]; exact h
theorem wb132 : ∀ i, i < 3 → ((gj_stf E 8 i &&& i3 255).toUInt32 % 65536).toInt32 = i3 (wch 0 i) ∧ narrow .char (.int (i3 (wch 0 i))) = .int (i3 (wch 0 i)) ∧ 0 ≤ wch 0 i ∧ wch 0 i ≤ 255 := by
  intro i hi
  have e : gj_stf E 8 i = (gj_stt.getD 8 []).getD i 0 := rfl
  rw [e]
  exact (by decide : ∀ i, i < 3 → ((((gj_stt.getD 8 []).getD i 0) &&& i3 255).toUInt32 % 65536).toInt32 = i3 (wch 0 i) ∧ narrow .char (.int (i3 (wch 0 i))) = .int (i3 (wch 0 i)) ∧ 0 ≤ wch 0 i ∧ wch 0 i ≤ 255) i hi
theorem sp_charAt132 {Q : Int32 → gj_I → gj_J → Prop} {a : Int32} (i : Nat) (hi : i < 3) (ha : a = i3 i) (h : Q (i3 (wch 0 i)) SI SJ) : DoI E 289 [(.ref 132), (.int a)] SI SJ Q := by
  subst ha
  obtain ⟨w1, w2, -, -⟩ := wb132 (E := E) i hi
  refine st_289_132 _ SI SJ (st_291_132 SI SJ ⟨fun z => absurd z (by decide), fun _ => ⟨fun z => absurd rfl z, fun _ => ⟨fun z => absurd z (by decide), fun _ => ?_⟩⟩⟩)
  refine st_293_136 _ SI SJ (sp_chkI i 3 hi (by decide) rfl rfl ?_)
  rw [i3_in (by omega) (by omega), i3_n (by omega) (by omega), show ((i : Nat) : Int).toNat = i by omega, w1]
  exact ⟨by omega, w2, w2, h⟩
theorem sp_word132 {Q : Int32 → gj_I → gj_J → Prop} (hP : CP T n p SI) (h1 : mW 0 3 T n p → ∀ SI', FI LCp SI SI' → CP T n (p + 3) SI' → Q (i3 1) SI' SJ) (h0 : ¬ mW 0 3 T n p → Q (i3 0) SI SJ) : DoI E 79 [(.ref 1), (.ref 132)] SI SJ Q := by
  have wle := wl_le T n 120 p
  have hn := hP.2.1
  have hp := hP.2.2.1
  refine st_79_1_132 SI SJ (sp_wordLen hP (sp_len132 ?_))
  rw [i3_eq (by omega) (by omega) (by omega) (by omega)]
  refine ⟨fun c => ?_, fun c => h0 (fun z => c (by rw [z.1]; rfl))⟩
  refine up_lp (α := Unit) (P := fun i _ A B => A = SI ∧ B = SJ ∧ ∀ j, j < i → hr T n (p + j) = wch 0 j) (G := fun i _ A B => GoI E mt_79 15 [some (.ref 1), some (.ref 132), some (.int (i3 (i : Nat)))] A B Q) 3 ?_ ?_ 0 () SI SJ (by omega) ⟨rfl, rfl, fun j hj => absurd hj (Nat.not_lt_zero j)⟩
  · rintro _ A B ⟨rfl, rfl, hq⟩
    have mw : mW 0 3 T n p := ⟨by omega, hq⟩
    have le := mW_n (by decide) mw
    refine lp_79_15_1_132 _ A B (sp_len132 ⟨fun _ => sp_len132 ?_, fun q => absurd (by decide) q⟩)
    rw [hP.2.2.2.2, i3_add]
    have f : FI LCp A (gj_u2 A 1 2 (i3 ((p : Nat) + 3))) := FI.rf.u ⟨rfl, rfl⟩
    exact h1 mw _ f (hP.to f le (by rw [u2_s]; rfl))
  · rintro i _ A B hi ⟨rfl, rfl, hq⟩ ih
    have b := hr_bC hP.1 hP.2.1 (p + i)
    obtain ⟨-, -, w3, w4⟩ := wb132 (E := E) i hi
    refine lp_79_15_1_132 _ A B (sp_len132 ⟨fun q => ?_, fun _ => sp_sign hP.1 hP.2.1 hP.2.2.2.1 (p + i) (by omega) (by rw [hP.2.2.2.2, i3_add]; rfl) (sp_charAt132 i hi rfl ?_)⟩)
    · rw [i3_le (by omega) (by omega) (by omega) (by omega)] at q; omega
    · rw [i3_eq (by omega) (by omega) (by omega) (by omega), i3_add]
      refine ⟨fun y => ih () A B ⟨rfl, rfl, fun j hj => ?_⟩, fun y => h0 (fun z => y (z.2 i hi))⟩
      by_cases e : j = i
      · rw [e]; exact y
      · exact hq j (by omega)
theorem sp_len133 {Q : Int32 → gj_I → gj_J → Prop} (h : Q (i3 4) SI SJ) : DoI E 288 [(.ref 133)] SI SJ Q := by
  refine st_288_133 SI SJ (st_290_133 SI SJ ⟨fun z => absurd z (by decide), fun _ => ⟨rfl, ?_⟩⟩)
  rw [show (i3 4 >>> (i3 0 &&& 31)) = i3 4 by decide]; exact h
theorem wb133 : ∀ i, i < 4 → ((gj_stf E 9 i &&& i3 255).toUInt32 % 65536).toInt32 = i3 (wch 1 i) ∧ narrow .char (.int (i3 (wch 1 i))) = .int (i3 (wch 1 i)) ∧ 0 ≤ wch 1 i ∧ wch 1 i ≤ 255 := by
  intro i hi
  have e : gj_stf E 9 i = (gj_stt.getD 9 []).getD i 0 := rfl
  rw [e]
  exact (by decide : ∀ i, i < 4 → ((((gj_stt.getD 9 []).getD i 0) &&& i3 255).toUInt32 % 65536).toInt32 = i3 (wch 1 i) ∧ narrow .char (.int (i3 (wch 1 i))) = .int (i3 (wch 1 i)) ∧ 0 ≤ wch 1 i ∧ wch 1 i ≤ 255) i hi
theorem sp_charAt133 {Q : Int32 → gj_I → gj_J → Prop} {a : Int32} (i : Nat) (hi : i < 4) (ha : a = i3 i) (h : Q (i3 (wch 1 i)) SI SJ) : DoI E 289 [(.ref 133), (.int a)] SI SJ Q := by
  subst ha
  obtain ⟨w1, w2, -, -⟩ := wb133 (E := E) i hi
  refine st_289_133 _ SI SJ (st_291_133 SI SJ ⟨fun z => absurd z (by decide), fun _ => ⟨fun z => absurd rfl z, fun _ => ⟨fun z => absurd z (by decide), fun _ => ?_⟩⟩⟩)
  refine st_293_137 _ SI SJ (sp_chkI i 4 hi (by decide) rfl rfl ?_)
  rw [i3_in (by omega) (by omega), i3_n (by omega) (by omega), show ((i : Nat) : Int).toNat = i by omega, w1]
  exact ⟨by omega, w2, w2, h⟩
theorem sp_word133 {Q : Int32 → gj_I → gj_J → Prop} (hP : CP T n p SI) (h1 : mW 1 4 T n p → ∀ SI', FI LCp SI SI' → CP T n (p + 4) SI' → Q (i3 1) SI' SJ) (h0 : ¬ mW 1 4 T n p → Q (i3 0) SI SJ) : DoI E 79 [(.ref 1), (.ref 133)] SI SJ Q := by
  have wle := wl_le T n 120 p
  have hn := hP.2.1
  have hp := hP.2.2.1
  refine st_79_1_133 SI SJ (sp_wordLen hP (sp_len133 ?_))
  rw [i3_eq (by omega) (by omega) (by omega) (by omega)]
  refine ⟨fun c => ?_, fun c => h0 (fun z => c (by rw [z.1]; rfl))⟩
  refine up_lp (α := Unit) (P := fun i _ A B => A = SI ∧ B = SJ ∧ ∀ j, j < i → hr T n (p + j) = wch 1 j) (G := fun i _ A B => GoI E mt_79 15 [some (.ref 1), some (.ref 133), some (.int (i3 (i : Nat)))] A B Q) 4 ?_ ?_ 0 () SI SJ (by omega) ⟨rfl, rfl, fun j hj => absurd hj (Nat.not_lt_zero j)⟩
  · rintro _ A B ⟨rfl, rfl, hq⟩
    have mw : mW 1 4 T n p := ⟨by omega, hq⟩
    have le := mW_n (by decide) mw
    refine lp_79_15_1_133 _ A B (sp_len133 ⟨fun _ => sp_len133 ?_, fun q => absurd (by decide) q⟩)
    rw [hP.2.2.2.2, i3_add]
    have f : FI LCp A (gj_u2 A 1 2 (i3 ((p : Nat) + 4))) := FI.rf.u ⟨rfl, rfl⟩
    exact h1 mw _ f (hP.to f le (by rw [u2_s]; rfl))
  · rintro i _ A B hi ⟨rfl, rfl, hq⟩ ih
    have b := hr_bC hP.1 hP.2.1 (p + i)
    obtain ⟨-, -, w3, w4⟩ := wb133 (E := E) i hi
    refine lp_79_15_1_133 _ A B (sp_len133 ⟨fun q => ?_, fun _ => sp_sign hP.1 hP.2.1 hP.2.2.2.1 (p + i) (by omega) (by rw [hP.2.2.2.2, i3_add]; rfl) (sp_charAt133 i hi rfl ?_)⟩)
    · rw [i3_le (by omega) (by omega) (by omega) (by omega)] at q; omega
    · rw [i3_eq (by omega) (by omega) (by omega) (by omega), i3_add]
      refine ⟨fun y => ih () A B ⟨rfl, rfl, fun j hj => ?_⟩, fun y => h0 (fun z => y (z.2 i hi))⟩
      by_cases e : j = i
      · rw [e]; exact y
      · exact hq j (by omega)
theorem sp_len134 {Q : Int32 → gj_I → gj_J → Prop} (h : Q (i3 5) SI SJ) : DoI E 288 [(.ref 134)] SI SJ Q := by
  refine st_288_134 SI SJ (st_290_134 SI SJ ⟨fun z => absurd z (by decide), fun _ => ⟨rfl, ?_⟩⟩)
  rw [show (i3 5 >>> (i3 0 &&& 31)) = i3 5 by decide]; exact h
theorem wb134 : ∀ i, i < 5 → ((gj_stf E 10 i &&& i3 255).toUInt32 % 65536).toInt32 = i3 (wch 2 i) ∧ narrow .char (.int (i3 (wch 2 i))) = .int (i3 (wch 2 i)) ∧ 0 ≤ wch 2 i ∧ wch 2 i ≤ 255 := by
  intro i hi
  have e : gj_stf E 10 i = (gj_stt.getD 10 []).getD i 0 := rfl
  rw [e]
  exact (by decide : ∀ i, i < 5 → ((((gj_stt.getD 10 []).getD i 0) &&& i3 255).toUInt32 % 65536).toInt32 = i3 (wch 2 i) ∧ narrow .char (.int (i3 (wch 2 i))) = .int (i3 (wch 2 i)) ∧ 0 ≤ wch 2 i ∧ wch 2 i ≤ 255) i hi
theorem sp_charAt134 {Q : Int32 → gj_I → gj_J → Prop} {a : Int32} (i : Nat) (hi : i < 5) (ha : a = i3 i) (h : Q (i3 (wch 2 i)) SI SJ) : DoI E 289 [(.ref 134), (.int a)] SI SJ Q := by
  subst ha
  obtain ⟨w1, w2, -, -⟩ := wb134 (E := E) i hi
  refine st_289_134 _ SI SJ (st_291_134 SI SJ ⟨fun z => absurd z (by decide), fun _ => ⟨fun z => absurd rfl z, fun _ => ⟨fun z => absurd z (by decide), fun _ => ?_⟩⟩⟩)
  refine st_293_138 _ SI SJ (sp_chkI i 5 hi (by decide) rfl rfl ?_)
  rw [i3_in (by omega) (by omega), i3_n (by omega) (by omega), show ((i : Nat) : Int).toNat = i by omega, w1]
  exact ⟨by omega, w2, w2, h⟩
theorem sp_word134 {Q : Int32 → gj_I → gj_J → Prop} (hP : CP T n p SI) (h1 : mW 2 5 T n p → ∀ SI', FI LCp SI SI' → CP T n (p + 5) SI' → Q (i3 1) SI' SJ) (h0 : ¬ mW 2 5 T n p → Q (i3 0) SI SJ) : DoI E 79 [(.ref 1), (.ref 134)] SI SJ Q := by
  have wle := wl_le T n 120 p
  have hn := hP.2.1
  have hp := hP.2.2.1
  refine st_79_1_134 SI SJ (sp_wordLen hP (sp_len134 ?_))
  rw [i3_eq (by omega) (by omega) (by omega) (by omega)]
  refine ⟨fun c => ?_, fun c => h0 (fun z => c (by rw [z.1]; rfl))⟩
  refine up_lp (α := Unit) (P := fun i _ A B => A = SI ∧ B = SJ ∧ ∀ j, j < i → hr T n (p + j) = wch 2 j) (G := fun i _ A B => GoI E mt_79 15 [some (.ref 1), some (.ref 134), some (.int (i3 (i : Nat)))] A B Q) 5 ?_ ?_ 0 () SI SJ (by omega) ⟨rfl, rfl, fun j hj => absurd hj (Nat.not_lt_zero j)⟩
  · rintro _ A B ⟨rfl, rfl, hq⟩
    have mw : mW 2 5 T n p := ⟨by omega, hq⟩
    have le := mW_n (by decide) mw
    refine lp_79_15_1_134 _ A B (sp_len134 ⟨fun _ => sp_len134 ?_, fun q => absurd (by decide) q⟩)
    rw [hP.2.2.2.2, i3_add]
    have f : FI LCp A (gj_u2 A 1 2 (i3 ((p : Nat) + 5))) := FI.rf.u ⟨rfl, rfl⟩
    exact h1 mw _ f (hP.to f le (by rw [u2_s]; rfl))
  · rintro i _ A B hi ⟨rfl, rfl, hq⟩ ih
    have b := hr_bC hP.1 hP.2.1 (p + i)
    obtain ⟨-, -, w3, w4⟩ := wb134 (E := E) i hi
    refine lp_79_15_1_134 _ A B (sp_len134 ⟨fun q => ?_, fun _ => sp_sign hP.1 hP.2.1 hP.2.2.2.1 (p + i) (by omega) (by rw [hP.2.2.2.2, i3_add]; rfl) (sp_charAt134 i hi rfl ?_)⟩)
    · rw [i3_le (by omega) (by omega) (by omega) (by omega)] at q; omega
    · rw [i3_eq (by omega) (by omega) (by omega) (by omega), i3_add]
      refine ⟨fun y => ih () A B ⟨rfl, rfl, fun j hj => ?_⟩, fun y => h0 (fun z => y (z.2 i hi))⟩
      by_cases e : j = i
      · rw [e]; exact y
      · exact hq j (by omega)
theorem sp_len135 {Q : Int32 → gj_I → gj_J → Prop} (h : Q (i3 6) SI SJ) : DoI E 288 [(.ref 135)] SI SJ Q := by
  refine st_288_135 SI SJ (st_290_135 SI SJ ⟨fun z => absurd z (by decide), fun _ => ⟨rfl, ?_⟩⟩)
  rw [show (i3 6 >>> (i3 0 &&& 31)) = i3 6 by decide]; exact h
theorem wb135 : ∀ i, i < 6 → ((gj_stf E 11 i &&& i3 255).toUInt32 % 65536).toInt32 = i3 (wch 3 i) ∧ narrow .char (.int (i3 (wch 3 i))) = .int (i3 (wch 3 i)) ∧ 0 ≤ wch 3 i ∧ wch 3 i ≤ 255 := by
  intro i hi
  have e : gj_stf E 11 i = (gj_stt.getD 11 []).getD i 0 := rfl
  rw [e]
  exact (by decide : ∀ i, i < 6 → ((((gj_stt.getD 11 []).getD i 0) &&& i3 255).toUInt32 % 65536).toInt32 = i3 (wch 3 i) ∧ narrow .char (.int (i3 (wch 3 i))) = .int (i3 (wch 3 i)) ∧ 0 ≤ wch 3 i ∧ wch 3 i ≤ 255) i hi
theorem sp_charAt135 {Q : Int32 → gj_I → gj_J → Prop} {a : Int32} (i : Nat) (hi : i < 6) (ha : a = i3 i) (h : Q (i3 (wch 3 i)) SI SJ) : DoI E 289 [(.ref 135), (.int a)] SI SJ Q := by
  subst ha
  obtain ⟨w1, w2, -, -⟩ := wb135 (E := E) i hi
  refine st_289_135 _ SI SJ (st_291_135 SI SJ ⟨fun z => absurd z (by decide), fun _ => ⟨fun z => absurd rfl z, fun _ => ⟨fun z => absurd z (by decide), fun _ => ?_⟩⟩⟩)
  refine st_293_139 _ SI SJ (sp_chkI i 6 hi (by decide) rfl rfl ?_)
  rw [i3_in (by omega) (by omega), i3_n (by omega) (by omega), show ((i : Nat) : Int).toNat = i by omega, w1]
  exact ⟨by omega, w2, w2, h⟩
theorem sp_word135 {Q : Int32 → gj_I → gj_J → Prop} (hP : CP T n p SI) (h1 : mW 3 6 T n p → ∀ SI', FI LCp SI SI' → CP T n (p + 6) SI' → Q (i3 1) SI' SJ) (h0 : ¬ mW 3 6 T n p → Q (i3 0) SI SJ) : DoI E 79 [(.ref 1), (.ref 135)] SI SJ Q := by
  have wle := wl_le T n 120 p
  have hn := hP.2.1
  have hp := hP.2.2.1
  refine st_79_1_135 SI SJ (sp_wordLen hP (sp_len135 ?_))
  rw [i3_eq (by omega) (by omega) (by omega) (by omega)]
  refine ⟨fun c => ?_, fun c => h0 (fun z => c (by rw [z.1]; rfl))⟩
  refine up_lp (α := Unit) (P := fun i _ A B => A = SI ∧ B = SJ ∧ ∀ j, j < i → hr T n (p + j) = wch 3 j) (G := fun i _ A B => GoI E mt_79 15 [some (.ref 1), some (.ref 135), some (.int (i3 (i : Nat)))] A B Q) 6 ?_ ?_ 0 () SI SJ (by omega) ⟨rfl, rfl, fun j hj => absurd hj (Nat.not_lt_zero j)⟩
  · rintro _ A B ⟨rfl, rfl, hq⟩
    have mw : mW 3 6 T n p := ⟨by omega, hq⟩
    have le := mW_n (by decide) mw
    refine lp_79_15_1_135 _ A B (sp_len135 ⟨fun _ => sp_len135 ?_, fun q => absurd (by decide) q⟩)
    rw [hP.2.2.2.2, i3_add]
    have f : FI LCp A (gj_u2 A 1 2 (i3 ((p : Nat) + 6))) := FI.rf.u ⟨rfl, rfl⟩
    exact h1 mw _ f (hP.to f le (by rw [u2_s]; rfl))
  · rintro i _ A B hi ⟨rfl, rfl, hq⟩ ih
    have b := hr_bC hP.1 hP.2.1 (p + i)
    obtain ⟨-, -, w3, w4⟩ := wb135 (E := E) i hi
    refine lp_79_15_1_135 _ A B (sp_len135 ⟨fun q => ?_, fun _ => sp_sign hP.1 hP.2.1 hP.2.2.2.1 (p + i) (by omega) (by rw [hP.2.2.2.2, i3_add]; rfl) (sp_charAt135 i hi rfl ?_)⟩)
    · rw [i3_le (by omega) (by omega) (by omega) (by omega)] at q; omega
    · rw [i3_eq (by omega) (by omega) (by omega) (by omega), i3_add]
      refine ⟨fun y => ih () A B ⟨rfl, rfl, fun j hj => ?_⟩, fun y => h0 (fun z => y (z.2 i hi))⟩
      by_cases e : j = i
      · rw [e]; exact y
      · exact hq j (by omega)
theorem kd_0 : (mW 0 3 T n p → kd T n p = 0) ∧ (¬ mW 0 3 T n p → (mW 1 4 T n p → kd T n p = 1) ∧ (¬ mW 1 4 T n p → (mW 2 5 T n p → kd T n p = 2) ∧ (¬ mW 2 5 T n p → (mW 3 6 T n p → kd T n p = 3) ∧ (¬ mW 3 6 T n p → kd T n p = -1)))) := by
  have e0 : mW 0 3 T n p ↔ (wl T n 120 p = 3 ∧ hr T n p = 112 ∧ hr T n (p + 1) = 117 ∧ hr T n (p + 2) = 116) := by
    constructor
    · rintro ⟨z, y⟩; exact ⟨z, y 0 (by decide), y 1 (by decide), y 2 (by decide)⟩
    · rintro ⟨z, y0, y1, y2⟩
      refine ⟨z, fun i hi => ?_⟩
      rcases (by omega : i = 0 ∨ i = 1 ∨ i = 2) with rfl | rfl | rfl
      · exact y0
      · exact y1
      · exact y2
  have e1 : mW 1 4 T n p ↔ (wl T n 120 p = 4 ∧ hr T n p = 116 ∧ hr T n (p + 1) = 97 ∧ hr T n (p + 2) = 107 ∧ hr T n (p + 3) = 101) := by
    constructor
    · rintro ⟨z, y⟩; exact ⟨z, y 0 (by decide), y 1 (by decide), y 2 (by decide), y 3 (by decide)⟩
    · rintro ⟨z, y0, y1, y2, y3⟩
      refine ⟨z, fun i hi => ?_⟩
      rcases (by omega : i = 0 ∨ i = 1 ∨ i = 2 ∨ i = 3) with rfl | rfl | rfl | rfl
      · exact y0
      · exact y1
      · exact y2
      · exact y3
  have e2 : mW 2 5 T n p ↔ (wl T n 120 p = 5 ∧ hr T n p = 116 ∧ hr T n (p + 1) = 114 ∧ hr T n (p + 2) = 101 ∧ hr T n (p + 3) = 97 ∧ hr T n (p + 4) = 100) := by
    constructor
    · rintro ⟨z, y⟩; exact ⟨z, y 0 (by decide), y 1 (by decide), y 2 (by decide), y 3 (by decide), y 4 (by decide)⟩
    · rintro ⟨z, y0, y1, y2, y3, y4⟩
      refine ⟨z, fun i hi => ?_⟩
      rcases (by omega : i = 0 ∨ i = 1 ∨ i = 2 ∨ i = 3 ∨ i = 4) with rfl | rfl | rfl | rfl | rfl
      · exact y0
      · exact y1
      · exact y2
      · exact y3
      · exact y4
  have e3 : mW 3 6 T n p ↔ (wl T n 120 p = 6 ∧ hr T n p = 99 ∧ hr T n (p + 1) = 101 ∧ hr T n (p + 2) = 110 ∧ hr T n (p + 3) = 116 ∧ hr T n (p + 4) = 114 ∧ hr T n (p + 5) = 101) := by
    constructor
    · rintro ⟨z, y⟩; exact ⟨z, y 0 (by decide), y 1 (by decide), y 2 (by decide), y 3 (by decide), y 4 (by decide), y 5 (by decide)⟩
    · rintro ⟨z, y0, y1, y2, y3, y4, y5⟩
      refine ⟨z, fun i hi => ?_⟩
      rcases (by omega : i = 0 ∨ i = 1 ∨ i = 2 ∨ i = 3 ∨ i = 4 ∨ i = 5) with rfl | rfl | rfl | rfl | rfl | rfl
      · exact y0
      · exact y1
      · exact y2
      · exact y3
      · exact y4
      · exact y5
  rw [e0, e1, e2, e3]
  refine ⟨fun c => if_pos c, fun c => ⟨fun c1 => ?_, fun c1 => ⟨fun c2 => ?_, fun c2 => ⟨fun c3 => ?_, fun c3 => ?_⟩⟩⟩⟩
  · unfold kd; rw [if_neg c, if_pos c1]
  · unfold kd; rw [if_neg c, if_neg c1, if_pos c2]
  · unfold kd; rw [if_neg c, if_neg c1, if_neg c2, if_pos c3]
  · unfold kd; rw [if_neg c, if_neg c1, if_neg c2, if_neg c3]
theorem sp_readWord {Q : Int32 → gj_I → gj_J → Prop} (hP : CP T n p SI) (h1 : kd T n p ≠ -1 → (0 ≤ kd T n p ∧ kd T n p ≤ 3) → ∀ SI', FI LCp SI SI' → CP T n (p + wl T n 120 p) SI' → Q (i3 (kd T n p)) SI' SJ) (h0 : kd T n p = -1 → Q (i3 (-1)) SI SJ) : DoI E 25 [(.ref 1)] SI SJ Q := by
  obtain ⟨k0, k⟩ := kd_0 (T := T) (n := n) (p := p)
  have ok : ∀ (w l : Nat), mW w l T n p → kd T n p = w → w ≤ 3 → ∀ A, FI LCp SI A → CP T n (p + l) A → Q (i3 (w : Nat)) A SJ := by
    intro w l m e hw A f hA
    have hh := h1 (by omega) (by omega) A f (by rw [m.1]; exact hA)
    rw [e] at hh; exact hh
  refine st_25 SI SJ (sp_word132 hP (fun m A f hA => ⟨fun z => absurd z (by decide), fun _ => ok 0 3 m (k0 m) (by decide) A f hA⟩) (fun m => ⟨fun _ => ?_, fun z => absurd rfl z⟩))
  obtain ⟨k1, k⟩ := k m
  refine sp_word133 hP (fun m A f hA => ⟨fun z => absurd z (by decide), fun _ => ok 1 4 m (k1 m) (by decide) A f hA⟩) (fun m => ⟨fun _ => ?_, fun z => absurd rfl z⟩)
  obtain ⟨k2, k⟩ := k m
  refine sp_word134 hP (fun m A f hA => ⟨fun z => absurd z (by decide), fun _ => ok 2 5 m (k2 m) (by decide) A f hA⟩) (fun m => ⟨fun _ => ?_, fun z => absurd rfl z⟩)
  obtain ⟨k3, k⟩ := k m
  refine sp_word135 hP (fun m A f hA => ⟨fun z => absurd z (by decide), fun _ => ok 3 6 m (k3 m) (by decide) A f hA⟩) (fun m => ⟨fun _ => h0 (k m), fun z => absurd rfl z⟩)
theorem sp_readNumC {Q : Int32 → gj_I → gj_J → Prop} (hP : CP T n p SI) (hE : ∀ e SI', nb T n p = .inl e → FI LCp SI SI' → (-3000 ≤ e ∧ e < 0) → Q (i3 e) SI' SJ) (hK : ∀ v q SI', nb T n p = .inr (v, q) → FI LCp SI SI' → CP T n q SI' → (0 ≤ v ∧ v ≤ 999) → Q (i3 v) SI' SJ) : DoI E 26 [(.ref 1)] SI SJ Q := by
  have hn := hP.2.1
  have hp := hP.2.2.1
  unfold nb at hE hK
  refine st_26 SI SJ (sp_accept hP 32 (by decide) rfl (fun c A f hA => ⟨fun z => absurd z (by decide), fun _ => ?_⟩) (fun c => ⟨fun _ => ?_, fun z => absurd rfl z⟩))
  · rw [if_pos c] at hE hK
    exact sp_numberC hA 2 (by decide) rfl (fun e A2 h1 f2 b => hE e A2 h1 (f.tr f2) b) (fun v q A2 h1 f2 hA2 b => hK v q A2 h1 (f.tr f2) hA2 b)
  · rw [if_neg c] at hE
    exact sp_faultC hP.2.2.2.2 1 rfl (hE _ SI rfl FI.rf (by omega))
end WordC
