/-! 61: finger, place of the reference -/
section Finger
variable {E : gj_E} {SI : gj_I} {SJ : gj_J} {F : Nat → Int}
noncomputable def fingerA (F : Nat → Int) (i w : Int) : Int := if 0 ≤ i ∧ i < F 17 then (if w = 0 then F (18 + i.toNat) else if w = 1 then F (24 + i.toNat) else if w = 2 then px F (F (18 + i.toNat)).toNat (F (24 + i.toNat)) else if w = 3 then py F (F (18 + i.toNat)).toNat (F (24 + i.toNat)) else if w = 4 then (if F 30 = 0 then 1 else 2) else if w = 5 then bz (firmS F (wo (fullS (nf F)) (2 ^ i.toNat))) else -1) else -1
theorem sp_finger {Q : Int32 → gj_I → gj_J → Prop} {a b : Int32} (hR : RF F SI) (hW : Wp F) (hT : Wt F) (hN : Wn F) (hG : Wg F) (i w : Int) (ir : -2147483648 ≤ i ∧ i < 2147483648) (wr : -2147483648 ≤ w ∧ w < 2147483648) (ha : a = i3 i) (hb : b = i3 w) (h : ∀ SI' SJ', FI LI1 SI SI' → FJ LJ1 SJ SJ' → Q (i3 (fingerA F i w)) SI' SJ') : DoI E 279 [(.ref 81), (.int a), (.int b)] SI SJ Q := by
  subst ha; subst hb
  obtain ⟨m1, m2, m3⟩ := hW.1.n
  have n0 := hN.1; have n1 := hN.2.1
  refine st_279 _ _ SI SJ (sp_isFinger hR hG i ir rfl ⟨fun z => ?_, fun z => ?_⟩)
  · rw [ibc_0, Classical.not_not] at z
    obtain ⟨n, hn⟩ : ∃ n : Nat, i = n := ⟨i.toNat, by omega⟩
    subst hn
    have hA : fingerA F n w = (if w = 0 then F (18 + n) else if w = 1 then F (24 + n) else if w = 2 then px F (F (18 + n)).toNat (F (24 + n)) else if w = 3 then py F (F (18 + n)).toNat (F (24 + n)) else if w = 4 then (if F 30 = 0 then 1 else 2) else if w = 5 then bz (firmS F (wo (fullS (nf F)) (2 ^ n))) else -1) := by
      unfold fingerA; rw [if_pos z]; rfl
    rw [hA] at h
    obtain ⟨e1, e2, e3, e4⟩ := hN.2.2 n z.2
    have t1 := hT.1; have t2 := hT.2.1
    have sb := hW.1.s (F (18 + n)).toNat
    have st := hW.2.2 (F (18 + n)).toNat
    have fl := fullS_lt hN
    have hh := h SI SJ FI.rf FJ.rf
    have r18 := hR (18 + n) (by omega)
    have r24 := hR (24 + n) (by omega)
    simp only [i3_add]
    rw [i3_in (by omega) (by omega), i3_in (by omega) (by omega), i3_n (by omega) (by omega), i3_n (by omega) (by omega), show (18 + (n : Int)).toNat = 18 + n by omega, show (24 + (n : Int)).toNat = 24 + n by omega, r18, r24, hR 30 (by decide), i3_t (by omega) (by omega)]
    refine ⟨by omega, by omega, fun y => ?_, fun y => ?_, fun y => ?_, fun y => ?_, fun y => ?_, fun y => ?_, fun y => ?_⟩
    · rw [i3_eq (by omega) (by omega) (by omega) (by omega)] at y; rw [if_pos y] at hh; exact hh
    · rw [i3_eq (by omega) (by omega) (by omega) (by omega)] at y; rw [if_neg (by omega), if_pos y] at hh; exact hh
    · rw [i3_eq (by omega) (by omega) (by omega) (by omega)] at y; rw [if_neg (by omega), if_neg (by omega), if_pos y] at hh
      exact sp_atX hR hW.1 (F (18 + n)).toNat (F (24 + n)) (by omega) st (i3_c (by omega)) rfl hh
    · rw [i3_eq (by omega) (by omega) (by omega) (by omega)] at y; rw [if_neg (by omega), if_neg (by omega), if_neg (by omega), if_pos y] at hh
      exact sp_atY hR hW.1 (F (18 + n)).toNat (F (24 + n)) (by omega) st (i3_c (by omega)) rfl hh
    · rw [i3_eq (by omega) (by omega) (by omega) (by omega)] at y; rw [if_neg (by omega), if_neg (by omega), if_neg (by omega), if_neg (by omega), if_pos y] at hh
      rw [i3_eq0 (by omega) (by omega)]
      refine ⟨fun x => ?_, fun x => ?_⟩
      · rw [if_neg x] at hh; exact hh
      · rw [if_pos x] at hh; exact hh
    · rw [i3_eq (by omega) (by omega) (by omega) (by omega)] at y; rw [if_neg (by omega), if_neg (by omega), if_neg (by omega), if_neg (by omega), if_neg (by omega), if_pos y] at h
      refine sp_lays hR hW hT hN (fun A B f1 f2 hL => ?_)
      have hRA := hR.f f1 LI1_n
      refine sp_fingersAll hRA ⟨n0, n1⟩ ?_
      rw [i3_shl (by omega), i3_wo]
      have wl1 := wo_le (a := fullS (nf F)) (b := 2 ^ n)
      refine sp_bySet hL hW hT hN (wo (fullS (nf F)) (2 ^ n)) (by omega) rfl (fun J2 fJ2 hLJ2 => ⟨fun x => ?_, fun x => ?_⟩)
      · have h2 := h A J2 f1 (f2.tr (fJ2.le LPx_J1))
        rw [ibc_0] at x; rw [bz_f x] at h2; exact h2
      · have h2 := h A J2 f1 (f2.tr (fJ2.le LPx_J1))
        rw [ibc_0, Classical.not_not] at x; rw [bz_t x] at h2; exact h2
    · rw [if_neg (by omega), if_neg (by omega), if_neg (by omega), if_neg (by omega), if_neg (by omega), if_neg (by omega)] at hh; exact hh
  · rw [ibc_0] at z
    have hA : fingerA F i w = -1 := by unfold fingerA; rw [if_neg z]
    rw [hA] at h; exact h SI SJ FI.rf FJ.rf
noncomputable def placeA (F : Nat → Int) (i w : Int) : Int := if 0 ≤ i ∧ i < pl F (nC F) then (if w = 0 then (pe F i : Int) else if w = 1 then ps F i else if w = 2 then xp F i else if w = 3 then yp F i else if w = 4 then (if fgA F (pe F i) (ps F i) = -1 then -2 else fgA F (pe F i) (ps F i)) else if w = 5 then opN F i 0 (pn F) else if w = 6 then opF F i 0 (pn F) else -1) else -1
theorem sp_place {Q : Int32 → gj_I → gj_J → Prop} {a b : Int32} (hR : RF F SI) (hW : Wp F) (hT : Wt F) (hG : Wg F) (i w : Int) (ir : -2147483648 ≤ i ∧ i < 2147483648) (wr : -2147483648 ≤ w ∧ w < 2147483648) (ha : a = i3 i) (hb : b = i3 w) (h : Q (i3 (placeA F i w)) SI SJ) : DoI E 277 [(.ref 81), (.int a), (.int b)] SI SJ Q := by
  subst ha; subst hb
  obtain ⟨m1, m2, m3⟩ := hW.1.n
  refine st_277 _ _ SI SJ (sp_isPlace hR hW.1 i ir rfl ⟨fun z => ?_, fun z => ?_⟩)
  · rw [ibc_0, Classical.not_not] at z
    obtain ⟨i1, i2, i4⟩ := pe_s z.1 z.2
    have pb := ps_b z.1 z.2
    have sb := hW.1.s (pe F i)
    have st := hW.2.2 (pe F i)
    have ex : xp F i = px F (pe F i) (ps F i) := rfl
    have ey : yp F i = py F (pe F i) (ps F i) := rfl
    have es : i - pl F (pe F i) + 1 = ps F i := rfl
    unfold placeA at h
    rw [if_pos z, ex, ey] at h
    have fb := fgA_b hG (pe F i) (ps F i)
    refine sp_placeEdge hR hW i (pe F i) i1 i2 i4 rfl (sp_placeStep hR hW i (pe F i) i1 i2 i4 rfl ?_)
    rw [es]
    generalize ps F i = k at *
    generalize pe F i = e at *
    have fi := fgA_I F e k
    generalize fgA F e k = g at *
    rw [i3_t (by omega) (by omega)]
    refine ⟨fun y => ?_, fun y => ?_, fun y => ?_, fun y => ?_, fun y => ?_, fun y => ?_, fun y => ?_, fun y => ?_⟩
    · rw [i3_eq (by omega) (by omega) (by omega) (by omega)] at y; rw [if_pos y] at h; exact h
    · rw [i3_eq (by omega) (by omega) (by omega) (by omega)] at y; rw [if_neg (by omega), if_pos y] at h; exact h
    · rw [i3_eq (by omega) (by omega) (by omega) (by omega)] at y; rw [if_neg (by omega), if_neg (by omega), if_pos y] at h
      exact sp_atX hR hW.1 e k (by omega) st rfl rfl h
    · rw [i3_eq (by omega) (by omega) (by omega) (by omega)] at y; rw [if_neg (by omega), if_neg (by omega), if_neg (by omega), if_pos y] at h
      exact sp_atY hR hW.1 e k (by omega) st rfl rfl h
    · rw [i3_eq (by omega) (by omega) (by omega) (by omega)] at y; rw [if_neg (by omega), if_neg (by omega), if_neg (by omega), if_neg (by omega), if_pos y] at h
      refine sp_fingerAt hR hG e k g (by omega) (by omega) rfl rfl fi ⟨fun x => ?_, fun x => ?_⟩
      · rw [i3_eq (by omega) (by omega) (by omega) (by omega)] at x
        rw [if_neg x] at h
        exact sp_fingerAt hR hG e k g (by omega) (by omega) rfl rfl fi h
      · rw [i3_eq (by omega) (by omega) (by omega) (by omega)] at x
        rw [if_pos x] at h; exact h
    · rw [i3_eq (by omega) (by omega) (by omega) (by omega)] at y; rw [if_neg (by omega), if_neg (by omega), if_neg (by omega), if_neg (by omega), if_neg (by omega), if_pos y] at h
      exact sp_oppositeMany hR hW hT i z.1 z.2 rfl h
    · rw [i3_eq (by omega) (by omega) (by omega) (by omega)] at y; rw [if_neg (by omega), if_neg (by omega), if_neg (by omega), if_neg (by omega), if_neg (by omega), if_neg (by omega), if_pos y] at h
      exact sp_oppositeFirst hR hW hT i z.1 z.2 rfl h
    · rw [if_neg (by omega), if_neg (by omega), if_neg (by omega), if_neg (by omega), if_neg (by omega), if_neg (by omega), if_neg (by omega)] at h; exact h
  · rw [ibc_0] at z
    have hA : placeA F i w = -1 := by unfold placeA; rw [if_neg z]
    rw [hA] at h; exact h
end Finger
