/-! 59: safe, wrench, finger of the reference -/
section Safe
variable {E : gj_E} {SI : gj_I} {SJ : gj_J} {F : Nat → Int}
/-- every g fingers may go -/
def sfP (F : Nat → Int) (g : Nat) : Prop := ∀ s, s ≤ fullS (nf F) → pct s = g → firmS F (wo (fullS (nf F)) s)
noncomputable def safeA (F : Nat → Int) (k : Int) : Int := if 0 ≤ k ∧ k ≤ 6 then bz (sfP F (min k (F 17)).toNat) else -1
theorem sp_safe {Q : Int32 → gj_I → gj_J → Prop} {a : Int32} (hR : RF F SI) (hW : Wp F) (hT : Wt F) (hN : Wn F) (k : Int) (hk : -2147483648 ≤ k ∧ k < 2147483648) (ha : a = i3 k) (h : ∀ SI' SJ', FI LI1 SI SI' → FJ LJ1 SJ SJ' → Q (i3 (safeA F k)) SI' SJ') : DoI E 262 [(.ref 81), (.int a)] SI SJ Q := by
  subst ha
  have n0 := hN.1; have n1 := hN.2.1
  unfold safeA at h
  refine st_262 _ SI SJ ?_
  rw [i3_64 (by omega) (by omega)]
  refine sp_in (by omega) (by omega) (by omega) (by omega) (by omega) (by omega) ⟨fun z => ?_, fun z => ?_⟩
  · rw [ib_0, Decidable.not_not] at z
    rw [if_pos z] at h
    refine sp_lays hR hW hT hN (fun A B f1 f2 hL => ?_)
    have hRA := hR.f f1 LI1_n
    have fl := fullS_lt hN
    rw [hRA 17 (by decide)]
    refine sp_min (by omega) (by omega) (by omega) (by omega) ?_
    obtain ⟨g, hg⟩ : ∃ g : Nat, min k (F 17) = g := ⟨(min k (F 17)).toNat, by omega⟩
    rw [hg] at h ⊢
    rw [show ((g : Nat) : Int).toNat = g by omega] at h
    have g6 : g ≤ 6 := by omega
    have key : ∀ (d s : Nat) (J : gj_J), s + d = fullS (nf F) + 1 → (∀ r, r < s → pct r = g → firmS F (wo (fullS (nf F)) r)) → FJ LJ1 SJ J → LWF F A J → GoI E mt_262 32 [some (.ref 81), none, some (.int (i3 g)), some (.int (i3 s))] A J Q := by
      intro d
      induction d with
      | zero =>
        intro s J hs hp fJ hLJ
        refine lp_262_32 _ _ A J (sp_fingersAll hRA ⟨n0, n1⟩ ⟨fun _ => ?_, fun q => ?_⟩)
        · have := h A J f1 fJ
          rw [bz_t (p := sfP F g) (fun r hr e => hp r (by omega) e)] at this; exact this
        · rw [i3_lt (by omega) (by omega) (by omega) (by omega)] at q; omega
      | succ d ih =>
        intro s J hs hp fJ hLJ
        have e31 : pct s ≤ 31 := pcn_le 31 s
        have nx : ∀ J2, FJ LJ1 SJ J2 → LWF F A J2 → (pct s = g → firmS F (wo (fullS (nf F)) s)) → GoI E mt_262 32 [some (.ref 81), none, some (.int (i3 g)), some (.int (i3 ((s : Int) + 1)))] A J2 Q := by
          intro J2 fJ2 hLJ2 hs2
          refine ih (s + 1) J2 (by omega) (fun r hr e => ?_) fJ2 hLJ2
          by_cases q : r = s
          · subst q; exact hs2 e
          · exact hp r (by omega) e
        refine lp_262_32 _ _ A J (sp_fingersAll hRA ⟨n0, n1⟩ ⟨fun q => ?_, fun q => ?_⟩)
        · rw [i3_lt (by omega) (by omega) (by omega) (by omega)] at q; omega
        · refine sp_sizeOf s (by omega) rfl ?_
          rw [i3_eq (by omega) (by omega) (by omega) (by omega), i3_add]
          refine ⟨fun y => nx J fJ hLJ (fun e => absurd (by omega) y), fun y => sp_fingersAll hRA ⟨n0, n1⟩ ?_⟩
          rw [i3_wo]
          have wl1 := wo_le (a := fullS (nf F)) (b := s)
          refine sp_bySet hLJ hW hT hN (wo (fullS (nf F)) s) (by omega) rfl (fun J2 fJ2 hLJ2 => ⟨fun w => ?_, fun w => ?_⟩)
          · rw [ibc_0, Classical.not_not] at w
            exact nx J2 (fJ.tr (fJ2.le LPx_J1)) hLJ2 (fun _ => w)
          · rw [ibc_0] at w
            have := h A J2 f1 (fJ.tr (fJ2.le LPx_J1))
            rw [bz_f (p := sfP F g) (fun c => w (c s (by omega) (by omega)))] at this; exact this
    exact key (fullS (nf F) + 1) 0 B (by omega) (fun r hr => by omega) f2 hL
  · rw [ib_0] at z
    rw [if_neg z] at h
    exact h SI SJ FI.rf FJ.rf
noncomputable def wrenchA (F : Nat → Int) (j w : Int) : Int := if 0 ≤ j ∧ j < ((nf F * fc F : Nat) : Int) then (if w = 0 then (Wl F (ctF F) j.toNat).1 else if w = 1 then (Wl F (ctF F) j.toNat).2.1 else if w = 2 then (Wl F (ctF F) j.toNat).2.2 else if w = 3 then ((j.toNat / fc F : Nat) : Int) else -9000000000000000000) else -9000000000000000000
theorem sp_wrench {Q : Int64 → gj_I → gj_J → Prop} {a b : Int32} (hR : RF F SI) (hW : Wp F) (hT : Wt F) (hN : Wn F) (j w : Int) (hj : -2147483648 ≤ j ∧ j < 2147483648) (hw : -2147483648 ≤ w ∧ w < 2147483648) (ha : a = i3 j) (hb : b = i3 w) (h : ∀ SI' SJ', FI LI1 SI SI' → FJ LJ1 SJ SJ' → Q (i6 (wrenchA F j w)) SI' SJ') : DoL E 280 [(.ref 81), (.int a), (.int b)] SI SJ Q := by
  subst ha; subst hb
  have nb := nw_b hN
  unfold wrenchA at h
  refine st_280 _ _ SI SJ (sp_lays hR hW hT hN (fun A B f1 f2 hL => ?_))
  have hh := h A B f1 f2
  rw [hL.1, i3_sub, i3_64 (by omega) (by omega), i3_64 (by omega) (by omega)]
  refine sp_in (by omega) (by omega) (by omega) (by omega) (by omega) (by omega) ⟨fun z => ?_, fun z => ?_⟩
  · rw [ib_0, Decidable.not_not] at z
    rw [if_pos (by omega)] at hh
    obtain ⟨l1, l2, l3, l4⟩ := hL.2 j.toNat (by omega)
    have dl : j.toNat / fc F ≤ j.toNat := Nat.div_le_self ..
    rw [i3_eq (by omega) (by omega) (by omega) (by omega), i3_eq (by omega) (by omega) (by omega) (by omega), i3_eq (by omega) (by omega) (by omega) (by omega), i3_eq (by omega) (by omega) (by omega) (by omega), i3_t (by omega) (by omega), i3_in (by omega) (by omega), i3_n (by omega) (by omega), l1, l2, l3, l4]
    refine ⟨fun y => ⟨by omega, ?_⟩, fun y => ⟨by omega, ?_⟩, fun y => ⟨by omega, ?_⟩, fun y => ⟨by omega, ?_⟩, fun y => ?_⟩
    · rw [if_pos y] at hh; exact hh
    · rw [if_neg (by omega), if_pos y] at hh; exact hh
    · rw [if_neg (by omega), if_neg (by omega), if_pos y] at hh; exact hh
    · rw [if_neg (by omega), if_neg (by omega), if_neg (by omega), if_pos y] at hh
      have d12 : ((j.toNat / fc F : Nat) : Int) < 2147483648 := Int.ofNat_lt.mpr (Nat.lt_of_le_of_lt dl (show j.toNat < 2147483648 by omega))
      have d0 : (0 : Int) ≤ ((j.toNat / fc F : Nat) : Int) := Int.natCast_nonneg _
      rw [i3_64 (Int.le_trans (by decide) d0) d12]; exact hh
    · rw [if_neg (by omega), if_neg (by omega), if_neg (by omega), if_neg (by omega)] at hh; exact hh
  · rw [ib_0] at z
    rw [if_neg (by omega)] at hh; exact hh
end Safe
