/-! 58: firm by a set of fingers: the reference's needed, least, safe -/
theorem wset_ex (F : Nat → Int) (s : Nat) : ∃ t, t < 2 ^ (nf F * fc F) ∧ ∀ j, j < nf F * fc F → t.testBit j = s.testBit (j / fc F) := bits_ex _ (fun j => s.testBit (j / fc F))
noncomputable def wsO (F : Nat → Int) (s : Nat) : Nat := Classical.choose (wset_ex F s)
theorem wsO_s (F : Nat → Int) (s : Nat) : wsO F s < 2 ^ (nf F * fc F) ∧ ∀ j, j < nf F * fc F → (wsO F s).testBit j = s.testBit (j / fc F) := Classical.choose_spec (wset_ex F s)
/-- the wrenches of these fingers are firm -/
def firmS (F : Nat → Int) (s : Nat) : Prop := firm (Wl F (ctF F)) (nf F * fc F) (wsO F s)
/-- the wrenches are laid -/
def LWF (F : Nat → Int) (SI : gj_I) (SJ : gj_J) : Prop := LW (Wl F (ctF F)) (fun j => ((j / fc F : Nat) : Int)) (nf F * fc F) SI SJ
section ByS
variable {E : gj_E} {SI : gj_I} {SJ : gj_J} {F : Nat → Int}
theorem sp_bySet {Q : Int32 → gj_I → gj_J → Prop} {a : Int32} (hL : LWF F SI SJ) (hW : Wp F) (hT : Wt F) (hN : Wn F) (s : Nat) (hs : s < 64) (ha : a = i3 s) (h : ∀ SJ', FJ LPx SJ SJ' → LWF F SI SJ' → Q (ibc (firmS F s)) SI SJ') : DoI E 186 [(.ref 81), (.int a)] SI SJ (fun r3 SI4 SJ4 => DoI E 194 [(.ref 81), (.int r3)] SI4 SJ4 Q) := by
  have hb := nw_b hN
  have hB := Wl_b hW hT (hN.ok hW.1)
  have hf := fc_b F
  obtain ⟨w1, w2⟩ := wsO_s F s
  have w14 : 2 ^ (nf F * fc F) ≤ 2 ^ 12 := Nat.pow_le_pow_right (by decide) hb
  refine sp_wrenchesOf hL (by omega) (fun j hj => ?_) s (by omega) ha (wsO F s) w1 (fun j hj => ?_) ?_
  · have : j / fc F ≤ j := Nat.div_le_self ..
    exact ⟨Int.natCast_nonneg _, Int.ofNat_lt.mpr (Nat.lt_of_le_of_lt this (show j < 31 by omega))⟩
  · rw [w2 j hj]; congr 1
  · exact sp_isFirm hL (by omega) hB (wsO F s) (by omega) rfl (fun B f => h B f (hL.f f))
theorem fullS_lt {F : Nat → Int} (hN : Wn F) : fullS (nf F) < 64 := by
  have : nf F ≤ 6 := by have := hN.2.1; unfold nf; omega
  have h2 : 2 ^ nf F ≤ 2 ^ 6 := Nat.pow_le_pow_right (by decide) this
  have h3 : 1 ≤ 2 ^ nf F := Nat.one_le_two_pow
  unfold fullS; omega
/-- the needed fingers among the first i -/
noncomputable def ndS (F : Nat → Int) : Nat → Nat
  | 0 => 0
  | i + 1 => @ite _ (firmS F (wo (fullS (nf F)) (2 ^ i))) (Classical.propDecidable _) (ndS F i) (ndS F i ||| 2 ^ i)
noncomputable def neededA (F : Nat → Int) : Int := @ite _ (firmF F) (Classical.propDecidable _) (ndS F (nf F) : Int) (-2)
theorem sp_needed {Q : Int32 → gj_I → gj_J → Prop} (hR : RF F SI) (hW : Wp F) (hT : Wt F) (hN : Wn F) (h : ∀ SI' SJ', FI LI1 SI SI' → FJ LJ1 SJ SJ' → Q (i3 (neededA F)) SI' SJ') : DoI E 260 [(.ref 81)] SI SJ Q := by
  have n0 := hN.1; have n1 := hN.2.1
  have en : F 17 = nf F := by unfold nf; omega
  unfold neededA at h
  refine st_260 SI SJ (sp_isFirmNow hR hW hT hN (fun A B f1 f2 hL => ⟨fun z => ?_, fun z => ?_⟩))
  · rw [ibc_0, Classical.not_not] at z
    rw [if_pos z] at h
    have hRA := hR.f f1 LI1_n
    have fl := fullS_lt hN
    have key : ∀ (d i : Nat) (J : gj_J), i + d = nf F → FJ LJ1 SJ J → LWF F A J → GoI E mt_260 14 [some (.ref 81), some (.int (i3 ((ndS F i : Nat) : Int))), some (.int (i3 i))] A J Q := by
      intro d
      induction d with
      | zero =>
        intro i J hi fJ hLJ
        refine lp_260_14 _ _ A J ⟨fun _ => ?_, fun q => ?_⟩
        · rw [show i = nf F by omega]; exact h A J f1 fJ
        · rw [hRA 17 (by decide), i3_le (by omega) (by omega) (by omega) (by omega)] at q; omega
      | succ d ih =>
        intro i J hi fJ hLJ
        refine lp_260_14 _ _ A J ⟨fun q => ?_, fun q => ?_⟩
        · rw [hRA 17 (by decide), i3_le (by omega) (by omega) (by omega) (by omega)] at q; omega
        · refine sp_fingersAll hRA ⟨n0, n1⟩ ?_
          rw [i3_shl (by omega), i3_wo]
          have wl1 := wo_le (a := fullS (nf F)) (b := 2 ^ i)
          refine sp_bySet hLJ hW hT hN (wo (fullS (nf F)) (2 ^ i)) (by omega) rfl (fun J2 fJ2 hLJ2 => ⟨fun y => ?_, fun y => ?_⟩)
          · rw [ibc_0, Classical.not_not] at y
            rw [i3_add, show (i : Int) + 1 = ((i + 1 : Nat) : Int) by omega]
            have e : ndS F (i + 1) = ndS F i := if_pos y
            have := ih (i + 1) J2 (by omega) (fJ.tr (fJ2.le LPx_J1)) hLJ2
            rw [e] at this; exact this
          · rw [ibc_0] at y
            rw [i3_add, show (i : Int) + 1 = ((i + 1 : Nat) : Int) by omega, i3_or]
            have e : ndS F (i + 1) = ndS F i ||| 2 ^ i := if_neg y
            have := ih (i + 1) J2 (by omega) (fJ.tr (fJ2.le LPx_J1)) hLJ2
            rw [e] at this; exact this
    exact key (nf F) 0 B (by omega) f2 hL
  · rw [ibc_0] at z
    rw [if_neg z] at h
    exact h A B f1 f2
/-- the first set from s on, of d, with m fingers and firm -/
noncomputable def lsS (F : Nat → Int) (m : Nat) : Nat → Nat → Int
  | _, 0 => -2
  | s, d + 1 => @ite _ (pct s = m ∧ firmS F s) (Classical.propDecidable _) (s : Int) (lsS F m (s + 1) d)
noncomputable def lsM (F : Nat → Int) : Nat → Nat → Int
  | _, 0 => -2
  | m, d + 1 => if lsS F m 0 (fullS (nf F) + 1) = -2 then lsM F (m + 1) d else lsS F m 0 (fullS (nf F) + 1)
noncomputable def leastA (F : Nat → Int) : Int := @ite _ (firmF F) (Classical.propDecidable _) (lsM F 1 (nf F)) (-2)
theorem sp_leastSet {Q : Int32 → gj_I → gj_J → Prop} (hR : RF F SI) (hW : Wp F) (hT : Wt F) (hN : Wn F) (h : ∀ SI' SJ', FI LI1 SI SI' → FJ LJ1 SJ SJ' → Q (i3 (leastA F)) SI' SJ') : DoI E 261 [(.ref 81)] SI SJ Q := by
  have n0 := hN.1; have n1 := hN.2.1
  have en : F 17 = nf F := by unfold nf; omega
  unfold leastA at h
  refine st_261 SI SJ (sp_isFirmNow hR hW hT hN (fun A B f1 f2 hL => ⟨fun z => ?_, fun z => ?_⟩))
  · rw [ibc_0, Classical.not_not] at z
    rw [if_pos z] at h
    have hRA := hR.f f1 LI1_n
    have fl := fullS_lt hN
    have inner : ∀ (m : Nat) (R : Int), m ≤ 6 → (∀ J, FJ LJ1 SJ J → LWF F A J → R = -2 → GoI E mt_261 12 [some (.ref 81), some (.int (i3 ((m + 1 : Nat) : Int))), none] A J Q) → (R ≠ -2 → ∀ J, FJ LJ1 SJ J → Q (i3 R) A J) → ∀ (d s : Nat) (J : gj_J), s + d = fullS (nf F) + 1 → lsS F m s d = R → FJ LJ1 SJ J → LWF F A J → GoI E mt_261 25 [some (.ref 81), some (.int (i3 m)), some (.int (i3 s))] A J Q := by
      intro m R hm hout hfin d
      induction d with
      | zero =>
        intro s J hs hR2 fJ hLJ
        refine lp_261_25 _ _ A J (sp_fingersAll hRA ⟨n0, n1⟩ ⟨fun _ => ?_, fun q => ?_⟩)
        · rw [i3_add, show (m : Int) + 1 = ((m + 1 : Nat) : Int) by omega]
          exact hout J fJ hLJ hR2.symm
        · rw [i3_lt (by omega) (by omega) (by omega) (by omega)] at q; omega
      | succ d ih =>
        intro s J hs hR2 fJ hLJ
        have pl := pcn_le 31 s
        refine lp_261_25 _ _ A J (sp_fingersAll hRA ⟨n0, n1⟩ ⟨fun q => ?_, fun q => ?_⟩)
        · rw [i3_lt (by omega) (by omega) (by omega) (by omega)] at q; omega
        · refine sp_sizeOf s (by omega) rfl ?_
          have e31 : pct s ≤ 31 := pl
          rw [i3_eq (by omega) (by omega) (by omega) (by omega), i3_add, show (s : Int) + 1 = ((s + 1 : Nat) : Int) by omega]
          refine ⟨fun y => ?_, fun y => sp_bySet hLJ hW hT hN s (by omega) rfl (fun J2 fJ2 hLJ2 => ⟨fun w => ?_, fun w => ?_⟩)⟩
          · have e : lsS F m s (d + 1) = lsS F m (s + 1) d := if_neg (fun c => y (by omega))
            exact ih (s + 1) J (by omega) (by rw [← e]; exact hR2) fJ hLJ
          · rw [ibc_0] at w
            have e : lsS F m s (d + 1) = lsS F m (s + 1) d := if_neg (fun c => w c.2)
            exact ih (s + 1) J2 (by omega) (by rw [← e]; exact hR2) (fJ.tr (fJ2.le LPx_J1)) hLJ2
          · rw [ibc_0, Classical.not_not] at w
            have e : lsS F m s (d + 1) = s := if_pos ⟨by omega, w⟩
            have er : R = s := by rw [← hR2, e]
            rw [← er]
            exact hfin (by omega) J2 (fJ.tr (fJ2.le LPx_J1))
    have outer : ∀ (d m : Nat) (J : gj_J), m + d = nf F + 1 → lsM F m d = lsM F 1 (nf F) → FJ LJ1 SJ J → LWF F A J → GoI E mt_261 12 [some (.ref 81), some (.int (i3 m)), none] A J Q := by
      intro d
      induction d with
      | zero =>
        intro m J hm hR2 fJ hLJ
        refine lp_261_12 _ A J ⟨fun _ => ?_, fun q => ?_⟩
        · rw [← hR2] at h; exact h A J f1 fJ
        · rw [hRA 17 (by decide), i3_lt (by omega) (by omega) (by omega) (by omega)] at q; omega
      | succ d ih =>
        intro m J hm hR2 fJ hLJ
        refine lp_261_12 _ A J ⟨fun q => ?_, fun q => ?_⟩
        · rw [hRA 17 (by decide), i3_lt (by omega) (by omega) (by omega) (by omega)] at q; omega
        · refine inner m (lsS F m 0 (fullS (nf F) + 1)) (by omega) (fun J2 fJ2 hLJ2 e2 => ?_) (fun e2 J2 fJ2 => ?_) _ 0 J (by omega) rfl fJ hLJ
          · have e : lsM F m (d + 1) = lsM F (m + 1) d := if_pos e2
            exact ih (m + 1) J2 (by omega) (by rw [← e]; exact hR2) fJ2 hLJ2
          · have e : lsM F m (d + 1) = lsS F m 0 (fullS (nf F) + 1) := if_neg e2
            rw [← e, hR2]; exact h A J2 f1 fJ2
    exact outer (nf F) 1 B (by omega) rfl f2 hL
  · rw [ibc_0] at z
    rw [if_neg z] at h
    exact h A B f1 f2
end ByS
