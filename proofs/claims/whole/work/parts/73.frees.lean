/-! 73: the reference's free, frees -/
theorem crAny_b {W : Nat → V3} {n : Nat} (hB : Wb W n) {p : V3} (h : crAny W n = some p) : Pb p := by
  have key : ∀ o : Option V3, o = crAny W n → ∀ p, o = some p → Pb p := by
    intro o ho
    have : ∀ p, crAny W n = some p → Pb p := forN_I (P := fun _ o => ∀ p, o = some p → Pb p) n 0 none (fun i o h1 h2 hi => forN_I (P := fun _ o => ∀ p, o = some p → Pb p) (n - (i + 1)) (i + 1) o (fun j o g1 g2 hj p hp => by
      cases o with
      | some x => exact hj p hp
      | none =>
        have hp' : ic (crs (W i) (W j) = (0, 0, 0)) none (some (crs (W i) (W j))) = some p := hp
        by_cases q : crs (W i) (W j) = (0, 0, 0)
        · rw [ic_t q] at hp'; cases hp'
        · rw [ic_f q] at hp'; cases hp'; exact crs_b hB (by omega) (by omega)) hi) (fun p hp => by cases hp)
    rw [ho]; exact this
  exact key _ rfl p h
section Frees
variable {E : gj_E} {SI : gj_I} {SJ : gj_J} {F : Nat → Int} {W : Nat → V3} {O : Nat → Int} {n : Nat}
theorem sgn3_go {Q : gj_I → gj_J → Prop} {p : V3} (hP : PS p SJ) (hb : Pb p) (h : ∀ SJ', FJ LPx SJ SJ' → PS (sgn3 p) SJ' → Q SI SJ') : ((SJ 81 11) = (i6 0) → ((SJ 81 10) = (i6 0) → ((SJ 81 9) ≥ (i6 0) → Q SI SJ) ∧ (¬ (SJ 81 9) ≥ (i6 0) → DoV E 190 [(.ref 81)] SI SJ Q)) ∧ (¬ (SJ 81 10) = (i6 0) → ((SJ 81 10) ≥ (i6 0) → Q SI SJ) ∧ (¬ (SJ 81 10) ≥ (i6 0) → DoV E 190 [(.ref 81)] SI SJ Q))) ∧ (¬ (SJ 81 11) = (i6 0) → ((SJ 81 11) ≥ (i6 0) → Q SI SJ) ∧ (¬ (SJ 81 11) ≥ (i6 0) → DoV E 190 [(.ref 81)] SI SJ Q)) := by
  have hP2 := hP
  obtain ⟨s1, s2, s3⟩ := hP2
  obtain ⟨b1, b2, b3⟩ := hb
  have nn : ∀ x : Int, (if p.2.2 = 0 then (if p.2.1 = 0 then p.1 else p.2.1) else p.2.2) = x → 0 ≤ x → Q SI SJ := by
    intro x hx hx2
    have e : sgn3 p = p := if_neg (by rw [hx]; omega)
    rw [e] at h; exact h SJ FJ.rf hP
  have ng : ∀ x : Int, (if p.2.2 = 0 then (if p.2.1 = 0 then p.1 else p.2.1) else p.2.2) = x → x < 0 → DoV E 190 [(.ref 81)] SI SJ Q := by
    intro x hx hx2
    have e : sgn3 p = neg3 p := if_pos (by rw [hx]; exact hx2)
    rw [e] at h; exact sp_turnsRow hP h
  rw [s1, s2, s3]
  rw [i6_eq (by omega) (by omega) (by omega) (by omega), i6_eq (by omega) (by omega) (by omega) (by omega), ge_iff_le, ge_iff_le, ge_iff_le, i6_le (by omega) (by omega) (by omega) (by omega), i6_le (by omega) (by omega) (by omega) (by omega), i6_le (by omega) (by omega) (by omega) (by omega)]
  refine ⟨fun c => ⟨fun d => ⟨fun e => nn _ (by rw [if_pos c, if_pos d]) e, fun e => ng _ (by rw [if_pos c, if_pos d]) (by omega)⟩, fun d => ⟨fun e => nn _ (by rw [if_pos c, if_neg d]) e, fun e => ng _ (by rw [if_pos c, if_neg d]) (by omega)⟩⟩, fun c => ⟨fun e => nn _ (by rw [if_neg c]) e, fun e => ng _ (by rw [if_neg c]) (by omega)⟩⟩
theorem sp_findsAcross {Q : gj_I → gj_J → Prop} {a : Int32} (hL : LW W O n SI SJ) (hn : n ≤ 14) (hB : Wb W n) (r : Int) (hr : 0 ≤ r ∧ r ≤ 3) (ha : a = i3 r) (hc : r = 2 → ∃ p, crAny W n = some p) (h1 : r ≠ 2 → acr0 W n ∨ 0 < n) (h : ∀ SJ', FJ LPx SJ SJ' → PS (acrA W n r) SJ' → Q SI SJ') : DoV E 243 [(.ref 81), (.int a)] SI SJ Q := by
  subst ha
  refine st_243 _ SI SJ ?_
  have f0 : FJ LPx SJ (gj_w2 (gj_w2 (gj_w2 SJ 81 9 (i6 1)) 81 10 (i6 0)) 81 11 (i6 0)) := ((FJ.rf.w ⟨rfl, Or.inl rfl⟩).w ⟨rfl, Or.inr (Or.inl rfl)⟩).w ⟨rfl, Or.inr (Or.inr rfl)⟩
  have p0 : PS (1, 0, 0) (gj_w2 (gj_w2 (gj_w2 SJ 81 9 (i6 1)) 81 10 (i6 0)) 81 11 (i6 0)) := ⟨by rw [w2_n (by omega), w2_n (by omega), w2_s], by rw [w2_n (by omega), w2_s], by rw [w2_s]⟩
  have hL0 := hL.f f0
  refine sp_isAcross hL0 hn hB p0 ⟨fun c => ?_, fun c => ?_⟩
  · rw [ibc_0] at c
    rw [i3_eq (by omega) (by omega) (by omega) (by omega)]
    refine ⟨fun d => ?_, fun d => ?_⟩
    · have e : acrA W n r = sgn3 (low3 (-(W 0).2.1, (W 0).1, 0)) := by unfold acrA; rw [ic_f c, if_neg d]
      rw [e] at h
      have n0 : 0 < n := (h1 d).resolve_left c
      obtain ⟨x1, x2, x3, -⟩ := hL0.2 0 n0
      obtain ⟨b1, b2, b3⟩ := hB 0 n0
      rw [x1, x2, i6_neg]
      have pb : Pb (-(W 0).2.1, (W 0).1, 0) := by unfold Pb; dsimp only; omega
      refine sp_lowers (p := (-(W 0).2.1, (W 0).1, 0)) ⟨by rw [w2_n (by omega), w2_s], by rw [w2_s], by rw [w2_n (by omega), w2_n (by omega), w2_s]⟩ pb (fun B f hP => ?_)
      have f1 := (f0.w ⟨rfl, Or.inl rfl⟩).w ⟨rfl, Or.inr (Or.inl rfl)⟩ |>.tr f
      exact sgn3_go hP (low3_b pb) (fun B2 f2 hP2 => h B2 (f1.tr f2) hP2)
    · obtain ⟨p, hp⟩ := hc d
      have e : acrA W n r = sgn3 (low3 p) := by unfold acrA; rw [ic_f c, if_pos d, hp]; rfl
      rw [e] at h
      refine sp_crossesAny hL0 hn hB (fun B f hP => ?_)
      have pb := crAny_b hB hp
      refine sp_lowers (hP p hp) pb (fun B2 f2 hP2 => ?_)
      exact sgn3_go hP2 (low3_b pb) (fun B3 f3 hP3 => h B3 (((f0.tr f).tr f2).tr f3) hP3)
  · rw [ibc_0, Classical.not_not] at c
    have e : acrA W n r = (1, 0, 0) := ic_t c
    rw [e] at h
    exact h _ f0 p0
/-- rank 2: there is a couple -/
theorem crAny_ex (h : R2 W n (fullS n)) : ∃ p, crAny W n = some p := by
  obtain ⟨i, j, hij, hi, hj, hz⟩ := h
  cases hc : crAny W n with
  | some p => exact ⟨p, rfl⟩
  | none =>
    exfalso
    have stc : ∀ (d i : Nat) (x : V3), forN (crF W n) i d (some x) = some x := by
      intro d
      induction d with
      | zero => intro i x; rfl
      | succ d ih => intro i x; show forN (crF W n) (i + 1) d (crF W n i (some x)) = some x
                     rw [show crF W n i (some x) = some x from oth_stay _ _]; exact ih (i + 1) x
    have none_of : ∀ (f : Nat → Option V3) (d a : Nat), forN (fun j o => oth o (f j)) a d none = none → ∀ k, a ≤ k → k < a + d → f k = none := by
      intro f d
      induction d with
      | zero => intro a h k h1 h2; omega
      | succ d ih =>
        intro a h k h1 h2
        have h' : forN (fun j o => oth o (f j)) (a + 1) d (f a) = none := h
        cases hf : f a with
        | some x => rw [hf, oth_stay] at h'; cases h'
        | none =>
          rw [hf] at h'
          by_cases q : k = a
          · rw [q]; exact hf
          · exact ih (a + 1) h' k (by omega) (by omega)
    have none_out : ∀ (d a : Nat), forN (crF W n) a d none = none → ∀ k, a ≤ k → k < a + d → crF W n k none = none := by
      intro d
      induction d with
      | zero => intro a h k h1 h2; omega
      | succ d ih =>
        intro a h k h1 h2
        have h' : forN (crF W n) (a + 1) d (crF W n a none) = none := h
        cases hf : crF W n a none with
        | some x => rw [hf, stc] at h'; cases h'
        | none =>
          rw [hf] at h'
          by_cases q : k = a
          · rw [q]; exact hf
          · exact ih (a + 1) h' k (by omega) (by omega)
    have h1 := none_out n 0 hc i (by omega) (by have := hi.1; omega)
    have h2 := none_of _ _ _ h1 j (by omega) (by have := hj.1; omega)
    rw [ic_f hz] at h2
    cases h2
/-- the push that frees, if there is one -/
noncomputable def freeO (F : Nat → Int) : Option V3 := if rkF F = 3 then frFst (WW F) (nW F) else some (acrA (WW F) (nW F) (rkF F))
noncomputable def freeA (F : Nat → Int) (w : Int) : Int := if 0 ≤ w ∧ w ≤ 2 then (match freeO F with | none => -9000000000000000000 | some p => if w = 0 then p.1 else if w = 1 then p.2.1 else p.2.2) else -9000000000000000000
theorem sp_findsFree {Q : Int32 → gj_I → gj_J → Prop} (hR : RF F SI) (hW : Wp F) (hT : Wt F) (hN : Wn F) (h : ∀ SI' SJ', FI LI1 SI SI' → FJ LJ1 SJ SJ' → (∀ p, freeO F = some p → PS p SJ') → Q (ibc ((freeO F).isSome = true)) SI' SJ') : DoI E 240 [(.ref 81)] SI SJ Q := by
  have nb := nw_b hN
  have hB := Wl_b hW hT (hN.ok hW.1)
  have hfb := fullS_b (n := nf F * fc F) (by omega)
  have rk := rkF_I F
  unfold freeO WW nW at h
  refine st_240 SI SJ (sp_lays hR hW hT hN (fun A B f1 f2 hL => sp_all hL.1 (by omega) (sp_rankOf hL (by omega) hB (fullS (nf F * fc F)) (by omega) rfl (fun r B2 f3 hr hr2 => ?_))))
  have er : r = rkF F := rkI_un hr rk.1
  subst er
  have hL2 := hL.f f3
  have f4 := f2.tr (f3.le LPx_J1)
  generalize hn : nf F * fc F = n at *
  generalize Wl F (ctF F) = W at *
  rw [i3_le (by omega) (by omega) (by omega) (by omega)]
  refine ⟨fun c => ?_, fun c => ?_⟩
  · rw [if_pos (by omega)] at h
    have outer : ∀ (d i : Nat) (B : gj_J), i + d = n → FJ LPx B2 B → forN (frI W n) i (n - i) none = frFst W n → GoI E mt_240 27 [some (.ref 81), none, some (.int (i3 (i : Nat))), none] A B Q := by
      intro d
      induction d with
      | zero =>
        intro i B hi f heq
        refine lp_240_27 _ A B ⟨fun _ => ?_, fun q => ?_⟩
        · rw [show n - i = 0 by omega] at heq
          have heq' : (none : Option V3) = frFst W n := heq
          have hh := h A B f1 (f4.tr (f.le LPx_J1))
          rw [← heq', ibc_no] at hh
          exact hh (fun p hp => by cases hp)
        · rw [hL.1, i3_le (by omega) (by omega) (by omega) (by omega)] at q; omega
      | succ d ih =>
        intro i B hi f heq
        refine lp_240_27 _ A B ⟨fun q => ?_, fun q => ?_⟩
        · rw [hL.1, i3_le (by omega) (by omega) (by omega) (by omega)] at q; omega
        · have e0 : forN (frI W n) i (n - i) none = forN (frI W n) (i + 1) (n - (i + 1)) (frI W n i none) := by
            rw [show n - i = (n - (i + 1)) + 1 by omega]; rfl
          rw [e0] at heq
          rw [i3_add]
          have lp : ∀ (d j : Nat) (B : gj_J), j + d = n → i < j → FJ LPx B2 B → frI W n i none = forN (fun j o => oth o (frP W n i j)) j d none → GoI E mt_240 39 [some (.ref 81), none, some (.int (i3 (i : Nat))), some (.int (i3 (j : Nat)))] A B Q := by
            intro d
            induction d with
            | zero =>
              intro j B hj hij f e
              refine lp_240_39 _ _ A B ⟨fun _ => ?_, fun q => ?_⟩
              · rw [i3_add]
                have e' : frI W n i none = none := e
                rw [e'] at heq
                exact ih (i + 1) B (by omega) f heq
              · rw [hL.1, i3_le (by omega) (by omega) (by omega) (by omega)] at q; omega
            | succ d ih2 =>
              intro j B hj hij f e
              have hLB := hL2.f f
              refine lp_240_39 _ _ A B ⟨fun q => ?_, fun q => sp_freesBy hLB (by omega) hB i j (by omega) (by omega) rfl rfl (fun B3 f5 hP => ⟨fun q2 => ?_, fun q2 => ?_⟩)⟩
              · rw [hL.1, i3_le (by omega) (by omega) (by omega) (by omega)] at q; omega
              · rw [ibc_0] at q2
                rw [i3_add]
                refine ih2 (j + 1) B3 (by omega) (by omega) (f.tr f5) ?_
                rw [e]
                show forN _ (j + 1) d (oth none (frP W n i j)) = _
                cases hp : frP W n i j with
                | none => rfl
                | some p => rw [hp] at q2; exact absurd rfl q2
              · rw [ibc_0, Classical.not_not] at q2
                cases hp : frP W n i j with
                | none => rw [hp] at q2; cases q2
                | some p =>
                  have e2 : frI W n i none = some p := by
                    rw [e]
                    show forN _ (j + 1) d (oth none (frP W n i j)) = _
                    rw [hp]; exact oth_stay _ _
                  rw [e2, frI_stay] at heq
                  have hh := h A B3 f1 (f4.tr ((f.tr f5).le LPx_J1))
                  rw [← heq, ibc_sm] at hh
                  exact hh (fun p2 hp2 => by cases hp2; exact hP p hp)
          exact lp (n - (i + 1)) (i + 1) B (by omega) (by omega) f rfl
    exact outer n 0 B2 (by omega) FJ.rf rfl
  · rw [if_neg (by omega)] at h
    have r2 : rkF F = 2 → ∃ p, crAny W n = some p := by
      intro e2
      refine crAny_ex ?_
      rcases hr with ⟨z, -⟩ | ⟨-, ⟨-, z⟩ | ⟨-, ⟨z, -⟩ | ⟨z, -⟩⟩⟩
      · omega
      · exact z
      · omega
      · omega
    have r1 : rkF F ≠ 2 → acr0 W n ∨ 0 < n := by
      intro _
      rcases Nat.eq_zero_or_pos n with z | z
      · left; intro k hk; omega
      · exact Or.inr z
    refine sp_findsAcross hL2 (by omega) hB (rkF F) (by omega) rfl r2 r1 (fun B3 f5 hP => ?_)
    have hh := h A B3 f1 (f4.tr (f5.le LPx_J1))
    rw [ibc_sm] at hh
    exact hh (fun p hp => by cases hp; exact hP)
theorem sp_free {Q : Int64 → gj_I → gj_J → Prop} {a : Int32} (hR : RF F SI) (hW : Wp F) (hT : Wt F) (hN : Wn F) (w : Int) (wr : -2147483648 ≤ w ∧ w < 2147483648) (ha : a = i3 w) (h : ∀ SI' SJ', FI LI1 SI SI' → FJ LJ1 SJ SJ' → Q (i6 (freeA F w)) SI' SJ') : DoL E 245 [(.ref 81), (.int a)] SI SJ Q := by
  subst ha
  unfold freeA at h
  refine st_245 _ SI SJ ?_
  rw [i3_64 (by omega) (by omega)]
  refine sp_in (by omega) (by omega) (by omega) (by omega) (by omega) (by omega) ⟨fun z => ?_, fun z => ?_⟩
  · rw [ib_0] at z
    rw [if_neg z] at h; exact h SI SJ FI.rf FJ.rf
  · rw [ib_0, Decidable.not_not] at z
    rw [if_pos z] at h
    refine sp_findsFree hR hW hT hN (fun A B f1 f2 hP => ?_)
    have hh := h A B f1 f2
    rw [i3_eq0 (by omega) (by omega), i3_eq (by omega) (by omega) (by omega) (by omega)]
    cases ho : freeO F with
    | none =>
      rw [ho] at hh
      exact ⟨fun c => absurd (ibc_0.mpr (by decide)) c, fun _ => hh⟩
    | some p =>
      rw [ho] at hh
      obtain ⟨s1, s2, s3⟩ := hP p ho
      rw [s1, s2, s3]
      dsimp only at hh
      refine ⟨fun _ => ⟨fun c => ⟨fun d => ?_, fun d => ?_⟩, fun c => ?_⟩, fun c => absurd (show (some p).isSome = true from rfl) (ibc_0.mp c)⟩
      · rw [if_neg c, if_neg d] at hh; exact hh
      · rw [if_neg c, if_pos d] at hh; exact hh
      · rw [if_pos c] at hh; exact hh
end Frees
