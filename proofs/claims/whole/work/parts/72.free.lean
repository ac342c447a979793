/-! 72: pushes that free: the reference -/
def gcd3 (p : V3) : Nat := Int.gcd ((Int.gcd p.1 p.2.1 : Nat) : Int) p.2.2
/-- a row in lowest terms -/
def low3 (p : V3) : V3 := if gcd3 p = 0 then p else (p.1.tdiv (gcd3 p), p.2.1.tdiv (gcd3 p), p.2.2.tdiv (gcd3 p))
theorem low3_b {p : V3} (h : Pb p) : Pb (low3 p) := by
  obtain ⟨h1, h2, h3⟩ := h
  unfold low3; split
  · exact ⟨h1, h2, h3⟩
  · have a := tdiv_b p.1 (gcd3 p); have b := tdiv_b p.2.1 (gcd3 p); have c := tdiv_b p.2.2 (gcd3 p)
    unfold Pb; dsimp only; omega
theorem gcd3_b {p : V3} (h : Pb p) : gcd3 p ≤ 150000 ∧ Int.gcd p.1 p.2.1 ≤ 150000 := by
  obtain ⟨h1, h2, h3⟩ := h
  have e1 : Int.gcd p.1 p.2.1 ≤ 150000 := by
    by_cases q : p.1 = 0 ∧ p.2.1 = 0
    · rw [q.1, q.2]; decide
    · exact gcd_le q h1 h2
  refine ⟨?_, e1⟩
  unfold gcd3
  by_cases q : ((Int.gcd p.1 p.2.1 : Nat) : Int) = 0 ∧ p.2.2 = 0
  · rw [q.1, q.2]; decide
  · exact gcd_le q (by omega) (by omega)
theorem gcd3_0 {p : V3} (h : gcd3 p = 0) : p = (0, 0, 0) := by
  unfold gcd3 at h
  obtain ⟨h1, h2⟩ := Int.gcd_eq_zero_iff.mp h
  obtain ⟨h3, h4⟩ := Int.gcd_eq_zero_iff.mp (Int.natCast_eq_zero.mp h1)
  obtain ⟨a, b, c⟩ := p
  simp only at h2 h3 h4
  rw [h2, h3, h4]
section Free
variable {E : gj_E} {SI : gj_I} {SJ : gj_J} {F : Nat → Int} {W : Nat → V3} {O : Nat → Int} {n : Nat}
theorem sp_lowers {Q : gj_I → gj_J → Prop} {p : V3} (hP : PS p SJ) (hb : Pb p) (h : ∀ SJ', FJ LPx SJ SJ' → PS (low3 p) SJ' → Q SI SJ') : DoV E 189 [(.ref 81)] SI SJ Q := by
  obtain ⟨s1, s2, s3⟩ := hP
  have gb := gcd3_b hb
  obtain ⟨b1, b2, b3⟩ := hb
  refine st_189 SI SJ ?_
  rw [s1, s2]
  refine sp_common (by omega) (by omega) (by omega) (by omega) ?_
  rw [s3]
  refine sp_common (by omega) (by omega) (by omega) (by omega) ?_
  have eg : Int.gcd ((Int.gcd p.1 p.2.1 : Nat) : Int) p.2.2 = gcd3 p := rfl
  rw [eg, s1, s2, s3, i6_eq (by omega) (by omega) (by omega) (by omega), i6_eq0 (by omega) (by omega)]
  refine ⟨fun c => ⟨c, ?_⟩, fun c => ?_⟩
  · have e : low3 p = (p.1.tdiv (gcd3 p), p.2.1.tdiv (gcd3 p), p.2.2.tdiv (gcd3 p)) := if_neg (by omega)
    rw [e] at h
    rw [i6_div (by omega) (by omega) (by omega) (by omega), i6_div (by omega) (by omega) (by omega) (by omega), i6_div (by omega) (by omega) (by omega) (by omega)]
    refine h _ (((FJ.rf.w ⟨rfl, Or.inl rfl⟩).w ⟨rfl, Or.inr (Or.inl rfl)⟩).w ⟨rfl, Or.inr (Or.inr rfl)⟩) ⟨?_, ?_, ?_⟩
    · rw [w2_n (by omega), w2_n (by omega), w2_s]
    · rw [w2_n (by omega), w2_s]
    · rw [w2_s]
  · have e : low3 p = p := if_pos (by omega)
    rw [e] at h
    exact h SJ FJ.rf ⟨s1, s2, s3⟩
/-- no wrench above 0 -/
def noM (W : Nat → V3) (n : Nat) (p : V3) : Prop := ∀ k, k < n → dot p (W k) ≤ 0
theorem noM_S {p : V3} : (∀ k, inS (fullS n) n k → dot p (W k) ≤ 0) ↔ noM W n p := by
  unfold noM
  constructor
  · intro h k hk; exact h k (inS_full.mpr hk)
  · intro h k hk; exact h k (inS_full.mp hk)
/-- the push that a couple makes and that frees -/
noncomputable def frP (W : Nat → V3) (n i j : Nat) : Option V3 := ic (crs (W i) (W j) = (0, 0, 0)) none (ic (noM W n (low3 (crs (W i) (W j)))) (some (low3 (crs (W i) (W j)))) (ic (noM W n (neg3 (low3 (crs (W i) (W j))))) (some (neg3 (low3 (crs (W i) (W j))))) none))
theorem frP_b {i j : Nat} {p : V3} (hB : Wb W n) (hi : i < n) (hj : j < n) (h : frP W n i j = some p) : Pb p := by
  have b := low3_b (crs_b hB hi hj)
  unfold frP at h
  by_cases q : crs (W i) (W j) = (0, 0, 0)
  · rw [ic_t q] at h; cases h
  · rw [ic_f q] at h
    by_cases q2 : noM W n (low3 (crs (W i) (W j)))
    · rw [ic_t q2] at h; cases h; exact b
    · rw [ic_f q2] at h
      by_cases q3 : noM W n (neg3 (low3 (crs (W i) (W j))))
      · rw [ic_t q3] at h; cases h; exact b.neg
      · rw [ic_f q3] at h; cases h
theorem sp_freesBy {Q : Int32 → gj_I → gj_J → Prop} {a b : Int32} (hL : LW W O n SI SJ) (hn : n ≤ 14) (hB : Wb W n) (i j : Nat) (hi : i < n) (hj : j < n) (ha : a = i3 i) (hb : b = i3 j) (h : ∀ SJ', FJ LPx SJ SJ' → (∀ p, frP W n i j = some p → PS p SJ') → Q (ibc ((frP W n i j).isSome = true)) SI SJ') : DoI E 241 [(.ref 81), (.int a), (.int b)] SI SJ Q := by
  have hfb := fullS_b hn
  refine st_241 _ _ SI SJ (sp_crosses hL (by omega) i j hi hj ha hb (fun B f hPS => ?_))
  have hpb := crs_b hB hi hj
  refine sp_isNothing hPS hpb ⟨fun c => ?_, fun c => ?_⟩
  · rw [ibc_0] at c
    refine sp_lowers hPS hpb (fun B2 f2 hP2 => ?_)
    have hlb := low3_b hpb
    have hL2 := hL.f (f.tr f2)
    refine sp_all hL2.1 hn (sp_makesNoMore hL2 hn hB hP2 hlb (fullS n) (by omega) rfl ?_)
    rw [ibc_c noM_S]
    refine ⟨fun d => ?_, fun d => ?_⟩
    · rw [ibc_0] at d
      refine sp_turnsRow hP2 (fun B3 f3 hP3 => ?_)
      have f4 := (f.tr f2).tr f3
      have hL3 := hL.f f4
      refine sp_all hL3.1 hn (sp_makesNoMore hL3 hn hB hP3 hlb.neg (fullS n) (by omega) rfl ⟨ibc_01, ?_⟩)
      rw [ibc_c noM_S]
      by_cases q : noM W n (neg3 (low3 (crs (W i) (W j))))
      · have e : frP W n i j = some (neg3 (low3 (crs (W i) (W j)))) := by unfold frP; rw [ic_f c, ic_f d, ic_t q]
        have hh := h B3 f4
        rw [e] at hh
        rw [ibc_t q]
        rw [ibc_sm] at hh
        exact hh (fun p hp => by cases hp; exact hP3)
      · have e : frP W n i j = none := by unfold frP; rw [ic_f c, ic_f d, ic_f q]
        have hh := h B3 f4
        rw [e] at hh
        rw [ibc_f q]
        rw [ibc_no] at hh
        exact hh (fun p hp => by cases hp)
    · rw [ibc_0, Classical.not_not] at d
      have e : frP W n i j = some (low3 (crs (W i) (W j))) := by unfold frP; rw [ic_f c, ic_t d]
      have hh := h B2 (f.tr f2)
      rw [e, ibc_sm] at hh
      exact hh (fun p hp => by cases hp; exact hP2)
  · rw [ibc_0, Classical.not_not] at c
    have e : frP W n i j = none := by unfold frP; rw [ic_t c]
    have hh := h B f
    rw [e, ibc_no] at hh
    exact hh (fun p hp => by cases hp)
/-- one that is found stays -/
def oth (o p : Option V3) : Option V3 := match o with
  | none => p
  | some x => some x
noncomputable def frI (W : Nat → V3) (n i : Nat) (o : Option V3) : Option V3 := forN (fun j o => oth o (frP W n i j)) (i + 1) (n - (i + 1)) o
noncomputable def frFst (W : Nat → V3) (n : Nat) : Option V3 := forN (frI W n) 0 n none
theorem oth_stay {f : Nat → Option V3} {x : V3} : ∀ (d i : Nat), forN (fun j o => oth o (f j)) i d (some x) = some x := by
  intro d
  induction d with
  | zero => intro i; rfl
  | succ d ih => intro i; exact ih (i + 1)
theorem frI_stay {x : V3} : ∀ (d i : Nat), forN (frI W n) i d (some x) = some x := by
  intro d
  induction d with
  | zero => intro i; rfl
  | succ d ih =>
    intro i
    show forN (frI W n) (i + 1) d (frI W n i (some x)) = some x
    have e : frI W n i (some x) = some x := oth_stay _ _
    rw [e]; exact ih (i + 1)
/-- 1 0 0 makes nothing with each -/
def acr0 (W : Nat → V3) (n : Nat) : Prop := ∀ k, k < n → (W k).1 = 0
/-- the first couple's row that is not 0 0 0 -/
noncomputable def crF (W : Nat → V3) (n i : Nat) (o : Option V3) : Option V3 := forN (fun j o => oth o (ic (crs (W i) (W j) = (0, 0, 0)) none (some (crs (W i) (W j))))) (i + 1) (n - (i + 1)) o
noncomputable def crAny (W : Nat → V3) (n : Nat) : Option V3 := forN (crF W n) 0 n none
/-- the last number that is not 0 is made above 0 -/
def sgn3 (p : V3) : V3 := if (if p.2.2 = 0 then (if p.2.1 = 0 then p.1 else p.2.1) else p.2.2) < 0 then neg3 p else p
noncomputable def acrA (W : Nat → V3) (n : Nat) (r : Int) : V3 := ic (acr0 W n) (1, 0, 0) (sgn3 (low3 (if r = 2 then (crAny W n).getD (1, 0, 0) else (-(W 0).2.1, (W 0).1, 0))))
theorem sp_isAcross {Q : Int32 → gj_I → gj_J → Prop} (hL : LW W O n SI SJ) (hn : n ≤ 14) (hB : Wb W n) (hP : PS (1, 0, 0) SJ) (h : Q (ibc (acr0 W n)) SI SJ) : DoI E 242 [(.ref 81)] SI SJ Q := by
  refine st_242 SI SJ ?_
  have ed : ∀ k, dot (1, 0, 0) (W k) = (W k).1 := fun k => by unfold dot; dsimp only; omega
  refine up_lp (α := Unit) (P := fun i _ A B => A = SI ∧ B = SJ ∧ ∀ k, k < i → (W k).1 = 0) (G := fun i _ A B => GoI E mt_242 2 [some (.ref 81), some (.int (i3 i))] A B Q) n ?_ ?_ 0 () SI SJ (by omega) ⟨rfl, rfl, fun k hk => by omega⟩
  · rintro _ A B ⟨rfl, rfl, hz⟩
    refine lp_242_2 _ A B ⟨fun _ => ?_, fun c => ?_⟩
    · rw [ibc_t (p := acr0 W n) hz] at h; exact h
    · rw [hL.1, i3_le (by omega) (by omega) (by omega) (by omega)] at c; omega
  · rintro i _ A B hi ⟨rfl, rfl, hz⟩ ih
    obtain ⟨b1, -, -⟩ := hB i hi
    refine lp_242_2 _ A B ⟨fun c => ?_, fun c => sp_makes hL (by omega) hP i hi rfl ?_⟩
    · rw [hL.1, i3_le (by omega) (by omega) (by omega) (by omega)] at c; omega
    · rw [ed, i6_eq (by omega) (by omega) (by omega) (by omega), i3_add]
      refine ⟨fun d => ih () A B ⟨rfl, rfl, fun k hk => ?_⟩, fun d => ?_⟩
      · by_cases q : k = i
        · subst q; exact d
        · exact hz k (by omega)
      · rw [ibc_f (fun z => d (z i hi))] at h; exact h
theorem sp_crossesAny {Q : gj_I → gj_J → Prop} (hL : LW W O n SI SJ) (hn : n ≤ 14) (hB : Wb W n) (h : ∀ SJ', FJ LPx SJ SJ' → (∀ p, crAny W n = some p → PS p SJ') → Q SI SJ') : DoV E 244 [(.ref 81)] SI SJ Q := by
  refine st_244 SI SJ ?_
  have inner : ∀ (i : Nat) (B : gj_J), i < n → FJ LPx SJ B → forN (crF W n) i (n - i) none = crAny W n → (∀ B', FJ LPx SJ B' → forN (crF W n) (i + 1) (n - (i + 1)) none = crAny W n → GoV E mt_244 2 [some (.ref 81), some (.int (i3 ((i + 1 : Nat) : Int))), none] SI B' Q) → GoV E mt_244 14 [some (.ref 81), some (.int (i3 (i : Nat))), some (.int (i3 ((i + 1 : Nat) : Int)))] SI B Q := by
    intro i B hi fB heq hc
    have e0 : forN (crF W n) i (n - i) none = forN (crF W n) (i + 1) (n - (i + 1)) (crF W n i none) := by
      rw [show n - i = (n - (i + 1)) + 1 by omega]; rfl
    rw [e0] at heq
    have lp : ∀ (d j : Nat) (B : gj_J), j + d = n → i < j → FJ LPx SJ B → crF W n i none = forN (fun j o => oth o (ic (crs (W i) (W j) = (0, 0, 0)) none (some (crs (W i) (W j))))) j d none → GoV E mt_244 14 [some (.ref 81), some (.int (i3 (i : Nat))), some (.int (i3 (j : Nat)))] SI B Q := by
      intro d
      induction d with
      | zero =>
        intro j B hj hij f e
        refine lp_244_14 _ _ SI B ⟨fun _ => ?_, fun c => ?_⟩
        · rw [i3_add]
          refine hc B f ?_
          have e' : crF W n i none = none := e
          rw [e'] at heq; exact heq
        · rw [hL.1, i3_le (by omega) (by omega) (by omega) (by omega)] at c; omega
      | succ d ih =>
        intro j B hj hij f e
        have hL2 := hL.f f
        refine lp_244_14 _ _ SI B ⟨fun c => ?_, fun c => sp_crosses hL2 (by omega) i j hi (by omega) rfl rfl (fun B2 f2 hP => sp_isNothing hP (crs_b hB hi (by omega)) ⟨fun q => ?_, fun q => ?_⟩)⟩
        · rw [hL.1, i3_le (by omega) (by omega) (by omega) (by omega)] at c; omega
        · rw [ibc_0, Classical.not_not] at q
          rw [i3_add]
          refine ih (j + 1) B2 (by omega) (by omega) (f.tr f2) ?_
          rw [e]
          show forN _ (j + 1) d (oth none (ic (crs (W i) (W j) = (0, 0, 0)) none (some (crs (W i) (W j))))) = _
          rw [ic_t q]; rfl
        · rw [ibc_0] at q
          refine h B2 (f.tr f2) (fun p hp => ?_)
          have e2 : crF W n i none = some (crs (W i) (W j)) := by
            rw [e]
            show forN _ (j + 1) d (oth none (ic (crs (W i) (W j) = (0, 0, 0)) none (some (crs (W i) (W j))))) = _
            rw [ic_f q]; exact oth_stay _ _
          rw [e2] at heq
          have st : ∀ (d i : Nat) (x : V3), forN (crF W n) i d (some x) = some x := by
            intro d
            induction d with
            | zero => intro i x; rfl
            | succ d ih => intro i x; show forN (crF W n) (i + 1) d (crF W n i (some x)) = some x
                           rw [show crF W n i (some x) = some x from oth_stay _ _]; exact ih (i + 1) x
          rw [st] at heq
          rw [← heq] at hp
          cases hp; exact hP
    exact lp (n - (i + 1)) (i + 1) B (by omega) (by omega) fB rfl
  have outer : ∀ (d i : Nat) (B : gj_J), i + d = n → FJ LPx SJ B → forN (crF W n) i (n - i) none = crAny W n → GoV E mt_244 2 [some (.ref 81), some (.int (i3 (i : Nat))), none] SI B Q := by
    intro d
    induction d with
    | zero =>
      intro i B hi f heq
      refine lp_244_2 _ SI B ⟨fun _ => h B f (fun p hp => ?_), fun c => ?_⟩
      · rw [show n - i = 0 by omega] at heq
        have heq' : (none : Option V3) = crAny W n := heq
        rw [← heq'] at hp; cases hp
      · rw [hL.1, i3_le (by omega) (by omega) (by omega) (by omega)] at c; omega
    | succ d ih =>
      intro i B hi f heq
      refine lp_244_2 _ SI B ⟨fun c => ?_, fun c => ?_⟩
      · rw [hL.1, i3_le (by omega) (by omega) (by omega) (by omega)] at c; omega
      · rw [i3_add]
        exact inner i B (by omega) f heq (fun B' f' h' => ih (i + 1) B' (by omega) f' h')
  exact outer n 0 SJ (by omega) FJ.rf rfl
end Free
