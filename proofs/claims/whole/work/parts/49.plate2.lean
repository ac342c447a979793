/-! 49: a plate is laid -/
/-- so many corners laid -/
def lay (F : Nat → Int) (c i : Nat) (t : Nat → V3) : Nat → Int := fun j => if j = 0 then c else if 1 ≤ j ∧ j < 1 + i then (t (j - 1)).1 else if 9 ≤ j ∧ j < 9 + i then (t (j - 9)).2.1 else F j
def layF (F : Nat → Int) (c : Nat) (t : Nat → V3) : Nat → Int := fu (fu (fu (fu (lay F c c t) 17 0) 32 2) 33 2) 35 0
def LLy (o k : Nat) : Prop := LRC o k ∨ o = 82 ∨ o = 84
/-- corners that were read -/
def Cb (t : Nat → V3) (c : Nat) : Prop := ∀ j, j < c → 0 ≤ (t j).1 ∧ (t j).1 ≤ 9 ∧ 0 ≤ (t j).2.1 ∧ (t j).2.1 ≤ 9
theorem layF_lo {F : Nat → Int} {c : Nat} {t : Nat → V3} {j : Nat} (h : j < 17) : layF F c t j = lay F c c t j := by unfold layF; rw [fu_n (by omega), fu_n (by omega), fu_n (by omega), fu_n (by omega)]
theorem lay_hi {F : Nat → Int} {c i : Nat} {t : Nat → V3} {j : Nat} (hi : i ≤ 8) (h : 17 ≤ j) : lay F c i t j = F j := by unfold lay; rw [if_neg (by omega), if_neg (by omega), if_neg (by omega)]
theorem layF_hi {F : Nat → Int} {c : Nat} {t : Nat → V3} {j : Nat} (hc : c ≤ 8) (h : 17 < j) (h1 : j ≠ 32) (h2 : j ≠ 33) (h3 : j ≠ 35) : layF F c t j = F j := by
  unfold layF; rw [fu_n h3, fu_n h2, fu_n h1, fu_n (by omega)]; exact lay_hi hc (by omega)
theorem layF_c {F : Nat → Int} (h : Wc F) {c : Nat} {t : Nat → V3} (h1 : 1 ≤ c) (h8 : c ≤ 8) (hb : Cb t c) : Wc (layF F c t) := by
  refine ⟨?_, ?_, fun i hi => ?_⟩
  · rw [layF_lo (by decide)]; unfold lay; rw [if_pos rfl]; omega
  · rw [layF_lo (by decide)]; unfold lay; rw [if_pos rfl]; omega
  · have b := h.2.2 i hi
    rw [layF_lo (by omega), layF_lo (by omega)]
    unfold lay
    by_cases q : i < c
    · have b2 := hb i q
      rw [if_neg (by omega), if_pos (by omega), if_neg (by omega), if_neg (by omega), if_pos (by omega), show 1 + i - 1 = i by omega, show 9 + i - 9 = i by omega]
      exact b2
    · rw [if_neg (by omega), if_neg (by omega), if_neg (by omega), if_neg (by omega), if_neg (by omega), if_neg (by omega)]
      exact b
section Lay
variable {E : gj_E} {SI : gj_I} {SJ : gj_J} {F : Nat → Int} {T : Nat → Int} {n p c : Nat} {t : Nat → V3}
theorem sp_lays0 {Q : gj_I → gj_J → Prop} (hR : RF F SI) (hD : TD t c SI) (h8 : c ≤ 8) (h : ∀ SI', RF (layF F c t) SI' → (∀ k, k < 135 → SI' 84 k = i3 (F k)) → FI (fun o _ => o = 82 ∨ o = 84) SI SI' → Q SI' SJ) : DoV E 214 [(.ref 81)] SI SJ Q := by
  refine st_214 SI SJ ?_
  have key2 : ∀ (d i : Nat) (A : gj_I), i + d = c → RF (lay F c i t) A → (∀ k, k < 135 → A 84 k = i3 (F k)) → FI (fun o _ => o = 82 ∨ o = 84) SI A → GoV E mt_214 39 [some (.ref 81), some (.int (i3 i))] A SJ Q := by
    intro d
    induction d with
    | zero =>
      intro i A hi hA hS f
      have e19 : A 81 19 = i3 c := by rw [f 81 19 (by omega)]; exact hD.1
      have ei : i = c := by omega
      subst ei
      refine lp_214_39 _ A SJ ⟨fun _ => ?_, fun q => ?_⟩
      · refine h _ ((((hA.u 17 0 rfl).u 32 2 rfl).u 33 2 rfl).u 35 0 rfl) (fun k hk => ?_) ((((f.u (Or.inl rfl)).u (Or.inl rfl)).u (Or.inl rfl)).u (Or.inl rfl))
        rw [u2_n (by omega), u2_n (by omega), u2_n (by omega), u2_n (by omega)]; exact hS k hk
      · rw [e19, i3_le (by omega) (by omega) (by omega) (by omega)] at q; omega
    | succ d ih =>
      intro i A hi hA hS f
      have e19 : A 81 19 = i3 c := by rw [f 81 19 (by omega)]; exact hD.1
      have hDi := hD.2 i (by omega)
      refine lp_214_39 _ A SJ ⟨fun q => ?_, fun q => ?_⟩
      · rw [e19, i3_le (by omega) (by omega) (by omega) (by omega)] at q; omega
      · simp only [i3_mul, i3_add]
        rw [i3_in (by omega) (by omega), i3_in (by omega) (by omega), i3_in (by omega) (by omega), i3_in (by omega) (by omega), i3_n (by omega) (by omega), i3_n (by omega) (by omega), i3_n (by omega) (by omega), i3_n (by omega) (by omega)]
        rw [show (1 + (i : Int)).toNat = 1 + i by omega, show (9 + (i : Int)).toNat = 9 + i by omega, show (2 * (i : Int)).toNat = 2 * i by omega, show (2 * (i : Int) + 1).toNat = 2 * i + 1 by omega, show (i : Int) + 1 = ((i + 1 : Nat) : Int) by omega, f 90 (2 * i) (by omega), f 90 (2 * i + 1) (by omega), hDi.1, hDi.2]
        refine ⟨by omega, by omega, by omega, by omega, ih (i + 1) _ (by omega) (((hA.u (1 + i) _ rfl).u (9 + i) _ rfl).c (fun k hk => ?_)) (fun k hk => ?_) ((f.u (Or.inl rfl)).u (Or.inl rfl))⟩
        · unfold fu lay
          by_cases q1 : k = 9 + i
          · rw [if_pos q1, if_neg (by omega), if_neg (by omega), if_pos (by omega), show k - 9 = i by omega]
          · rw [if_neg q1]
            by_cases q2 : k = 1 + i
            · rw [if_pos q2, if_neg (by omega), if_pos (by omega), show k - 1 = i by omega]
            · rw [if_neg q2]
              by_cases q0 : k = 0
              · rw [if_pos q0, if_pos q0]
              · rw [if_neg q0, if_neg q0]
                by_cases q3 : 1 ≤ k ∧ k < 1 + i
                · rw [if_pos q3, if_pos (by omega)]
                · rw [if_neg q3, if_neg (show ¬ (1 ≤ k ∧ k < 1 + (i + 1)) by omega)]
                  by_cases q4 : 9 ≤ k ∧ k < 9 + i
                  · rw [if_pos q4, if_pos (by omega)]
                  · rw [if_neg q4, if_neg (show ¬ (9 ≤ k ∧ k < 9 + (i + 1)) by omega)]
        · rw [u2_n (by omega), u2_n (by omega)]; exact hS k hk
  have key : ∀ (d i : Nat) (A : gj_I), i + d = 135 → (∀ k, k < i → A 84 k = i3 (F k)) → FI (fun o _ => o = 84) SI A → GoV E mt_214 2 [some (.ref 81), some (.int (i3 i))] A SJ Q := by
    intro d
    induction d with
    | zero =>
      intro i A hi hS f
      refine lp_214_2 _ A SJ ⟨fun _ => ?_, fun q => ?_⟩
      · have hA : RF F A := hR.f f (by omega)
        have e19 : A 81 19 = i3 c := by rw [f 81 19 (by omega)]; exact hD.1
        rw [e19]
        refine key2 c 0 _ (by omega) ((hA.u 0 c rfl).c (fun k hk => ?_)) (fun k hk => ?_) ((f.le (fun o k z => Or.inr z)).u (Or.inl rfl))
        · unfold fu lay
          by_cases q0 : k = 0
          · rw [if_pos q0, if_pos q0]
          · rw [if_neg q0, if_neg q0, if_neg (by omega), if_neg (by omega)]
        · rw [u2_n (by omega)]; exact hS k (by omega)
      · rw [i3_le (by omega) (by omega) (by omega) (by omega)] at q; omega
    | succ d ih =>
      intro i A hi hS f
      refine lp_214_2 _ A SJ ⟨fun q => ?_, fun q => ?_⟩
      · rw [i3_le (by omega) (by omega) (by omega) (by omega)] at q; omega
      · have hA : RF F A := hR.f f (by omega)
        rw [i3_in (by omega) (by omega), i3_n (by omega) (by omega), i3_add, show ((i : Nat) : Int).toNat = i by omega, show (i : Int) + 1 = ((i + 1 : Nat) : Int) by omega]
        refine ⟨by omega, ih (i + 1) _ (by omega) (fun k hk => ?_) (f.u rfl)⟩
        by_cases q1 : k = i
        · subst q1; rw [u2_s]; exact hA k (by omega)
        · rw [u2_n (by omega)]; exact hS k (by omega)
  exact key 135 0 SI (by omega) (fun k hk => by omega) FI.rf
noncomputable def plE (F : Nat → Int) (x : Int) (R : Int ⊕ (Nat × (Nat → V3))) : Int × (Nat → Int) := match R with
  | .inl e => (e, F)
  | .inr (c, t) => @ite _ (plt (layF F c t)) (Classical.propDecidable _) ((c : Int), layF F c t) (-5000 - x, F)
/-- what the file is after a plate's text of n bytes -/
noncomputable def plateR (T F : Nat → Int) (tp x : Int) : Int × (Nat → Int) := if 1 ≤ x ∧ x ≤ 60 ∧ x ≤ tp then plE F x (rd (crnP T x.toNat) T x.toNat 8) else (-1, F)
/-- how many bytes are left on the tape -/
def tpR (tp x most : Int) : Int := if 1 ≤ x ∧ x ≤ most ∧ x ≤ tp then 0 else tp
def LPl (o k : Nat) : Prop := LLy o k ∨ (o = 81 ∧ (k = 13 ∨ k = 15))
theorem LRC_Pl : ∀ o k, LRC o k → LPl o k := fun _ _ h => Or.inl (Or.inl h)
theorem FI.lr {L : Nat → Nat → Prop} {A B C : gj_I} (f1 : FI L A B) (f2 : FI LRC B C) (hl : ∀ o k, LRC o k → L o k) : FI L A C := f1.tr (f2.le hl)
theorem RF.lrc {A B : gj_I} (h : RF F A) (f : FI LRC A B) : RF F B := h.f f (by unfold LRC; omega)
theorem sp_plate {Q : Int32 → gj_I → gj_J → Prop} {a : Int32} (hR : RF F SI) (hF : Wc F) (hT : RT T SI) (tp x : Int) (hx : -2147483648 ≤ x ∧ x < 2147483648) (ht : SI 81 13 = i3 tp) (ht2 : 0 ≤ tp ∧ tp ≤ 240) (ha : a = i3 x) (h : ∀ SI', RF (plateR T F tp x).2 SI' → SI' 81 13 = i3 (tpR tp x 60) → FI LPl SI SI' → Q (i3 (plateR T F tp x).1) SI' SJ) : DoI E 215 [(.ref 81), (.int a)] SI SJ Q := by
  subst ha
  refine st_215 _ SI SJ (sp_begins x 60 tp hx (by omega) hT ht ht2 rfl rfl (fun g A f1 e13 hP => ⟨fun _ => ?_, fun q => absurd q (by decide)⟩) (fun g => ⟨fun q => absurd rfl q, fun _ => ?_⟩))
  · unfold plateR tpR at h
    rw [if_pos g, if_pos g] at h
    unfold rd at h
    have fA : FI LPl SI (gj_u2 A 81 19 (i3 0)) := (f1.le (fun o k z => by unfold LPl LLy LRC; omega)).u (by unfold LPl LLy LRC; omega)
    have hPA : RP T x.toNat 0 (gj_u2 A 81 19 (i3 0)) := by
      obtain ⟨p1, p2, p3, p4, p5⟩ := hP
      refine ⟨fun k hk => ?_, p2, p3, ?_, ?_⟩
      · rw [u2_n (by omega)]; exact p1 k hk
      · rw [u2_n (by omega)]; exact p4
      · rw [u2_n (by omega)]; exact p5
    have hRA : RF F (gj_u2 A 81 19 (i3 0)) := fun k hk => by rw [u2_n (by omega), f1 82 k (by omega)]; exact hR k hk
    have e13A : (gj_u2 A 81 19 (i3 0)) 81 13 = i3 0 := by rw [u2_n (by omega)]; exact e13
    have n13 : ¬ LRC 81 13 := by unfold LRC; omega
    have xn : x = (x.toNat : Int) := by omega
    have bad : ∀ (e : Int) (B : gj_I), B 81 16 = i3 e → B 81 13 = i3 0 → RF F B → FI LPl SI B → (∀ C, RF F C → C 81 13 = i3 0 → FI LPl SI C → Q (i3 e) C SJ) → GoI E mt_215 22 [some (.ref 81), none, some (.int (i3 0)), none] B SJ Q := by
      intro e B h16 h13 hB fB hh
      refine lp_215_22 _ B SJ ⟨fun _ => ⟨fun q => absurd rfl q, fun _ => ?_⟩, fun q => absurd rfl q⟩
      rw [h16]; exact hh B hB h13 fB
    have back : ∀ (d i : Nat) (B : gj_I), i + d = 135 → (∀ k, k < i → B 82 k = i3 (F k)) → (∀ k, k < 135 → B 84 k = i3 (F k)) → B 81 13 = i3 0 → B 81 15 = i3 x → FI LPl SI B → (∀ C, RF F C → C 81 13 = i3 0 → FI LPl SI C → Q (i3 (-5000 - x)) C SJ) → GoI E mt_215 89 [some (.ref 81), none, none, some (.int (i3 i))] B SJ Q := by
      intro d
      induction d with
      | zero =>
        intro i B hi hB hS h13 h15 fB hh
        refine lp_215_89 _ B SJ ⟨fun _ => ?_, fun q => ?_⟩
        · rw [h15, i3_sub]; exact hh B (fun k hk => hB k (by omega)) h13 fB
        · rw [i3_le (by omega) (by omega) (by omega) (by omega)] at q; omega
      | succ d ih =>
        intro i B hi hB hS h13 h15 fB hh
        refine lp_215_89 _ B SJ ⟨fun q => ?_, fun q => ?_⟩
        · rw [i3_le (by omega) (by omega) (by omega) (by omega)] at q; omega
        · rw [i3_in (by omega) (by omega), i3_n (by omega) (by omega), i3_add, show ((i : Nat) : Int).toNat = i by omega, show (i : Int) + 1 = ((i + 1 : Nat) : Int) by omega]
          refine ⟨by omega, ih (i + 1) _ (by omega) (fun k hk => ?_) (fun k hk => ?_) (by rw [u2_n (by omega)]; exact h13) (by rw [u2_n (by omega)]; exact h15) (fB.u (Or.inl (Or.inr (Or.inl rfl)))) hh⟩
          · by_cases q1 : k = i
            · subst q1; rw [u2_s]; exact hS k (by omega)
            · rw [u2_n (by omega)]; exact hB k (by omega)
          · rw [u2_n (by omega)]; exact hS k hk
    have loop : ∀ (f c q : Nat) (t : Nat → V3) (B : gj_I) (R : Int ⊕ (Nat × (Nat → V3))), 1 ≤ c → c ≤ 8 → c + f = 9 → rdT (crnP T x.toNat) T x.toNat f c q t = R → RP T x.toNat q B → TD t c B → Cb t c → B 81 13 = i3 0 → RF F B → FI LPl SI B → (∀ C, RF (plE F x R).2 C → C 81 13 = i3 0 → FI LPl SI C → Q (i3 (plE F x R).1) C SJ) → GoI E mt_215 22 [some (.ref 81), none, some (.int (i3 1)), none] B SJ Q := by
      intro f
      induction f with
      | zero => intro c q t B R h1 h8 hc; omega
      | succ f ih =>
        intro c q t B R h1 h8 hc hr0 hPB hD hb h13 hB fB hh
        have hn := hPB.2.1
        have hqn := hPB.2.2.1
        unfold rdT at hr0
        refine lp_215_22 _ B SJ ⟨fun q => absurd q (by decide), fun _ => ?_⟩
        rw [hPB.2.2.2.1, hPB.2.2.2.2, i3_le (by omega) (by omega) (by omega) (by omega)]
        refine ⟨fun z => ⟨fun _ => ?_, fun q => absurd q (by decide)⟩, fun z => ?_⟩
        · rw [if_neg (by omega)] at hr0
          subst hr0
          refine sp_lays0 hB hD h8 (fun C hC hS fC => ?_)
          have h13C : C 81 13 = i3 0 := by rw [fC 81 13 (by omega)]; exact h13
          have h15C : C 81 15 = i3 x := by rw [fC 81 15 (by omega), hPB.2.2.2.1, ← xn]
          have h19C : C 81 19 = i3 c := by rw [fC 81 19 (by omega)]; exact hD.1
          have fC2 : FI LPl SI C := fB.tr (fC.le (fun o k z => Or.inl (Or.inr z)))
          refine sp_isPlate hC (layF_c hF h1 h8 hb) ⟨fun y => ?_, fun y => ?_⟩
          · rw [ibc_0] at y
            have e1 : plE F x (.inr (c, t)) = (-5000 - x, F) := if_neg y
            rw [e1] at hh
            exact back 135 0 C (by omega) (fun k hk => by omega) hS h13C h15C fC2 hh
          · rw [ibc_0, Classical.not_not] at y
            have e1 : plE F x (.inr (c, t)) = ((c : Int), layF F c t) := if_pos y
            rw [e1] at hh
            rw [h19C]; exact hh C hC h13C fC2
        · rw [if_pos (by omega)] at hr0
          refine sp_takesSign hPB 59 (by omega) rfl (fun w C fC hPC => ⟨fun q => absurd q (by decide), fun _ => ?_⟩) (fun w C fC h16 => ⟨fun _ => ?_, fun q => absurd rfl q⟩)
          · rw [if_pos w] at hr0
            have h13C : C 81 13 = i3 0 := by rw [fC 81 13 (by unfold LRN; omega)]; exact h13
            have hRC : RF F C := hB.f fC (by unfold LRN; omega)
            have fC2 : FI LPl SI C := fB.tr (fC.le (fun o k z => LRC_Pl o k (LRN_C o k z)))
            refine sp_readsCorner hPC (hD.f fC) h8 (fun e D y fD h16 => ⟨fun _ => ?_, fun q => absurd rfl q⟩) (fun v r D y c8 fD hPD hDD vb => ⟨fun q => absurd q (by decide), fun _ => ?_⟩)
            · rw [y] at hr0
              subst hr0
              exact bad e D h16 (by rw [fD 81 13 n13]; exact h13C) (hRC.lrc fD) (fC2.tr (fD.le LRC_Pl)) hh
            · rw [y] at hr0
              refine ih (c + 1) r (tu t c v) D R (by omega) (by omega) (by omega) hr0 hPD hDD (fun j hj => ?_) (by rw [fD 81 13 n13]; exact h13C) (hRC.lrc fD) (fC2.tr (fD.le LRC_Pl)) hh
              by_cases q1 : j = c
              · subst q1; rw [tu_s]; exact vb
              · rw [tu_n q1]; exact hb j (by omega)
          · rw [if_neg w] at hr0
            subst hr0
            exact bad _ C h16 (by rw [fC 81 13 (by unfold LRN; omega)]; exact h13) (hB.f fC (by unfold LRN; omega)) (fB.tr (fC.le (fun o k z => LRC_Pl o k (LRN_C o k z)))) hh
    refine sp_readsCorner (t := fun _ => (0, 0, 0)) (c := 0) hPA ⟨u2_s, fun j hj => by omega⟩ (by omega) (fun e D y fD h16 => ?_) (fun v r D y c8 fD hPD hDD vb => ?_)
    · rw [y] at h
      exact bad e D h16 (by rw [fD 81 13 n13]; exact e13A) (hRA.lrc fD) (fA.tr (fD.le LRC_Pl)) h
    · rw [y] at h
      refine loop 8 1 r (tu (fun _ => (0, 0, 0)) 0 v) D _ (by omega) (by omega) (by omega) rfl hPD hDD (fun j hj => ?_) (by rw [fD 81 13 n13]; exact e13A) (hRA.lrc fD) (fA.tr (fD.le LRC_Pl)) h
      rw [show j = 0 by omega, tu_s]; exact vb
  · unfold plateR tpR at h
    rw [if_neg g, if_neg g] at h
    exact h SI hR ht FI.rf
end Lay
