/-! 46: the reference does put, take, tread, centre, turn -/
def drp (F : Nat → Int) (i l : Nat) (j : Nat) : Int := if j = 17 then F 17 - 1 else if 18 + i ≤ j ∧ j < 18 + l then F (j + 1) else if 24 + i ≤ j ∧ j < 24 + l then F (j + 1) else F j
theorem drp_17 (F : Nat → Int) (i l : Nat) : drp F i l 17 = F 17 - 1 := if_pos rfl
theorem drp_n (F : Nat → Int) {i l j : Nat} (h1 : j ≠ 17) (h2 : ¬ (18 + i ≤ j ∧ j < 18 + l)) (h3 : ¬ (24 + i ≤ j ∧ j < 24 + l)) : drp F i l j = F j := by unfold drp; rw [if_neg h1, if_neg h2, if_neg h3]
section Ops
variable {E : gj_E} {SI : gj_I} {SJ : gj_J} {F : Nat → Int}
theorem sp_put {Q : Int32 → gj_I → gj_J → Prop} {a b : Int32} (hR : RF F SI) (hF : WF F) (e k : Int) (he : -2147483648 ≤ e ∧ e < 2147483648) (hk : -2147483648 ≤ k ∧ k < 2147483648) (ha : a = i3 e) (hb : b = i3 k) (h : ∀ SI' SJ', RF (putR F e k).2 SI' → FI LI2 SI SI' → FJ LJ1 SJ SJ' → Q (i3 (putR F e k).1) SI' SJ') : DoI E 198 [(.ref 81), (.int a), (.int b)] SI SJ Q := by
  subst ha; subst hb
  obtain ⟨m1, m2, m3⟩ := hF.1.1.n
  have n0 := hF.2.2.1.1; have n1 := hF.2.2.1.2.1
  refine st_198 _ _ SI SJ (sp_corners hR ?_)
  rw [m3, i3_sub, i3_64 (by omega) (by omega), i3_64 (by omega) (by omega)]
  refine sp_in (by omega) (by omega) (by omega) (by omega) (by omega) (by omega) ⟨fun c => ?_, fun c => ?_⟩
  · rw [ib_0] at c
    have e1 : putR F e k = (-1, F) := if_neg (by omega)
    rw [e1] at h; exact h SI SJ hR FI.rf FJ.rf
  · rw [ib_0, Decidable.not_not] at c
    obtain ⟨n, hn⟩ : ∃ n : Nat, e = n := ⟨e.toNat, by omega⟩
    have sb := hF.1.1.s n
    refine sp_stepsOf hR hF.1.1 n (by omega) (by rw [hn]) ?_
    rw [i3_sub, i3_64 (by omega) (by omega), i3_64 (by omega) (by omega)]
    have et : e.toNat = n := by omega
    refine sp_in (by omega) (by omega) (by omega) (by omega) (by omega) (by omega) ⟨fun d => ?_, fun d => ?_⟩
    · rw [ib_0, Decidable.not_not] at d
      have cc : 0 ≤ e ∧ e < nC F ∧ 1 ≤ k ∧ k < stp F e.toNat := by rw [et]; omega
      have fb := fgA_b hF.2.2.2.1 e k
      refine sp_fingerAt hR hF.2.2.2.1 e k (fgA F e k) he hk rfl rfl (fgA_I F e k) ⟨fun z => ?_, fun z => ?_⟩
      · rw [i3_eq (by omega) (by omega) (by omega) (by omega)] at z
        rw [hR 17 (by decide), i3_eq (by omega) (by omega) (by omega) (by omega)]
        refine ⟨fun w => ?_, fun w => ?_⟩
        · have e1 : putR F e k = (F 17, ntd (putF F e k) 0) := by unfold putR; rw [if_pos cc, if_pos z, if_neg w]
          have en : F 17 = nf F := by unfold nf; omega
          simp only [i3_add]
          rw [i3_in (by omega) (by omega), i3_in (by omega) (by omega), i3_n (by omega) (by omega), i3_n (by omega) (by omega)]
          refine ⟨by omega, by omega, ?_⟩
          rw [show (18 + F 17).toNat = 18 + nf F by omega, show (24 + F 17).toNat = 24 + nf F by omega]
          have hR2 : RF (putF F e k) (gj_u2 (gj_u2 (gj_u2 SI 82 (18 + nf F) (i3 e)) 82 (24 + nf F) (i3 k)) 82 17 (i3 (F 17 + 1))) := ((hR.u (18 + nf F) e rfl).u (24 + nf F) k rfl).u 17 (F 17 + 1) rfl
          refine sp_noted2 hR2 (hF.put cc w) 0 (F 17) rfl rfl (fun A B g1 g2 g3 => ?_)
          rw [e1] at h
          exact h A B g1 ((((FI.rf.u (LI2_82 _)).u (LI2_82 _)).u (LI2_82 _)).tr g2) g3
        · have e1 : putR F e k = (-3, F) := by unfold putR; rw [if_pos cc, if_pos z, if_pos w]
          rw [e1] at h; exact h SI SJ hR FI.rf FJ.rf
      · rw [i3_eq (by omega) (by omega) (by omega) (by omega)] at z
        have e1 : putR F e k = (-2, F) := by unfold putR; rw [if_pos cc, if_neg z]
        rw [e1] at h; exact h SI SJ hR FI.rf FJ.rf
    · rw [ib_0] at d
      have e1 : putR F e k = (-1, F) := if_neg (by rw [et]; omega)
      rw [e1] at h; exact h SI SJ hR FI.rf FJ.rf
theorem sp_drops {Q : gj_I → gj_J → Prop} {a : Int32} (hR : RF F SI) (h17 : 0 ≤ F 17 ∧ F 17 ≤ 6) (i : Nat) (hi : (i : Int) < F 17) (ha : a = i3 i) (h : ∀ SI', RF (dropF F i) SI' → FI LI2 SI SI' → Q SI' SJ) : DoV E 199 [(.ref 81), (.int a)] SI SJ Q := by
  subst ha
  have en : F 17 = nf F := by unfold nf; omega
  refine st_199 _ SI SJ ?_
  have key : ∀ (d l : Nat) (A : gj_I), l + d + 1 = nf F → i ≤ l → FI LI2 SI A → RF (drp F i l) A → GoV E mt_199 18 [some (.ref 81), none, some (.int (i3 l))] A SJ Q := by
    intro d
    induction d with
    | zero =>
      intro l A hl hil f1 hA
      refine lp_199_18 _ A SJ ⟨fun _ => h A (hA.c (fun k hk => ?_)) f1, fun c => ?_⟩
      · unfold dropF drp
        rw [show 17 + nf F = 18 + l by omega, show 23 + nf F = 24 + l by omega]
      · rw [hA 17 (by decide), drp_17, i3_le (by omega) (by omega) (by omega) (by omega)] at c; omega
    | succ d ih =>
      intro l A hl hil f1 hA
      refine lp_199_18 _ A SJ ⟨fun c => ?_, fun c => ?_⟩
      · rw [hA 17 (by decide), drp_17, i3_le (by omega) (by omega) (by omega) (by omega)] at c; omega
      · simp only [i3_add]
        rw [i3_in (by omega) (by omega), i3_in (by omega) (by omega), i3_in (by omega) (by omega), i3_in (by omega) (by omega), i3_n (by omega) (by omega), i3_n (by omega) (by omega), i3_n (by omega) (by omega), i3_n (by omega) (by omega)]
        rw [show (18 + (l : Int)).toNat = 18 + l by omega, show (18 + (l : Int) + 1).toNat = 18 + l + 1 by omega, show (24 + (l : Int)).toNat = 24 + l by omega, show (24 + (l : Int) + 1).toNat = 24 + l + 1 by omega, show (l : Int) + 1 = ((l + 1 : Nat) : Int) by omega]
        refine ⟨by omega, by omega, by omega, by omega, ih (l + 1) _ (by omega) (by omega) ((f1.u (LI2_82 _)).u (LI2_82 _)) ?_⟩
        have r1 := hA.u (18 + l) (F (18 + l + 1)) (x := A 82 (18 + l + 1)) (by rw [hA _ (by omega), drp_n F (by omega) (by omega) (by omega)])
        have r2 := r1.u (24 + l) (F (24 + l + 1)) (x := (gj_u2 A 82 (18 + l) (A 82 (18 + l + 1))) 82 (24 + l + 1)) (by rw [r1 _ (by omega), fu_n (by omega), drp_n F (by omega) (by omega) (by omega)])
        refine r2.c (fun k hk => ?_)
        unfold fu drp
        by_cases q1 : k = 24 + l
        · rw [if_pos q1, if_neg (by omega), if_neg (by omega), if_pos (by omega), q1]
        · rw [if_neg q1]
          by_cases q2 : k = 18 + l
          · rw [if_pos q2, if_neg (by omega), if_pos (by omega), q2]
          · rw [if_neg q2]
            by_cases q3 : k = 17
            · rw [if_pos q3, if_pos q3]
            · rw [if_neg q3, if_neg q3]
              by_cases q4 : 18 + i ≤ k ∧ k < 18 + l
              · rw [if_pos q4, if_pos (by omega)]
              · rw [if_neg q4, if_neg (show ¬ (18 + i ≤ k ∧ k < 18 + (l + 1)) by omega)]
                by_cases q5 : 24 + i ≤ k ∧ k < 24 + l
                · rw [if_pos q5, if_pos (by omega)]
                · rw [if_neg q5, if_neg (show ¬ (24 + i ≤ k ∧ k < 24 + (l + 1)) by omega)]
  refine key (nf F - 1 - i) i _ (by omega) (Nat.le_refl i) (FI.rf.u (LI2_82 _)) ((hR.u 17 (F 17 - 1) (x := SI 82 17 - i3 1) (by rw [hR 17 (by decide), i3_sub])).c (fun k hk => ?_))
  unfold fu drp
  by_cases q3 : k = 17
  · rw [if_pos q3, if_pos q3]
  · rw [if_neg q3, if_neg q3, if_neg (by omega), if_neg (by omega)]
theorem sp_take {Q : Int32 → gj_I → gj_J → Prop} {a : Int32} (hR : RF F SI) (hF : WF F) (i : Int) (hi : -2147483648 ≤ i ∧ i < 2147483648) (ha : a = i3 i) (h : ∀ SI' SJ', RF (takeR F i).2 SI' → FI LI2 SI SI' → FJ LJ1 SJ SJ' → Q (i3 (takeR F i).1) SI' SJ') : DoI E 200 [(.ref 81), (.int a)] SI SJ Q := by
  subst ha
  have n0 := hF.2.2.1.1; have n1 := hF.2.2.1.2.1
  refine st_200 _ SI SJ (sp_isFinger hR hF.2.2.2.1 i hi rfl ⟨fun c => ?_, fun c => ?_⟩)
  · rw [ibc_0, Decidable.not_not] at c
    obtain ⟨n, hn⟩ : ∃ n : Nat, i = n := ⟨i.toNat, by omega⟩
    have et : i.toNat = n := by omega
    have e1 : takeR F i = (F 17 - 1, ntd (dropF F n) 1) := by unfold takeR; rw [if_pos c, et]
    have e17 : dropF F n 17 = F 17 - 1 := by unfold dropF; rw [if_pos rfl]
    refine sp_drops hR ⟨n0, n1⟩ n (by omega) (by rw [hn]) (fun A hA f1 => ?_)
    refine sp_noted2 hA (hF.drop (by omega)) 1 (F 17 - 1) rfl (by rw [hA 17 (by decide), e17]) (fun A2 B2 g1 g2 g3 => ?_)
    rw [e1] at h
    exact h A2 B2 g1 (f1.tr g2) g3
  · rw [ibc_0] at c
    have e1 : takeR F i = (-1, F) := if_neg c
    rw [e1] at h; exact h SI SJ hR FI.rf FJ.rf
theorem sp_tread {Q : Int32 → gj_I → gj_J → Prop} {a b : Int32} (hR : RF F SI) (hF : WF F) (m q : Int) (hm : -2147483648 ≤ m ∧ m < 2147483648) (hq : -2147483648 ≤ q ∧ q < 2147483648) (ha : a = i3 m) (hb : b = i3 q) (h : ∀ SI' SJ', RF (treadR F m q).2 SI' → FI LI2 SI SI' → FJ LJ1 SJ SJ' → Q (i3 (treadR F m q).1) SI' SJ') : DoI E 201 [(.ref 81), (.int a), (.int b)] SI SJ Q := by
  subst ha; subst hb
  refine st_201 _ _ SI SJ ?_
  rw [i3_64 (by omega) (by omega)]
  refine sp_in (by omega) (by omega) (by omega) (by omega) (by omega) (by omega) ⟨fun c => ?_, fun c => ?_⟩
  · rw [ib_0] at c
    have e1 : treadR F m q = (-1, F) := if_neg (by omega)
    rw [e1] at h; exact h SI SJ hR FI.rf FJ.rf
  · rw [ib_0, Decidable.not_not] at c
    rw [i3_64 (by omega) (by omega)]
    refine sp_in (by omega) (by omega) (by omega) (by omega) (by omega) (by omega) ⟨fun d => ?_, fun d => ?_⟩
    · rw [ib_0, Decidable.not_not] at d
      have e1 : treadR F m q = (0, ntd (fu (fu F 30 m) 31 q) 2) := if_pos (by omega)
      refine sp_noted2 ((hR.u 30 m rfl).u 31 q rfl) (hF.set (by omega)) 2 0 rfl rfl (fun A B g1 g2 g3 => ?_)
      rw [e1] at h
      exact h A B g1 (((FI.rf.u (LI2_82 _)).u (LI2_82 _)).tr g2) g3
    · rw [ib_0] at d
      have e1 : treadR F m q = (-1, F) := if_neg (by omega)
      rw [e1] at h; exact h SI SJ hR FI.rf FJ.rf
theorem sp_centre {Q : Int32 → gj_I → gj_J → Prop} {a b : Int32} (hR : RF F SI) (hF : WF F) (m q : Int) (hm : -2147483648 ≤ m ∧ m < 2147483648) (hq : -2147483648 ≤ q ∧ q < 2147483648) (ha : a = i3 m) (hb : b = i3 q) (h : ∀ SI' SJ', RF (centreR F m q).2 SI' → FI LI2 SI SI' → FJ LJ1 SJ SJ' → Q (i3 (centreR F m q).1) SI' SJ') : DoI E 202 [(.ref 81), (.int a), (.int b)] SI SJ Q := by
  subst ha; subst hb
  refine st_202 _ _ SI SJ ?_
  rw [i3_64 (by omega) (by omega)]
  refine sp_in (by omega) (by omega) (by omega) (by omega) (by omega) (by omega) ⟨fun c => ?_, fun c => ?_⟩
  · rw [ib_0] at c
    have e1 : centreR F m q = (-1, F) := if_neg (by omega)
    rw [e1] at h; exact h SI SJ hR FI.rf FJ.rf
  · rw [ib_0, Decidable.not_not] at c
    rw [i3_64 (by omega) (by omega)]
    refine sp_in (by omega) (by omega) (by omega) (by omega) (by omega) (by omega) ⟨fun d => ?_, fun d => ?_⟩
    · rw [ib_0, Decidable.not_not] at d
      have e1 : centreR F m q = (0, ntd (fu (fu F 32 m) 33 q) 3) := if_pos (by omega)
      refine sp_noted2 ((hR.u 32 m rfl).u 33 q rfl) (hF.set (by omega)) 3 0 rfl rfl (fun A B g1 g2 g3 => ?_)
      rw [e1] at h
      exact h A B g1 (((FI.rf.u (LI2_82 _)).u (LI2_82 _)).tr g2) g3
    · rw [ib_0] at d
      have e1 : centreR F m q = (-1, F) := if_neg (by omega)
      rw [e1] at h; exact h SI SJ hR FI.rf FJ.rf
theorem past_last {F : Nat → Int} {w : Int} (h : 0 ≤ F 35 ∧ F 35 ≤ 20) : pastA (ntd F w) 0 2 = bz (firmF F) := by
  have np : 0 ≤ npt F ∧ npt F ≤ 19 := by unfold npt; split <;> omega
  have e35 : ntd F w 35 = npt F + 1 := by unfold ntd nt; rw [if_pos rfl]
  unfold pastA
  rw [e35, if_pos (by omega)]
  unfold ntd nt
  rw [if_neg (by omega), if_neg (by omega), if_neg (by omega), if_pos (by omega)]
theorem sp_turnsPair {Q : gj_I → gj_J → Prop} {a b : Int32} (hR : RF F SI) (x y : Nat) (hx : x < 135) (hy : y < 135) (ha : a = i3 x) (hb : b = i3 y) (h : ∀ SI', RF (fu (fu F x (9 - F y)) y (F x)) SI' → FI LI2 SI SI' → Q SI' SJ) : DoV E 203 [(.ref 81), (.int a), (.int b)] SI SJ Q := by
  subst ha; subst hb
  refine st_203 _ _ SI SJ ?_
  rw [i3_in (by omega) (by omega), i3_in (by omega) (by omega), i3_n (by omega) (by omega), i3_n (by omega) (by omega), show ((x : Nat) : Int).toNat = x by omega, show ((y : Nat) : Int).toNat = y by omega]
  refine ⟨by omega, by omega, h _ ?_ ((FI.rf.u (LI2_82 _)).u (LI2_82 _))⟩
  exact (hR.u x (9 - F y) (by rw [hR y hy, i3_sub])).u y (F x) (hR x hx)
theorem sp_turn {Q : Int32 → gj_I → gj_J → Prop} (hR : RF F SI) (hF : WF F) (h : ∀ SI' SJ', RF (turnR F).2 SI' → FI LI2 SI SI' → FJ LJ1 SJ SJ' → Q (i3 (turnR F).1) SI' SJ') : DoI E 204 [(.ref 81)] SI SJ Q := by
  obtain ⟨m1, m2, m3⟩ := hF.1.1.n
  refine st_204 SI SJ ?_
  have t0 : ∀ n, trn F n 0 = F 0 := fun n => by unfold trn; rw [if_neg (by omega), if_neg (by omega)]
  have key : ∀ (d i : Nat) (A : gj_I), i + d = nC F → FI LI2 SI A → RF (trn F i) A → GoI E mt_204 2 [some (.ref 81), some (.int (i3 i))] A SJ Q := by
    intro d
    induction d with
    | zero =>
      intro i A hi f1 hA
      have hin : i = nC F := by omega
      subst hin
      refine lp_204_2 _ A SJ (sp_corners hA ⟨fun _ => ?_, fun c => ?_⟩)
      · refine sp_turnsPair hA 32 33 (by decide) (by decide) rfl rfl (fun A2 hA2 f2 => ?_)
        have u : ∀ j, 17 ≤ j → trn F (nC F) j = F j := fun j hj => by unfold trn; rw [if_neg (by omega), if_neg (by omega)]
        rw [u 32 (by decide), u 33 (by decide)] at hA2
        have hA3 : RF (turnF F) A2 := hA2
        refine sp_noted2 hA3 hF.turn 4 0 rfl rfl (fun A3 B3 g1 g2 g3 => ?_)
        refine sp_past g1 (hF.turn.note (by decide)) 0 2 (by omega) (by omega) rfl rfl ?_
        rw [past_last ⟨hF.turn.2.2.2.2.1.1, hF.turn.2.2.2.2.1.2.1⟩]
        exact h A3 B3 g1 ((f1.tr f2).tr g2) g3
      · rw [t0, m3, i3_le (by omega) (by omega) (by omega) (by omega)] at c; omega
    | succ d ih =>
      intro i A hi f1 hA
      refine lp_204_2 _ A SJ (sp_corners hA ⟨fun c => ?_, fun c => ?_⟩)
      · rw [t0, m3, i3_le (by omega) (by omega) (by omega) (by omega)] at c; omega
      · refine sp_turnsPair hA (1 + i) (9 + i) (by omega) (by omega) (by rw [i3_add]; rfl) (by rw [i3_add]; rfl) (fun A2 hA2 f2 => ?_)
        rw [i3_add, show (i : Int) + 1 = ((i + 1 : Nat) : Int) by omega]
        refine ih (i + 1) A2 (by omega) (f1.tr f2) (hA2.c (fun k hk => ?_))
        unfold fu trn
        by_cases q1 : k = 9 + i
        · rw [if_pos q1, if_neg (by omega), if_neg (by omega), if_neg (by omega), if_pos (by omega), q1]; congr 1; omega
        · rw [if_neg q1]
          by_cases q2 : k = 1 + i
          · rw [if_pos q2, if_neg (by omega), if_neg (by omega), if_pos (by omega), q2]; congr 2; omega
          · rw [if_neg q2]
            by_cases q3 : 1 ≤ k ∧ k < 1 + i
            · rw [if_pos q3, if_pos (by omega)]
            · rw [if_neg q3, if_neg (show ¬ (1 ≤ k ∧ k < 1 + (i + 1)) by omega)]
              by_cases q4 : 9 ≤ k ∧ k < 9 + i
              · rw [if_pos q4, if_pos (by omega)]
              · rw [if_neg q4, if_neg (show ¬ (9 ≤ k ∧ k < 9 + (i + 1)) by omega)]
  exact key (nC F) 0 SI (by omega) FI.rf (hR.c (fun k hk => by unfold trn; rw [if_neg (by omega), if_neg (by omega)]))
end Ops
