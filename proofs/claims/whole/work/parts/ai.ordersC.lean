/-! ai: orders of the class -/
section OrdersC
variable {E : gj_E} {SI : gj_I} {SJ : gj_J} {F : Nat → Int} {T : Nat → Int} {n p c : Nat} {t : Nat → V3}
theorem sp_perform {Q : Int32 → gj_I → gj_J → Prop} {a : Int32} (hC : CNT F SI SJ) (hF : WF F) (j : Nat) (hj : j < 12) (ha : a = i3 j) (v : V3) (hv : Ob v) (h1 : SI 38 j = i3 v.1) (h2 : SI 39 j = i3 v.2.1) (h3 : SI 40 j = i3 v.2.2) (h : ∀ SI' SJ', CNT (dsR F v).2 SI' SJ' → FI LCI SI SI' → FJ LCJ SJ SJ' → Q (ib (0 ≤ (dsR F v).1)) SI' SJ') : DoI E 94 [(.ref 0), (.int a)] SI SJ Q := by
  subst ha
  obtain ⟨v1, v2, v3, v4⟩ := hv
  have db := dsR_b hF v
  have fin : ∀ (A : gj_I) (B : gj_J) (x : Int), x = (dsR F v).1 → CNT (dsR F v).2 A B → FI LCI SI A → FJ LCJ SJ B → (i3 x < 0 → Q (i3 0) A B) ∧ (¬ i3 x < 0 → Q (i3 1) A B) := by
    intro A B x hx hA f1 f2
    subst hx
    rw [i3_lt0 (by omega) (by omega)]
    have hh := h A B hA f1 f2
    refine ⟨fun q => ?_, fun q => ?_⟩
    · rw [ib_f (by omega)] at hh; exact hh
    · rw [ib_t (by omega)] at hh; exact hh
  refine st_94 _ SI SJ ?_
  rw [i3_in (by omega) (by omega), i3_n (by omega) (by omega), show ((j : Nat) : Int).toNat = j by omega, h1, h2, h3, i3_eq (by omega) (by omega) (by omega) (by omega), i3_eq (by omega) (by omega) (by omega) (by omega), i3_eq (by omega) (by omega) (by omega) (by omega), i3_t (by omega) (by omega)]
  refine ⟨by omega, fun z => ?_, fun z => ?_, fun z => ?_, fun z => ?_⟩
  · have e : dsR F v = putR F v.2.1 v.2.2 := if_pos z
    rw [e] at fin
    exact sp_putC hC hF _ _ (by omega) (by omega) rfl rfl (fun A B g1 g2 g3 => fin A B _ rfl g3 g1 g2)
  · have e : dsR F v = takeR F v.2.1 := by unfold dsR; rw [if_neg (by omega), if_pos z]
    rw [e] at fin
    exact sp_takeC hC hF _ (by omega) rfl (fun A B g1 g2 g3 => fin A B _ rfl g3 g1 g2)
  · have e : dsR F v = treadR F v.2.1 v.2.2 := by unfold dsR; rw [if_neg (by omega), if_neg (by omega), if_pos z]
    rw [e] at fin
    exact sp_treadC hC hF _ _ (by omega) (by omega) rfl rfl (fun A B g1 g2 g3 => fin A B _ rfl g3 g1 g2)
  · have e : dsR F v = centreR F v.2.1 v.2.2 := by unfold dsR; rw [if_neg (by omega), if_neg (by omega), if_neg (by omega)]
    rw [e] at fin
    exact sp_centreC hC hF _ _ (by omega) (by omega) rfl rfl (fun A B g1 g2 g3 => fin A B _ rfl g3 g1 g2)
theorem sp_ordersC {Q : Int32 → gj_I → gj_J → Prop} {a : Int32} (hC : CNT F SI SJ) (hF : WF F) (tp : Int) (hT : CTp T tp SI) (x : Int) (xr : -2147483648 ≤ x ∧ x < 2147483648) (ha : a = i3 x) (h : ∀ SI' SJ', FI LTX SI SI' → FJ LCJ SJ SJ' → CTp T (tpR tp x 120) SI' → CNT (ordersR T F tp x).2 SI' SJ' → Q (i3 (ordersR T F tp x).1) SI' SJ') : DoI E 93 [(.ref 0), (.int a)] SI SJ Q := by
  subst ha
  have hT0 := hT
  obtain ⟨hT, ht, t1, t2⟩ := hT
  unfold ordersR tpR at h
  refine st_93 _ SI SJ (sp_offersC tp x 1 120 xr (by decide) (by decide) ht ⟨t1, t2⟩ rfl rfl rfl ⟨fun q => ?_, fun q => ?_⟩)
  · rw [ib_0, Decidable.not_not] at q
    rw [if_pos q, if_pos q] at h
    refine sp_open tp x hT ht ⟨t1, t2⟩ (by omega) rfl (fun A fA hA => ?_)
    have fA2 : FI LTX SI A := fA.le (fun o k z => by unfold LTX LCT; omega)
    have lx : ∀ {X Y : gj_I}, FI LCr X Y → FI LTX X Y := fun z => z.le (fun o k y => by unfold LCr LCc at y; unfold LTX LCT LCI; omega)
    have wx : ∀ {X Y : gj_I}, FI (fun o k => o = 1 ∧ (k = 1 ∨ k = 2 ∨ k = 3)) X Y → FI LTX X Y := fun z => z.le (fun o k y => by unfold LTX LCT; omega)
    have low : ∀ {B C : gj_I}, FI LCr A B → FI (fun o k => o = 1 ∧ (k = 1 ∨ k = 2 ∨ k = 3)) B C → FI (fun o _k => o = 1 ∨ (37 ≤ o ∧ o ≤ 40)) SI C := fun z y => ((fA.le (fun o k w => Or.inl w.1)).tr (z.le (fun o k w => by unfold LCr LCc at w; omega))).tr (y.le (fun o k w => Or.inl w.1))
    refine sp_readO hA (fun e B z g b hB => ?_) (fun c t B z g hB c12 h37 hO hb => ?_)
    · rw [z] at h
      refine sp_wipe hB (fun C gC hC2 => ?_)
      rw [i3_0le (by omega) (by omega)]
      refine ⟨fun y => by omega, fun _ => h C SJ ((fA2.tr (lx g)).tr (wx gC)) FJ.rf hC2 (hC.same (low g gC) (fun o k z => by omega))⟩
    · rw [z] at h
      refine sp_wipe hB (fun C gC hC2 => ?_)
      have hC3 := hC.same (low g gC) (fun o k z => by omega)
      have fC := (fA2.tr (lx g)).tr (wx gC)
      have hO2 : OC t c C := fun j hj => by rw [gC 38 _ (by omega), gC 39 _ (by omega), gC 40 _ (by omega)]; exact hO j hj
      have h372 : C 37 3 = i3 c := by rw [gC 37 3 (by omega)]; exact h37
      rw [i3_0le (by omega) (by omega)]
      refine ⟨fun _ => ?_, fun y => by omega⟩
      have run : ∀ (f k : Nat) (G : Nat → Int) (A : gj_I) (B : gj_J), k + f = c → WF G → CNT G A B → FI LCI C A → FJ LCJ SJ B → runO t f k G = runO t c 0 F → GoI E mt_93 51 [some (.ref 0), none, none, some (.int (i3 (k : Nat)))] A B Q := by
        intro f
        have fin : ∀ (A : gj_I) (B : gj_J), FI LCI C A → FJ LCJ SJ B → CNT (runO t c 0 F).2 A B → Q (i3 (runO t c 0 F).1) A B := by
          intro A B f1 f2 hA
          refine h A B (fC.tr (f1.le (fun o k z => Or.inr (Or.inl z)))) f2 ?_ hA
          obtain ⟨c1, c2, c3, c4⟩ := hC2
          exact ⟨c1.f f1 (fun k => by unfold LCI; omega), by rw [f1 1 1 (by unfold LCI; omega)]; exact c2, c3, c4⟩
        induction f with
        | zero =>
          intro k G A B hk hG hA f1 f2 e
          have e37 : A 37 3 = i3 c := by rw [f1 37 3 (by unfold LCI; omega)]; exact h372
          refine lp_93_51 _ A B ⟨fun _ => ?_, fun z => ?_⟩
          · have hh := fin A B f1 f2
            rw [← e] at hh
            exact hh hA
          · rw [e37, i3_le (by omega) (by omega) (by omega) (by omega)] at z; omega
        | succ f ih =>
          intro k G A B hk hG hA f1 f2 e
          have e37 : A 37 3 = i3 c := by rw [f1 37 3 (by unfold LCI; omega)]; exact h372
          obtain ⟨o1, o2, o3⟩ := hO2 k (by omega)
          have e2 : runO t (f + 1) k G = if 0 ≤ (dsR G (t k)).1 then runO t f (k + 1) (dsR G (t k)).2 else (k, (dsR G (t k)).2) := rfl
          rw [e2] at e
          refine lp_93_51 _ A B ⟨fun z => ?_, fun _ => ?_⟩
          · rw [e37, i3_le (by omega) (by omega) (by omega) (by omega)] at z; omega
          · refine sp_perform hA hG k (by omega) rfl (t k) (hb k (by omega)) (by rw [f1 38 k (by unfold LCI; omega)]; exact o1) (by rw [f1 39 k (by unfold LCI; omega)]; exact o2) (by rw [f1 40 k (by unfold LCI; omega)]; exact o3) (fun A2 B2 hA2 g1 g2 => ⟨fun z => ?_, fun z => ?_⟩)
            · rw [ib_0] at z
              rw [if_neg z] at e
              have hh := fin A2 B2 (f1.tr g1) (f2.tr g2)
              rw [← e] at hh
              exact hh hA2
            · rw [ib_0, Decidable.not_not] at z
              rw [if_pos z] at e
              rw [i3_add]
              exact ih (k + 1) _ A2 B2 (by omega) (hG.dsR _) hA2 (f1.tr g1) (f2.tr g2) e
      exact run c 0 F C SJ (by omega) hF hC3 FI.rf FJ.rf rfl
  · rw [ib_0] at q
    rw [if_neg q, if_neg q] at h
    exact h SI SJ FI.rf FJ.rf hT0 hC
end OrdersC
