/-! 9g: held, effort, holder of the class -/
section HeldC
variable {E : gj_E} {SI : gj_I} {SJ : gj_J} {F : Nat → Int}
theorem sp_bit {Q : Int32 → gj_I → gj_J → Prop} {a : Int32} (p : Prop) (ha : a = ibc p) (h : Q (i3 (bz p)) SI SJ) : DoI E 152 [(.int a)] SI SJ Q := by
  subst ha
  refine st_152 _ SI SJ ⟨fun c => ?_, fun c => ?_⟩
  · rw [ibc_0] at c; rw [bz_f c] at h; exact h
  · rw [ibc_0, Classical.not_not] at c; rw [bz_t c] at h; exact h
theorem sp_isPushC {Q : Int32 → gj_I → gj_J → Prop} {a1 a2 a3 : Int32} (x y t : Int) (xr : -2147483648 ≤ x ∧ x < 2147483648) (yr : -2147483648 ≤ y ∧ y < 2147483648) (tr : -2147483648 ≤ t ∧ t < 2147483648) (e1 : a1 = i3 x) (e2 : a2 = i3 y) (e3 : a3 = i3 t) (h : Q (ibc (isP x y t)) SI SJ) : DoI E 153 [(.int a1), (.int a2), (.int a3)] SI SJ Q := by
  subst e1; subst e2; subst e3
  refine st_153 _ _ _ SI SJ ?_
  have m1 : ∀ a b : Int, -2147483648 ≤ a → a < 2147483648 → -2147483648 ≤ b → b < 2147483648 → -2147483648 ≤ (if a < b then b else a) ∧ (if a < b then b else a) < 2147483648 := by intro a b; split <;> omega
  have m2 : ∀ a b : Int, -2147483648 ≤ a → a < 2147483648 → -2147483648 ≤ b → b < 2147483648 → -2147483648 ≤ (if a < b then a else b) ∧ (if a < b then a else b) < 2147483648 := by intro a b; split <;> omega
  have k1 := m1 y t (by omega) (by omega) (by omega) (by omega)
  have k2 := m2 t y (by omega) (by omega) (by omega) (by omega)
  have k3 := m1 x (if y < t then t else y) (by omega) (by omega) k1.1 k1.2
  have k4 := m2 (if t < y then t else y) x k2.1 k2.2 (by omega) (by omega)
  rw [i3_ifmax (a := y) (b := t) (by omega) (by omega) (by omega) (by omega), i3_ifmax (by omega) (by omega) k1.1 k1.2, i3_ifmin (a := t) (b := y) (by omega) (by omega) (by omega) (by omega), i3_ifmin k2.1 k2.2 (by omega) (by omega), i3_lt (by omega) (by omega) k3.1 k3.2, i3_lt k4.1 k4.2 (by omega) (by omega)]
  have q1 : (1000 < (if x < (if y < t then t else y) then (if y < t then t else y) else x)) ↔ (1000 < x ∨ 1000 < y ∨ 1000 < t) := by
    constructor
    · intro z; split at z <;> split at z <;> omega
    · intro z; split <;> split <;> omega
  have q2 : ((if (if t < y then t else y) < x then (if t < y then t else y) else x) < -1000) ↔ (x < -1000 ∨ y < -1000 ∨ t < -1000) := by
    constructor
    · intro z; split at z <;> split at z <;> omega
    · intro z; split <;> split <;> omega
  rw [q1, q2]
  unfold isP at h
  refine ⟨fun c => ?_, fun c => ⟨fun d => ?_, fun d => ?_⟩⟩
  · rw [ibc_f (fun z => by omega)] at h; exact h
  · rw [ibc_f (fun z => by omega)] at h; exact h
  · rw [ibc_t ⟨by omega, by omega, by omega⟩] at h; exact h
theorem sp_heldC {Q : Int32 → gj_I → gj_J → Prop} {a1 a2 a3 : Int32} (hC : CNT F SI SJ) (hF : WF F) (x y t : Int) (xr : -2147483648 ≤ x ∧ x < 2147483648) (yr : -2147483648 ≤ y ∧ y < 2147483648) (tr : -2147483648 ≤ t ∧ t < 2147483648) (e1 : a1 = i3 x) (e2 : a2 = i3 y) (e3 : a3 = i3 t) (h : ∀ SI' SJ', FI LCI SI SI' → FJ LCJ SJ SJ' → CNT F SI' SJ' → Q (i3 (heldA F x y t)) SI' SJ') : DoI E 139 [(.ref 0), (.int a1), (.int a2), (.int a3)] SI SJ Q := by
  refine st_139 _ _ _ SI SJ (sp_isPushC x y t xr yr tr e1 e2 e3 ⟨fun z => ?_, fun z => ?_⟩)
  · rw [ibc_0, Classical.not_not] at z
    have z' := z
    unfold isP at z'
    refine sp_seekF hC hF (x, y, t) (by unfold Rb; dsimp only; omega) (by rw [e1, i3_64 (by omega) (by omega)]) (by rw [e2, i3_64 (by omega) (by omega)]) (by rw [e3, i3_64 (by omega) (by omega)]) (fun A B f1 f2 hc _ _ _ => sp_bit _ rfl ?_)
    have hh := h A B (LIk_C f1) (LJsk_C f2) hc
    have e : heldA F x y t = bz ((hdF F (x, y, t)).isSome = true) := ic_t z
    rw [e] at hh; exact hh
  · rw [ibc_0] at z
    have e : heldA F x y t = -1 := ic_f z
    rw [e] at h; exact h SI SJ FI.rf FJ.rf hC
theorem sp_effortC {Q : Int64 → gj_I → gj_J → Prop} {a1 a2 a3 a4 : Int32} (hC : CNT F SI SJ) (hF : WF F) (x y t w : Int) (xr : -2147483648 ≤ x ∧ x < 2147483648) (yr : -2147483648 ≤ y ∧ y < 2147483648) (tr : -2147483648 ≤ t ∧ t < 2147483648) (wr : -2147483648 ≤ w ∧ w < 2147483648) (e1 : a1 = i3 x) (e2 : a2 = i3 y) (e3 : a3 = i3 t) (e4 : a4 = i3 w) (h : ∀ SI' SJ', FI LCI SI SI' → FJ LCJ SJ SJ' → CNT F SI' SJ' → Q (i6 (effortA F x y t w)) SI' SJ') : DoL E 140 [(.ref 0), (.int a1), (.int a2), (.int a3), (.int a4)] SI SJ Q := by
  subst e4
  have bad : ¬ (isP x y t ∧ 0 ≤ w ∧ w ≤ 1) → Q (i6 (-9000000000000000000)) SI SJ := by
    intro z
    have e : effortA F x y t w = -9000000000000000000 := ic_f z
    rw [e] at h; exact h SI SJ FI.rf FJ.rf hC
  refine st_140 _ _ _ _ SI SJ (sp_isPushC x y t xr yr tr e1 e2 e3 ⟨fun z => ?_, fun z => ?_⟩)
  · rw [ibc_0] at z; exact bad (fun c => z c.1)
  · rw [ibc_0, Classical.not_not] at z
    have z' := z
    unfold isP at z'
    rw [i3_lt0 (by omega) (by omega), i3_le (by omega) (by omega) (by omega) (by omega)]
    refine ⟨fun c => bad (fun q => by omega), fun c => ⟨fun d => ?_, fun d => bad (fun q => by omega)⟩⟩
    refine sp_seekF hC hF (x, y, t) (by unfold Rb; dsimp only; omega) (by rw [e1, i3_64 (by omega) (by omega)]) (by rw [e2, i3_64 (by omega) (by omega)]) (by rw [e3, i3_64 (by omega) (by omega)]) (fun A B f1 f2 hc _ _ ef => ?_)
    have hh := h A B (LIk_C f1) (LJsk_C f2) hc
    have e : effortA F x y t w = efA (hdF F (x, y, t)) w (-9000000000000000000) := ic_t ⟨z, by omega⟩
    rw [e] at hh
    rw [i3_eq0 (by omega) (by omega)]
    cases hb : hdF F (x, y, t) with
    | none =>
      rw [hb] at hh
      exact ⟨fun c => absurd (ibc_0.mpr (by decide)) c, fun _ => hh⟩
    | some c =>
      rw [hb] at hh
      obtain ⟨d1, d2⟩ := ef c hb
      rw [d1, d2]
      refine ⟨fun _ => ⟨fun c0 => ?_, fun c0 => ?_⟩, fun c0 => absurd (show (some c).isSome = true from rfl) (ibc_0.mp c0)⟩
      · have e2 : efA (some c) w (-9000000000000000000) = loy (sumC c) c.2.2.2 := if_neg c0
        rw [e2] at hh; exact hh
      · have e2 : efA (some c) w (-9000000000000000000) = lox (sumC c) c.2.2.2 := if_pos c0
        rw [e2] at hh; exact hh
theorem CNT.w57 {x y : Int64} (h : CNT F SI SJ) : CNT F SI (gj_w2 (gj_w2 SJ 57 0 x) 57 1 y) := by
  obtain ⟨h1, ⟨g1, g2, g3, g4⟩, h3⟩ := h
  have f : FJ (fun o _ => o = 57) SJ (gj_w2 (gj_w2 SJ 57 0 x) 57 1 y) := ((FJ.rf : FJ (fun o _ => o = 57) SJ SJ).w rfl).w rfl
  refine ⟨h1, ⟨g1.f (FI.rf (L := fun _ _ => False)) f ⟨fun z => z, fun k z => z⟩ (fun k => by omega), CB42.f g2 (FI.rf (L := fun _ _ => False)) f (fun k => ⟨fun z => z, fun z => z⟩) (fun k => by omega), g3, g4⟩, ?_⟩
  unfold TR
  rw [f 79 0 (by omega), f 79 1 (by omega), f 80 0 (by omega), f 80 1 (by omega)]; exact h3
theorem sp_holderC {Q : Int64 → gj_I → gj_J → Prop} {a1 a2 a3 a4 a5 : Int32} (hC : CNT F SI SJ) (hF : WF F) (x y t k w : Int) (xr : -2147483648 ≤ x ∧ x < 2147483648) (yr : -2147483648 ≤ y ∧ y < 2147483648) (tr : -2147483648 ≤ t ∧ t < 2147483648) (kr : -2147483648 ≤ k ∧ k < 2147483648) (wr : -2147483648 ≤ w ∧ w < 2147483648) (e1 : a1 = i3 x) (e2 : a2 = i3 y) (e3 : a3 = i3 t) (e4 : a4 = i3 k) (e5 : a5 = i3 w) (h : ∀ SI' SJ', FI LCI SI SI' → FJ LCJ SJ SJ' → CNT F SI' SJ' → Q (i6 (holderA F x y t k w)) SI' SJ') : DoL E 141 [(.ref 0), (.int a1), (.int a2), (.int a3), (.int a4), (.int a5)] SI SJ Q := by
  subst e4; subst e5
  have bad : ¬ (isP x y t ∧ -1 ≤ k ∧ 0 ≤ w ∧ w ≤ 2) → Q (i6 (-9000000000000000000)) SI SJ := by
    intro z
    have e : holderA F x y t k w = -9000000000000000000 := ic_f z
    rw [e] at h; exact h SI SJ FI.rf FJ.rf hC
  have nb := nw_b hF.2.2.1
  refine st_141 _ _ _ _ _ SI SJ (sp_isPushC x y t xr yr tr e1 e2 e3 ⟨fun z => ?_, fun z => ?_⟩)
  · rw [ibc_0] at z; exact bad (fun c => z c.1)
  · rw [ibc_0, Classical.not_not] at z
    have z' := z
    unfold isP at z'
    rw [i3_lt (by omega) (by omega) (by omega) (by omega), i3_lt0 (by omega) (by omega), i3_le (by omega) (by omega) (by omega) (by omega)]
    refine ⟨fun c9 => bad (fun q => by omega), fun c9 => ⟨fun d => bad (fun q => by omega), fun d => ⟨fun g => ?_, fun g => bad (fun q => by omega)⟩⟩⟩
    refine sp_seekF hC hF (x, y, t) (by unfold Rb; dsimp only; omega) (by rw [e1, i3_64 (by omega) (by omega)]) (by rw [e2, i3_64 (by omega) (by omega)]) (by rw [e3, i3_64 (by omega) (by omega)]) (fun A B f1 f2 hc g3 g4 _ => ?_)
    have hh := h A B (LIk_C f1) (LJsk_C f2) hc
    have e : holderA F x y t k w = hoA (hdF F (x, y, t)) k w := ic_t ⟨z, by omega, by omega, g⟩
    rw [e] at hh h
    have rw0 : RwB (hdF F (x, y, t)) := hdB_r (by show nf F * fc F ≤ 14; omega) _
    rw [i3_eq (by omega) (by omega) (by omega) (by omega), i3_eq0 (by omega) (by omega), i3_eq (by omega) (by omega) (by omega) (by omega)]
    cases hb : hdF F (x, y, t) with
    | none =>
      rw [hb] at hh
      exact ⟨fun _ => hh, fun c => absurd (ibc_0.mpr (by decide)) c⟩
    | some c =>
      rw [hb] at hh g3 g4 rw0 h
      obtain ⟨q1, q2, L, S, q3, q4, q5, q6, q7, q8⟩ := g3
      obtain ⟨v1, v2, v3, v4⟩ := g4
      rw [q2, q3, i3_lt (by omega) (by omega) (by omega) (by omega), i3_64 (by omega) (by omega)]
      refine ⟨fun c0 => absurd (show (some c).isSome = true from rfl) (ibc_0.mp c0), fun _ => ⟨fun c1 => ⟨fun c0 => ?_, fun c0 => ⟨fun y0 => ?_, fun y0 => ?_⟩⟩, fun c1 => ?_⟩⟩
      · obtain ⟨m, hm⟩ : ∃ m : Nat, k = m := ⟨k.toNat, by omega⟩
        subst hm
        obtain ⟨t1, p, t2, t3, t4⟩ := q8 m (by omega)
        have rl := ck_row (k := m) rw0
        have e2 : hoA (some c) (m : Int) w = (if w = 0 then ((ck c.2.1 m : Nat) : Int) else if w = 1 then lox (ck c.2.2.1 m) c.2.2.2 else loy (ck c.2.2.1 m) c.2.2.2) := by
          unfold hoA; dsimp only; rw [if_neg c0, if_pos c1]; rfl
        rw [i3_n (by omega) (by omega), i3_in (by omega) (by omega), show ((m : Nat) : Int).toNat = m by omega, t1, t2, i3_64 (by omega) (by omega)]
        refine ⟨fun w0 => ⟨by omega, sp_become57 p L ⟨by omega, by omega⟩ ⟨q5.1, by omega⟩ rfl rfl ?_⟩, fun w0 => ⟨by omega, ?_⟩⟩
        · obtain ⟨p1, p2⟩ := lo_pr q5.1 v2 t4
          rw [w2_s, w2_n (by omega), w2_s, p1, p2]
          have hh2 := h A (gj_w2 (gj_w2 B 57 0 (i6 (lox (ck c.2.2.1 m) c.2.2.2))) 57 1 (i6 (loy (ck c.2.2.1 m) c.2.2.2))) (LIk_C f1) (((LJsk_C f2).w (by unfold LCJ; omega)).w (by unfold LCJ; omega)) hc.w57
          rw [e2, if_neg w0] at hh2
          refine ⟨fun w1 => ?_, fun w1 => ?_⟩
          · rw [if_neg w1] at hh2; exact hh2
          · rw [if_pos w1] at hh2; exact hh2
        · rw [e2, if_pos w0] at hh; exact hh
      · have e2 : hoA (some c) k w = -9000000000000000000 := by unfold hoA; dsimp only; rw [if_pos c0, if_neg y0]
        rw [e2] at hh; exact hh
      · have e2 : hoA (some c) k w = c.1 := by unfold hoA; dsimp only; rw [if_pos c0, if_pos y0]
        rw [e2] at hh; exact hh
      · have e2 : hoA (some c) k w = -9000000000000000000 := by unfold hoA; dsimp only; rw [if_neg (by omega), if_neg c1]
        rw [e2] at hh; exact hh
end HeldC
