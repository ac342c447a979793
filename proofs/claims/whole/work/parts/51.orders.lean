/-! 51: clauses and orders of the reference -/
def LJW (o k : Nat) : Prop := o = 91
section Orders
variable {E : gj_E} {SI : gj_I} {SJ : gj_J} {F : Nat → Int} {T : Nat → Int} {n p c : Nat} {t : Nat → V3}
/-- a clause is written down -/
theorem OD.add {A : gj_I} {B : gj_J} {v : V3} (h : OD t c A B) (h0 : A 90 (2 * c) = i3 v.2.1) (h1 : v.1 ≠ 1 → A 90 (2 * c + 1) = i3 v.2.2) : OD (tu t c v) (c + 1) (gj_u2 A 81 19 (i3 c + i3 1)) (gj_w2 B 91 c (i6 (cod v.1))) := by
  refine ⟨by rw [u2_s, i3_add]; rfl, fun j hj => ?_⟩
  by_cases e : j = c
  · subst e
    rw [tu_s, u2_n (by omega), u2_n (by omega), w2_s]
    exact ⟨rfl, h0, h1⟩
  · rw [tu_n e, u2_n (by omega), u2_n (by omega), w2_n (by omega)]
    exact h.2 j (by omega)
theorem OD.u {A : gj_I} {B : gj_J} {k : Nat} {x : Int32} (h : OD t c A B) (hk : 2 * c ≤ k) : OD t c (gj_u2 A 90 k x) B := ⟨by rw [u2_n (by omega)]; exact h.1, fun j hj => by rw [u2_n (by omega), u2_n (by omega)]; exact h.2 j hj⟩
theorem RP.u90 {A : gj_I} {k : Nat} {x : Int32} (h : RP T n p A) : RP T n p (gj_u2 A 90 k x) := by
  obtain ⟨p1, p2, p3, p4, p5⟩ := h
  refine ⟨fun k hk => ?_, p2, p3, ?_, ?_⟩
  · rw [u2_n (by omega)]; exact p1 k hk
  · rw [u2_n (by omega)]; exact p4
  · rw [u2_n (by omega)]; exact p5
theorem RP.u19 {A : gj_I} {x : Int32} (h : RP T n p A) : RP T n p (gj_u2 A 81 19 x) := by
  obtain ⟨p1, p2, p3, p4, p5⟩ := h
  refine ⟨fun k hk => ?_, p2, p3, ?_, ?_⟩
  · rw [u2_n (by omega)]; exact p1 k hk
  · rw [u2_n (by omega)]; exact p4
  · rw [u2_n (by omega)]; exact p5
theorem sp_readsClause {Q : Int32 → gj_I → gj_J → Prop} (hP : RP T n p SI) (hn : n ≤ 120) (hD : OD t c SI SJ) (hc : c ≤ 12) (hE : ∀ e SI', clsP T n c p = .inl e → FI LRC SI SI' → SI' 81 16 = i3 e → Q (i3 0) SI' SJ) (hK : ∀ v q SI' SJ', clsP T n c p = .inr (v, q) → c < 12 → FI LRC SI SI' → FJ LJW SJ SJ' → RP T n q SI' → OD (tu t c v) (c + 1) SI' SJ' → Ob v → Q (i3 1) SI' SJ') : DoI E 216 [(.ref 81)] SI SJ Q := by
  have hpn := hP.2.2.1
  refine st_216 SI SJ ?_
  rw [hD.1, i3_eq (by omega) (by omega) (by omega) (by omega), hP.2.2.2.2]
  refine ⟨fun c12 => ?_, fun c12 => ?_⟩
  · unfold clsP at hE hK
    rw [if_neg (by omega)] at hE hK
    -- the numbers
    have two : kd T n p ≠ -1 → 0 ≤ kd T n p ∧ kd T n p ≤ 3 → ∀ A, FI LRC SI A → RP T n (p + wl T n 120 p) A → OD t c A SJ → GoI E mt_216 133 [some (.ref 81), none, some (.long (i6 (cod (kd T n p)))), none, some (.int (i3 0))] A SJ Q := by
      intro k1 kb A fA hPA hDA
      rw [if_neg k1] at hE hK
      have first : ∀ (G : gj_I → gj_J → Prop), (∀ v q SI', nb T n (p + wl T n 120 p) = .inr (v, q) → FI LRN A SI' → RP T n q SI' → v.natAbs ≤ 999 → SI' 81 17 = i3 v → G SI' SJ) → DoI E 210 [(.ref 81), (.int (i3 32))] A SJ (fun r1 SI2 SJ2 => (r1 = 0 → Q (i3 0) SI2 SJ2) ∧ (¬ r1 = 0 → DoI E 211 [(.ref 81), (.int (i3 2)), (.int (i3 0))] SI2 SJ2 (fun r3 SI4 SJ4 => (¬ r3 = 0 → G SI4 SJ4) ∧ (r3 = 0 → Q (i3 0) SI4 SJ4)))) := by
        intro G hG
        refine nb_core hPA (fun e B z f g => ?_) hG
        rw [z] at hE
        exact hE e B rfl (fA.tr (f.le LRN_C)) g
      refine lp_216_133 _ _ A SJ ?_
      rw [i6_eq (by unfold cod; repeat' split <;> omega) (by unfold cod; repeat' split <;> omega) (by omega) (by omega)]
      have ek : cod (kd T n p) = 656741 ↔ kd T n p = 1 := by unfold cod; repeat' split <;> omega
      rw [ek]
      refine ⟨fun k2 => ⟨fun q => absurd q (by decide), fun _ => first _ (fun a r B z f hPB ab g => ?_)⟩, fun k2 => ⟨fun q => absurd q (by decide), fun _ => first _ (fun a r B z f hPB ab g => ?_)⟩⟩
      · have hDB := hDA.f f
        rw [hDB.1, g]
        simp only [i3_mul, i3_add]
        rw [i3_in (by omega) (by omega), i3_n (by omega) (by omega), show (2 * (c : Int) + 0).toNat = 2 * c by omega]
        refine ⟨by omega, ?_⟩
        have hPB2 := hPB.u90 (k := 2 * c) (x := i3 a)
        have hDB2 := hDB.u (k := 2 * c) (x := i3 a) (by omega)
        have fB2 : FI LRC SI (gj_u2 B 90 (2 * c) (i3 a)) := (fA.tr (f.le LRN_C)).u (Or.inr rfl)
        refine lp_216_133 _ _ _ SJ ?_
        rw [i6_eq (by unfold cod; repeat' split <;> omega) (by unfold cod; repeat' split <;> omega) (by omega) (by omega), ek]
        refine ⟨fun _ => ⟨fun q => absurd q (by decide), fun _ => ?_⟩, fun q => absurd q k2⟩
        rw [z] at hE hK
        dsimp only at hE hK
        rw [if_neg k2] at hE hK
        refine nb_core hPB2 (fun e C y f2 g2 => ?_) (fun b s C y f2 hPC bb g2 => ?_)
        · rw [y] at hE
          exact hE e C rfl (fB2.tr (f2.le LRN_C)) g2
        · rw [y] at hK
          have hDC := hDB2.f f2
          rw [hDC.1, g2]
          simp only [i3_mul, i3_add]
          rw [i3_in (by omega) (by omega), i3_n (by omega) (by omega), show (2 * (c : Int) + (0 + 1)).toNat = 2 * c + 1 by omega]
          refine ⟨by omega, ?_⟩
          have hPC2 := hPC.u90 (k := 2 * c + 1) (x := i3 b)
          have hDC2 := hDC.u (k := 2 * c + 1) (x := i3 b) (by omega)
          have fC2 : FI LRC SI (gj_u2 C 90 (2 * c + 1) (i3 b)) := (fB2.tr (f2.le LRN_C)).u (Or.inr rfl)
          refine lp_216_133 _ _ _ SJ ?_
          rw [i6_eq (by unfold cod; repeat' split <;> omega) (by unfold cod; repeat' split <;> omega) (by omega) (by omega), ek]
          refine ⟨fun _ => ⟨fun _ => ?_, fun q => absurd (by decide) q⟩, fun q => absurd q k2⟩
          rw [hDC2.1, i3_in (by omega) (by omega), i3_n (by omega) (by omega), show ((c : Nat) : Int).toNat = c by omega]
          refine ⟨by omega, hK (kd T n p, a, b) s _ _ rfl (by omega) (fC2.u (Or.inl ⟨rfl, by omega⟩)) (FJ.rf.w rfl) hPC2.u19 (hDC2.add (v := (kd T n p, a, b)) ?_ (fun _ => u2_s)) ⟨kb.1, kb.2, ab, bb⟩⟩
          rw [u2_n (by omega), f2 90 (2 * c) (by unfold LRN; omega), u2_s]
      · have hDB := hDA.f f
        rw [hDB.1, g]
        simp only [i3_mul, i3_add]
        rw [i3_in (by omega) (by omega), i3_n (by omega) (by omega), show (2 * (c : Int) + 0).toNat = 2 * c by omega]
        refine ⟨by omega, ?_⟩
        have hPB2 := hPB.u90 (k := 2 * c) (x := i3 a)
        have hDB2 := hDB.u (k := 2 * c) (x := i3 a) (by omega)
        have fB2 : FI LRC SI (gj_u2 B 90 (2 * c) (i3 a)) := (fA.tr (f.le LRN_C)).u (Or.inr rfl)
        refine lp_216_133 _ _ _ SJ ?_
        rw [i6_eq (by unfold cod; repeat' split <;> omega) (by unfold cod; repeat' split <;> omega) (by omega) (by omega), ek]
        refine ⟨fun q => absurd k2 q, fun _ => ⟨fun _ => ?_, fun q => absurd (by decide) q⟩⟩
        rw [z] at hK
        dsimp only at hK
        rw [if_pos k2] at hK
        rw [hDB2.1, i3_in (by omega) (by omega), i3_n (by omega) (by omega), show ((c : Nat) : Int).toNat = c by omega, k2]
        refine ⟨by omega, hK (1, a, 0) r _ _ rfl (by omega) (fB2.u (Or.inl ⟨rfl, by omega⟩)) (FJ.rf.w rfl) hPB2.u19 (hDB2.add (v := (1, a, 0)) u2_s (fun q => absurd rfl q)) ⟨by dsimp only; omega, by dsimp only; omega, ab, by dsimp only; omega⟩⟩
    -- the word
    have word : ∀ (d i : Nat) (A : gj_I), i + d = wl T n 120 p → FI LRN SI A → RP T n (p + i) A → GoI E mt_216 26 [some (.ref 81), some (.int (i3 p)), some (.long (i6 (wv T n p i))), none, none] A SJ Q := by
      have wb : ∀ i, i ≤ wl T n 120 p → -1 ≤ wv T n p i ∧ wv T n p i ≤ 1099511627776 := by
        have q : ∀ i, i ≤ 8 → i ≤ wl T n 120 p → 0 ≤ wv T n p i ∧ wv T n p i < ((32 ^ i : Nat) : Int) := by
          intro i
          induction i with
          | zero => intro _ _; exact ⟨Int.le_refl 0, show (0 : Int) < ((32 ^ 0 : Nat) : Int) by decide⟩
          | succ i ih =>
            intro h8 hi
            have a := ih (by omega) (by omega)
            have l := wl_lt T n 120 p i (by omega)
            have e : wv T n p (i + 1) = 32 * wv T n p i + hr T n (p + i) - 96 := if_pos (by omega)
            rw [e, Nat.pow_succ]; omega
        intro i hi
        by_cases h : i ≤ 8
        · have a := q i h hi
          have b : 32 ^ i ≤ 32 ^ 8 := Nat.pow_le_pow_right (by decide) h
          have e : (32 : Nat) ^ 8 = 1099511627776 := by decide
          omega
        · obtain ⟨m, rfl⟩ : ∃ m, i = m + 1 := ⟨i - 1, by omega⟩
          have e : wv T n p (m + 1) = -1 := if_neg (by omega)
          rw [e]; decide
      intro d
      induction d with
      | zero =>
        intro i A hi fA hPA
        have hr1 := hr_b hPA.1 hPA.2.1 (p + i)
        refine lp_216_26 _ _ A SJ (sp_here hPA ?_)
        rw [i3_64 (by omega) (by omega)]
        refine sp_in (by omega) (by omega) (by omega) (by omega) (by omega) (by omega) ⟨fun z => ?_, fun z => ?_⟩
        · have wbi := wb i (by omega)
          rw [i6_eq (by omega) (by omega) (by omega) (by omega), i6_eq (by omega) (by omega) (by omega) (by omega), i6_eq (by omega) (by omega) (by omega) (by omega), i6_eq (by omega) (by omega) (by omega) (by omega)]
          have fA2 := fA.le LRN_C
          have hDA := hD.f fA
          have ei : i = wl T n 120 p := by omega
          have hPA2 : RP T n (p + wl T n 120 p) A := by rw [← ei]; exact hPA
          rcases wv_k i (by omega) with ⟨k1, k2, k3, k4, k5⟩ | ⟨k1, k2, k3⟩
          · rw [if_pos k1] at hE
            refine ⟨fun q => absurd q k2, fun _ => ⟨fun q => absurd q k3, fun _ => ⟨fun q => absurd q k4, fun _ => ⟨fun q => absurd q k5, fun _ => ?_⟩⟩⟩⟩
            exact sp_wrongAt 1 p rfl rfl ⟨Or.inl rfl, hE _ _ rfl (fA2.u (Or.inl ⟨rfl, by omega⟩)) (by rw [u2_s]; rfl)⟩
          · have go := two (by omega) ⟨k1, k2⟩ A fA2 hPA2 hDA
            rw [k3]
            have cc : cod (kd T n p) = 17076 ∨ cod (kd T n p) = 656741 ∨ cod (kd T n p) = 21566500 ∨ cod (kd T n p) = 106385989 := by unfold cod; (repeat' split) <;> omega
            refine ⟨fun _ => go, fun q1 => ⟨fun _ => go, fun q2 => ⟨fun _ => go, fun q3 => ⟨fun _ => go, fun q4 => by omega⟩⟩⟩⟩
        · rw [ib_0, Decidable.not_not] at z
          exact absurd z (by rw [show i = wl T n 120 p by omega]; exact wl_end T n 120 p (by omega))
      | succ d ih =>
        intro i A hi fA hPA
        have hr1 := hr_b hPA.1 hPA.2.1 (p + i)
        have l := wl_lt T n 120 p i (by omega)
        have lt1 := hr_lt (show 0 ≤ hr T n (p + i) by omega)
        have hpi := hPA.2.2.1
        refine lp_216_26 _ _ A SJ (sp_here hPA ?_)
        rw [i3_64 (by omega) (by omega)]
        refine sp_in (by omega) (by omega) (by omega) (by omega) (by omega) (by omega) ⟨fun z => ?_, fun z => ?_⟩
        · rw [ib_0] at z; exact absurd l z
        · rw [hPA.2.2.2.2, i3_sub, i3_le (by omega) (by omega) (by omega) (by omega), i3_add]
          have fA2 : FI LRN A (gj_u2 A 81 14 (i3 (((p + i : Nat) : Int) + 1))) := FI.rf.u (LRN_i (by omega))
          have hPA2 := hPA.f fA2 (q := p + (i + 1)) (by omega) (by rw [u2_s]; rfl)
          have nx := ih (i + 1) _ (by omega) (fA.tr fA2) hPA2
          refine ⟨fun q => ?_, fun q => sp_here hPA ?_⟩
          · have e : wv T n p (i + 1) = -1 := if_neg (by omega)
            rw [e] at nx; exact nx
          · have e : wv T n p (i + 1) = 32 * wv T n p i + hr T n (p + i) - 96 := if_pos (by omega)
            rw [i3_64 (by omega) (by omega)]
            simp only [i6_mul, i6_add, i6_sub]
            rw [hPA.2.2.2.2, i3_add]
            rw [e] at nx
            rw [show 32 * wv T n p i + hr T n (p + i) - 97 + 1 = 32 * wv T n p i + hr T n (p + i) - 96 by omega]
            exact nx
    exact word (wl T n 120 p) 0 SI (by omega) FI.rf hP
  · refine sp_wrongAt 4 p rfl rfl ⟨Or.inl rfl, hE (-4000 - p) _ (if_pos (by omega)) (FI.rf.u (Or.inl ⟨rfl, by omega⟩)) (by rw [u2_s]; rfl)⟩
/-- what an order does, and whether it may -/
noncomputable def dsR (F : Nat → Int) (v : V3) : Int × (Nat → Int) := if v.1 = 0 then putR F v.2.1 v.2.2 else if v.1 = 1 then takeR F v.2.1 else if v.1 = 2 then treadR F v.2.1 v.2.2 else centreR F v.2.1 v.2.2
theorem ntd_17 {F : Nat → Int} (h : 0 ≤ F 35) (w : Int) : ntd F w 17 = F 17 := nt_lo h (by decide)
theorem dsR_b {F : Nat → Int} (h : WF F) (v : V3) : -3 ≤ (dsR F v).1 ∧ (dsR F v).1 ≤ 6 := by
  have n0 := h.2.2.1.1; have n1 := h.2.2.1.2.1
  unfold dsR putR takeR treadR centreR
  repeat' split
  all_goals dsimp only
  all_goals omega
theorem WF.dsR {F : Nat → Int} (h : WF F) (v : V3) : WF (dsR F v).2 := by
  unfold Jvm.Pilot.CGraspJudgeLaw_law_r1084_915a35.dsR
  split
  · exact h.putR _ _
  · split
    · exact h.takeR _
    · split
      · exact h.treadR _ _
      · exact h.centreR _ _
theorem sp_does {Q : Int32 → gj_I → gj_J → Prop} {a : Int32} (hR : RF F SI) (hF : WF F) (j : Nat) (hj : j < 12) (ha : a = i3 j) (v : V3) (hv : Ob v) (h1 : SJ 91 j = i6 (cod v.1)) (h2 : SI 90 (2 * j) = i3 v.2.1) (h3 : v.1 ≠ 1 → SI 90 (2 * j + 1) = i3 v.2.2) (h : ∀ SI' SJ', RF (dsR F v).2 SI' → FI LI2 SI SI' → FJ LJ1 SJ SJ' → Q (ib (0 ≤ (dsR F v).1)) SI' SJ') : DoI E 217 [(.ref 81), (.int a)] SI SJ Q := by
  subst ha
  obtain ⟨v1, v2, v3, v4⟩ := hv
  have db := dsR_b hF v
  have fin : ∀ (A : gj_I) (B : gj_J) (x : Int), x = (dsR F v).1 → RF (dsR F v).2 A → FI LI2 SI A → FJ LJ1 SJ B → (i3 x < 0 → Q (i3 0) A B) ∧ (¬ i3 x < 0 → Q (i3 1) A B) := by
    intro A B x hx hA f1 f2
    subst hx
    rw [i3_lt0 (by omega) (by omega)]
    have hh := h A B hA f1 f2
    refine ⟨fun q => ?_, fun q => ?_⟩
    · rw [ib_f (by omega)] at hh; exact hh
    · rw [ib_t (by omega)] at hh; exact hh
  refine st_217 _ SI SJ ?_
  simp only [i3_mul, i3_add]
  rw [i3_in (by omega) (by omega), i3_in (by omega) (by omega), i3_in (by omega) (by omega), i3_n (by omega) (by omega), i3_n (by omega) (by omega), i3_n (by omega) (by omega), show (2 * (j : Int)).toNat = 2 * j by omega, show (2 * (j : Int) + 1).toNat = 2 * j + 1 by omega, show ((j : Nat) : Int).toNat = j by omega, h1, h2]
  refine ⟨by omega, by omega, by omega, ?_⟩
  rw [i6_eq (by unfold cod; repeat' split <;> omega) (by unfold cod; repeat' split <;> omega) (by omega) (by omega), i6_eq (by unfold cod; repeat' split <;> omega) (by unfold cod; repeat' split <;> omega) (by omega) (by omega), i6_eq (by unfold cod; repeat' split <;> omega) (by unfold cod; repeat' split <;> omega) (by omega) (by omega)]
  have e0 : cod v.1 = 17076 ↔ v.1 = 0 := by unfold cod; (repeat' split) <;> omega
  have e1 : cod v.1 = 656741 ↔ v.1 = 1 := by unfold cod; (repeat' split) <;> omega
  have e2 : cod v.1 = 21566500 ↔ v.1 = 2 := by unfold cod; (repeat' split) <;> omega
  rw [e0, e1, e2]
  refine ⟨fun q0 => ⟨fun q1 => ⟨fun q2 => ?_, fun q2 => ?_⟩, fun q1 => ?_⟩, fun q0 => ?_⟩
  · have ed : dsR F v = centreR F v.2.1 v.2.2 := by unfold dsR; rw [if_neg q0, if_neg q1, if_neg q2]
    rw [h3 q1]
    exact sp_centre hR hF v.2.1 v.2.2 (by omega) (by omega) rfl rfl (fun A B g1 g2 g3 => fin A B _ (by rw [ed]) (by rw [ed]; exact g1) g2 g3)
  · have ed : dsR F v = treadR F v.2.1 v.2.2 := by unfold dsR; rw [if_neg q0, if_neg q1, if_pos q2]
    rw [h3 q1]
    exact sp_tread hR hF v.2.1 v.2.2 (by omega) (by omega) rfl rfl (fun A B g1 g2 g3 => fin A B _ (by rw [ed]) (by rw [ed]; exact g1) g2 g3)
  · have ed : dsR F v = takeR F v.2.1 := by unfold dsR; rw [if_neg q0, if_pos q1]
    exact sp_take hR hF v.2.1 (by omega) rfl (fun A B g1 g2 g3 => fin A B _ (by rw [ed]) (by rw [ed]; exact g1) g2 g3)
  · have ed : dsR F v = putR F v.2.1 v.2.2 := by unfold dsR; rw [if_pos q0]
    rw [h3 (by omega)]
    exact sp_put hR hF v.2.1 v.2.2 (by omega) (by omega) rfl rfl (fun A B g1 g2 g3 => fin A B _ (by rw [ed]) (by rw [ed]; exact g1) g2 g3)
end Orders
