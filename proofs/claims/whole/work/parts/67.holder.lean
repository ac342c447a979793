/-! 67: the reference's holder, weight -/
section Holder
variable {E : gj_E} {SI : gj_I} {SJ : gj_J} {F : Nat → Int}
theorem ck_row {c : Cd} {n k : Nat} (h : c.2.1.1 < n ∧ c.2.1.2.1 < n ∧ c.2.1.2.2 < n) : ck c.2.1 k < n := by
  unfold ck; split
  · exact h.1
  · split
    · exact h.2.1
    · exact h.2.2
/-- rows are small -/
def RwB (b : Option Cd) : Prop := match b with
  | none => True
  | some c => c.2.1.1 < 16 ∧ c.2.1.2.1 < 16 ∧ c.2.1.2.2 < 16
theorem stepB_r {b : Option Cd} {c : Cd} (hb : RwB b) (hc : RwB (some c)) : RwB (stepB b c) := by
  cases b with
  | none => exact hc
  | some d => unfold stepB; dsimp only; split
              · exact hc
              · exact hb
theorem hdB_r {W : Nat → V3} {n : Nat} (hn : n ≤ 14) (r : V3) : RwB (hdB W n r) := by
  unfold hdB
  split
  · exact ⟨by decide, by decide, by decide⟩
  · have s : ∀ (p : Prop) b c, RwB b → RwB (some c) → RwB (ic p (stepB b c) b) := by
      intro p b c hb hc
      by_cases hp : p
      · rw [ic_t hp]; exact stepB_r hb hc
      · rw [ic_f hp]; exact hb
    have a1 : RwB (hs1 W n r) := forN_I (P := fun _ b => RwB b) n 0 none (fun j b h1 h2 hb => s _ _ _ hb ⟨by show j < 16; omega, by show 0 < 16; omega, by show 0 < 16; omega⟩) trivial
    have a2 : RwB (hs2 W n r) := forN_I (P := fun _ b => RwB b) n 0 _ (fun i b h1 h2 hb => forN_I (P := fun _ b => RwB b) _ (i + 1) b (fun j b g1 g2 hb => s _ _ _ hb ⟨by show i < 16; omega, by show j < 16; omega, by show 0 < 16; omega⟩) hb) a1
    exact forN_I (P := fun _ b => RwB b) n 0 _ (fun i b h1 h2 hb => forN_I (P := fun _ b => RwB b) _ (i + 1) b (fun j b g1 g2 hb => forN_I (P := fun _ b => RwB b) _ (j + 1) b (fun k b k1 k2 hb => s _ _ _ hb ⟨by show i < 16; omega, by show j < 16; omega, by show k < 16; omega⟩) hb) hb) a2
theorem sp_holder {Q : Int64 → gj_I → gj_J → Prop} {a1 a2 a3 a4 a5 : Int32} (hR : RF F SI) (hW : Wp F) (hT : Wt F) (hN : Wn F) (x y t k w : Int) (xr : -2147483648 ≤ x ∧ x < 2147483648) (yr : -2147483648 ≤ y ∧ y < 2147483648) (tr : -2147483648 ≤ t ∧ t < 2147483648) (kr : -2147483648 ≤ k ∧ k < 2147483648) (wr : -2147483648 ≤ w ∧ w < 2147483648) (e1 : a1 = i3 x) (e2 : a2 = i3 y) (e3 : a3 = i3 t) (e4 : a4 = i3 k) (e5 : a5 = i3 w) (h : ∀ SI' SJ', FI LRI SI SI' → FJ LRJ SJ SJ' → Q (i6 (holderA F x y t k w)) SI' SJ') : DoL E 231 [(.ref 81), (.int a1), (.int a2), (.int a3), (.int a4), (.int a5)] SI SJ Q := by
  subst e4; subst e5
  have bad : ¬ (isP x y t ∧ -1 ≤ k ∧ 0 ≤ w ∧ w ≤ 2) → Q (i6 (-9000000000000000000)) SI SJ := by
    intro z
    have e : holderA F x y t k w = -9000000000000000000 := ic_f z
    have hh := h SI SJ FI.rf FJ.rf
    rw [e] at hh; exact hh
  refine st_231 _ _ _ _ _ SI SJ (sp_isPush x y t xr yr tr e1 e2 e3 ⟨fun z => ?_, fun z => ?_⟩)
  · rw [ibc_0] at z; exact bad (fun c => z c.1)
  · rw [ibc_0, Classical.not_not] at z
    rw [i3_64 (a := w) (by omega) (by omega), i3_lt (by omega) (by omega) (by omega) (by omega)]
    refine ⟨fun z2 => bad (fun c => by omega), fun z2 => sp_in (by omega) (by omega) (by omega) (by omega) (by omega) (by omega) ⟨fun z3 => ?_, fun z3 => ?_⟩⟩
    · rw [ib_0] at z3; exact bad (fun c => z3 c.2.2)
    · rw [ib_0, Decidable.not_not] at z3
      have nb := nw_b hN
      have key : DoV E 184 [(.ref 81)] SI SJ (fun SI6 SJ6 => DoI E 227 [(.ref 81), (.long (a1).toInt64), (.long (a2).toInt64), (.long (a3).toInt64)] SI6 SJ6 (fun r7 SI8 SJ8 => (¬ r7 = 0 → (¬ k = -1 → (i3 k < (SI8 81 29) → (¬ i3 w = 0 → (¬ i3 w = (i3 1) → vp_in (i3 k) 3 ∧ (Q (SJ8 96 (gj_n (i3 k))) SI8 SJ8)) ∧ (i3 w = (i3 1) → vp_in (i3 k) 3 ∧ (Q (SJ8 95 (gj_n (i3 k))) SI8 SJ8))) ∧ (i3 w = 0 → vp_in (i3 k) 3 ∧ (Q (SI8 94 (gj_n (i3 k))).toInt64 SI8 SJ8))) ∧ (¬ i3 k < (SI8 81 29) → Q (i6 (-9000000000000000000)) SI8 SJ8)) ∧ (k = -1 → (w = 0 → Q (SI8 81 29).toInt64 SI8 SJ8))) ∧ (r7 = 0 → Q (i6 (-9000000000000000000)) SI8 SJ8))) := by
        refine sp_lays hR hW hT hN (fun A B f1 f2 hL => ?_)
        refine sp_holdsF hL hW hT hN (x, y, t) (by unfold Rb; dsimp only; omega) (by rw [e1, i3_64 (by omega) (by omega)]) (by rw [e2, i3_64 (by omega) (by omega)]) (by rw [e3, i3_64 (by omega) (by omega)]) (fun A2 B2 g1 g2 _ g3 g4 => ?_)
        have hh := h A2 B2 ((LI1_R f1).tr (LIh_R g1)) ((LJ1_R f2).tr (LJh_R g2))
        have e : holderA F x y t k w = hoA (hdF F (x, y, t)) k w := ic_t ⟨z, by omega, z3⟩
        rw [e] at hh
        have rw0 : RwB (hdF F (x, y, t)) := hdB_r (by show nf F * fc F ≤ 14; omega) _
        rw [i3_eq0 (by omega) (by omega), i3_eq (by omega) (by omega) (by omega) (by omega)]
        cases hb : hdF F (x, y, t) with
        | none =>
          rw [hb] at hh
          exact ⟨fun c => absurd (ibc_0.mpr (by decide)) c, fun _ => hh⟩
        | some c =>
          rw [hb] at hh g3 g4 rw0
          obtain ⟨d0, d1, d2, d3⟩ := g3
          obtain ⟨v1, v2, v3, v4⟩ := g4
          rw [d0, i3_lt (by omega) (by omega) (by omega) (by omega)]
          refine ⟨fun _ => ⟨fun c0 => ⟨fun c1 => ?_, fun c1 => ?_⟩, fun c0 c1 => ?_⟩, fun c0 => absurd (show (some c).isSome = true from rfl) (ibc_0.mp c0)⟩
          · obtain ⟨m, hm⟩ : ∃ m : Nat, k = m := ⟨k.toNat, by omega⟩
            subst hm
            have hm3 : m < c.1 := by omega
            obtain ⟨t1, t2, t3⟩ := d3 m hm3
            have rl := ck_row (k := m) rw0
            rw [i3_n (by omega) (by omega), i3_in (by omega) (by omega), show ((m : Nat) : Int).toNat = m by omega, t1, t2, t3, i3_64 (by omega) (by omega)]
            have e2 : hoA (some c) (m : Int) w = (if w = 0 then ((ck c.2.1 m : Nat) : Int) else if w = 1 then lox (ck c.2.2.1 m) c.2.2.2 else loy (ck c.2.2.1 m) c.2.2.2) := by
              unfold hoA; dsimp only; rw [if_neg c0, if_pos c1]; rfl
            rw [e2] at hh
            refine ⟨fun q => ⟨fun q2 => ⟨by omega, ?_⟩, fun q2 => ⟨by omega, ?_⟩⟩, fun q => ⟨by omega, ?_⟩⟩
            · rw [if_neg q, if_neg q2] at hh; exact hh
            · rw [if_neg q, if_pos q2] at hh; exact hh
            · rw [if_pos q] at hh; exact hh
          · have e2 : hoA (some c) k w = -9000000000000000000 := by unfold hoA; dsimp only; rw [if_neg c0, if_neg c1]
            rw [e2] at hh; exact hh
          · have e2 : hoA (some c) k w = c.1 := by unfold hoA; dsimp only; rw [if_pos c0, if_pos c1]
            rw [e2] at hh
            rw [i3_64 (by omega) (by omega)]; exact hh
      rw [i3_eq (by omega) (by omega) (by omega) (by omega), i3_le0 (by omega) (by omega)]
      refine ⟨fun q => ?_, fun q => ⟨fun q2 => ?_, fun q2 => ?_⟩⟩
      · refine key.mono (fun A B hk => hk.mono (fun r A B hq => ⟨fun c => ⟨(hq.1 c).1, fun c2 => absurd c2 q⟩, hq.2⟩))
      · refine key.mono (fun A B hk => hk.mono (fun r A B hq => ⟨fun c => ⟨(hq.1 c).1, fun c2 => (hq.1 c).2 c2 (by omega)⟩, hq.2⟩))
      · -- k -1, what above 0: no such ones; the reference answers so before it lays
        have e : holderA F x y t k w = -9000000000000000000 := by
          have e0 : holderA F x y t k w = hoA (hdF F (x, y, t)) k w := ic_t ⟨z, by omega, z3⟩
          rw [e0]
          cases hdF F (x, y, t) with
          | none => rfl
          | some c => unfold hoA; dsimp only; rw [if_pos q, if_neg (by omega)]
        have hh := h SI SJ FI.rf FJ.rf
        rw [e] at hh; exact hh
/-- three times twice the area; the middle less the centre, so many times -/
def wtT (F : Nat → Int) : Int := 3 * ar F (nC F)
def mid (F : Nat → Int) : Nat → Int × Int
  | 0 => (0, 0)
  | i + 1 => ((mid F i).1 + (cx F i * cy F (i + 1) - cx F (i + 1) * cy F i) * (cx F i + cx F (i + 1)), (mid F i).2 + (cx F i * cy F (i + 1) - cx F (i + 1) * cy F i) * (cy F i + cy F (i + 1)))
def wtP (F : Nat → Int) (gx gy : Int) : V3 := (gx * wtT F, gy * wtT F, ((mid F (nC F)).1 - F 32 * wtT F) * gy - ((mid F (nC F)).2 - F 33 * wtT F) * gx)
theorem part_b {F : Nat → Int} (hW : Wc F) (i : Nat) : (cx F i * cy F (i + 1) - cx F (i + 1) * cy F i).natAbs ≤ 162 := by
  have b1 := hW.b i; have b2 := hW.b (i + 1)
  have m1 := mul_b (a := cx F i) (b := cy F (i + 1)) (m := 9) (n := 9) (by omega) (by omega)
  have m2 := mul_b (a := cx F (i + 1)) (b := cy F i) (m := 9) (n := 9) (by omega) (by omega)
  omega
theorem mid_b {F : Nat → Int} (hW : Wc F) (i : Nat) : (mid F i).1.natAbs ≤ 2916 * i ∧ (mid F i).2.natAbs ≤ 2916 * i := by
  induction i with
  | zero => exact ⟨Nat.le_refl 0, Nat.le_refl 0⟩
  | succ i ih =>
    have b1 := hW.b i; have b2 := hW.b (i + 1)
    have p := part_b hW i
    have m1 := mul_b (b := cx F i + cx F (i + 1)) (n := 18) p (by omega)
    have m2 := mul_b (b := cy F i + cy F (i + 1)) (n := 18) p (by omega)
    unfold mid; dsimp only; omega
theorem wtT_b {F : Nat → Int} (hW : Wc F) : (wtT F).natAbs ≤ 3888 := by
  have := ar_b hW (nC F)
  have := hW.n.2.1
  unfold wtT; omega
theorem wtP_b {F : Nat → Int} (hW : Wc F) (hT : Wt F) {gx gy : Int} (hx : gx.natAbs ≤ 9) (hy : gy.natAbs ≤ 9) : Rb (wtP F gx gy) := by
  have w := wtT_b hW
  obtain ⟨m1, m2⟩ := mid_b hW (nC F)
  have n8 := hW.n.2.1
  obtain ⟨-, -, -, -, t5, t6, t7, t8⟩ := hT
  have p1 := mul_b hx w; have p2 := mul_b hy w
  have p3 := mul_b (a := F 32) (b := wtT F) (m := 9) (n := 3888) (by omega) w
  have p4 := mul_b (a := F 33) (b := wtT F) (m := 9) (n := 3888) (by omega) w
  have p5 := mul_b (a := (mid F (nC F)).1 - F 32 * wtT F) (b := gy) (m := 60000) (n := 9) (by omega) hy
  have p6 := mul_b (a := (mid F (nC F)).2 - F 33 * wtT F) (b := gx) (m := 60000) (n := 9) (by omega) hx
  unfold Rb wtP; dsimp only; omega
theorem sp_holdsWeight {Q : Int32 → gj_I → gj_J → Prop} {a1 a2 : Int32} (hL : LWF F SI SJ) (hR : RF F SI) (hW : Wp F) (hT : Wt F) (hN : Wn F) (gx gy : Int) (hx : gx.natAbs ≤ 9) (hy : gy.natAbs ≤ 9) (e1 : a1 = i3 gx) (e2 : a2 = i3 gy) (h : ∀ SI' SJ', FI LIh SI SI' → FJ (fun o k => LJh o k ∨ (o = 81 ∧ k = 33)) SJ SJ' → LWF F SI' SJ' → RB (hdF F (wtP F gx gy)) SI' SJ' → WB (hdF F (wtP F gx gy)) → SJ' 81 33 = i6 (wtT F) → Q (ibc ((hdF F (wtP F gx gy)).isSome = true)) SI' SJ') : DoI E 233 [(.ref 81), (.int a1), (.int a2)] SI SJ Q := by
  subst e1; subst e2
  obtain ⟨n1, n2, n3⟩ := hW.1.n
  have w := wtT_b hW.1
  have ab := ar_b hW.1 (nC F)
  obtain ⟨t1, t2, t3, t4, t5, t6, t7, t8⟩ := hT
  refine st_233 _ _ SI SJ ?_
  refine up_lp (α := Unit) (P := fun i _ A B => A = SI ∧ B = SJ) (G := fun i _ A B => GoI E mt_233 8 [some (.ref 81), some (.int (i3 gx)), some (.int (i3 gy)), some (.long (i6 (mid F i).1)), none, some (.long (i6 (mid F i).2)), none, some (.int (i3 i)), none, none] A B Q) (nC F) ?_ ?_ 0 () SI SJ (by omega) ⟨rfl, rfl⟩
  · rintro _ A B ⟨rfl, rfl⟩
    refine lp_233_8 _ _ _ _ _ A B (sp_corners hR ⟨fun _ => sp_areaTwice hR hW.1 ?_, fun z => ?_⟩)
    · rw [hR 32 (by decide), hR 33 (by decide), i3_64 (by omega) (by omega), i3_64 (by omega) (by omega), i3_64 (by omega) (by omega), i3_64 (by omega) (by omega)]
      simp only [i6_mul, i6_sub]
      have hL2 : LWF F A (gj_w2 B 81 33 (i6 (3 * ar F (nC F)))) := hL.fs (L := fun o k => o = 81 ∧ k = 33) (FJ.rf.w ⟨rfl, rfl⟩) (fun k => by omega)
      refine sp_holdsF hL2 hW ⟨t1, t2, t3, t4, t5, t6, t7, t8⟩ hN (wtP F gx gy) (wtP_b hW.1 ⟨t1, t2, t3, t4, t5, t6, t7, t8⟩ hx hy) rfl rfl rfl (fun A2 B2 g1 g2 g3 g4 g5 => ⟨ibc_01, ?_⟩)
      refine h A2 B2 g1 ((FJ.rf.w (Or.inr ⟨rfl, rfl⟩)).tr (g2.le (fun o k z => Or.inl z))) g3 g4 g5 ?_
      rw [g2 81 33 (by unfold LJh; omega), w2_s]; rfl
    · rw [n3, i3_le (by omega) (by omega) (by omega) (by omega)] at z; omega
  · rintro i _ A B hi ⟨rfl, rfl⟩ ih
    have b1 := hW.1.b i; have b2 := hW.1.b (i + 1)
    have p := part_b hW.1 i
    refine lp_233_8 _ _ _ _ _ A B (sp_corners hR ⟨fun z => ?_, fun z => ?_⟩)
    · rw [n3, i3_le (by omega) (by omega) (by omega) (by omega)] at z; omega
    · rw [i3_add]
      refine sp_cornerX hR hW.1 i (by omega) rfl (sp_cornerY hR hW.1 (i + 1) (by omega) (i3_c (by omega)) (sp_cornerX hR hW.1 (i + 1) (by omega) (i3_c (by omega)) (sp_cornerY hR hW.1 i (by omega) rfl (sp_cornerX hR hW.1 i (by omega) rfl (sp_cornerX hR hW.1 (i + 1) (by omega) (i3_c (by omega)) (sp_cornerY hR hW.1 i (by omega) rfl (sp_cornerY hR hW.1 (i + 1) (by omega) (i3_c (by omega)) ?_)))))))
      simp only [i3_mul, i3_sub, i3_add]
      rw [i3_64 (by omega) (by omega), i3_64 (by omega) (by omega), i3_64 (by omega) (by omega)]
      simp only [i6_mul, i6_add]
      exact ih () A B ⟨rfl, rfl⟩
end Holder
