/-! 9n: rough of the class -/
def rM (i : Nat) : Nat := if i = 0 then 0 else if i = 1 then 1 else if i = 2 then 1 else if i = 3 then 2 else if i = 4 then 1 else if i = 5 then 3 else if i = 6 then 2 else 3
def rQ (i : Nat) : Nat := if i = 0 then 1 else if i = 1 then 3 else if i = 2 then 2 else if i = 3 then 3 else if i = 4 then 1 else if i = 5 then 2 else if i = 6 then 1 else 1
def rC (a b : Nat) : Nat := if a = 0 then b else if a = b then a else 1
def Tbr (E : gj_E) : Prop := ∀ k, k < 8 → gj_stf E 0 k = i3 (rM k : Nat) ∧ gj_stf E 1 k = i3 (rQ k : Nat)
/-- the number of a tread in the rising list -/
def rI (a b : Nat) : Nat := if a = 0 then 0 else if a = b then 4 else if a = 1 ∧ b = 3 then 1 else if a = 1 ∧ b = 2 then 2 else if a = 2 ∧ b = 3 then 3 else if a = 3 ∧ b = 2 then 5 else if a = 2 ∧ b = 1 then 6 else 7
theorem rI_8 : ∀ a, a < 4 → ∀ b, b < 4 → rI a b < 8 := by decide
theorem rI_le : ∀ a, a < 4 → ∀ b, b < 4 → ∀ r, r < 8 → 1 ≤ b → a * rQ r ≤ rM r * b → rI a b ≤ r := by decide
theorem rI_c : ∀ a, a < 4 → ∀ b, b < 4 → 1 ≤ b → 0 < rC a b ∧ a = rC a b * rM (rI a b) ∧ b = rC a b * rQ (rI a b) := by decide
theorem rI_l {a b : Nat} (ha : a < 4) (hb : b < 4) (h1 : 1 ≤ b) : lox (a : Int) b = (rM (rI a b) : Nat) ∧ loy (a : Int) b = (rQ (rI a b) : Nat) := by
  have ca : a = 0 ∨ a = 1 ∨ a = 2 ∨ a = 3 := by omega
  have cb : b = 1 ∨ b = 2 ∨ b = 3 := by omega
  rcases ca with rfl | rfl | rfl | rfl <;> rcases cb with rfl | rfl | rfl <;> exact ⟨rfl, rfl⟩
section RoughC
variable {E : gj_E} {SI : gj_I} {SJ : gj_J} {F : Nat → Int}
theorem firm_c {W V : Nat → V3} {n s : Nat} (h : ∀ j, j < n → W j = V j) : firm W n s → firm V n s := by
  rintro ⟨⟨i, j, k, h1, h2, h3, h4, h5, h6⟩, g⟩
  rw [h i h2.1, h j h3.1] at h5 h6
  rw [h k h4.1] at h6
  refine ⟨⟨i, j, k, h1, h2, h3, h4, h5, h6⟩, fun i j hij hi hj hc => ?_⟩
  have g1 := g i j hij hi hj (by rw [h i hi.1, h j hj.1]; exact hc)
  rw [h i hi.1, h j hj.1] at g1
  obtain ⟨⟨k, k1, k2⟩, l, l1, l2⟩ := g1
  rw [h k k1.1] at k2
  rw [h l l1.1] at l2
  exact ⟨⟨k, k1, k2⟩, l, l1, l2⟩
theorem trd_0 {m q : Int} : trd F m q 30 = m ∧ trd F m q 31 = q := ⟨by unfold trd; rw [fu_n (by omega), fu_s], by unfold trd; rw [fu_s]⟩
theorem trd_mul (hW : Wc F) (hN : Wn F) {c m q : Int} (hc : 0 < c) : firmF (trd F (c * m) (c * q)) → firmF (trd F m q) := by
  have ap : Ap F (trd F m q) := fun k hk => trd_n (by omega)
  have ap2 : Ap F (trd F (c * m) (c * q)) := fun k hk => trd_n (by omega)
  have e1 : fc (trd F (c * m) (c * q)) = fc (trd F m q) := by
    unfold fc
    rw [trd_0.1, trd_0.1]
    by_cases z : m = 0
    · rw [if_pos z, if_pos (by rw [z, Int.mul_zero])]
    · rw [if_neg z, if_neg (fun y => z ((Int.mul_eq_zero.mp y).resolve_left (by omega)))]
  have e2 : nf (trd F (c * m) (c * q)) = nf (trd F m q) := by unfold nf; rw [trd_n (by omega), trd_n (by omega)]
  unfold firmF
  rw [e1, e2]
  refine firm_c (fun j hj => ?_)
  have n6 : nf (trd F m q) ≤ 6 := by unfold nf; rw [trd_n (by omega)]; have := hN.2.1; omega
  have hf := fc_b (trd F m q)
  have dj : j / fc (trd F m q) < nf (trd F m q) := (Nat.div_lt_iff_lt_mul (by omega)).mpr hj
  obtain ⟨-, s2, s3, s4, s5⟩ := ap.s hW
  obtain ⟨-, r2, r3, r4, r5⟩ := ap2.s hW
  unfold Wl
  rw [e1]
  generalize j / fc (trd F m q) = i at dj ⊢
  have ec : ctF (trd F (c * m) (c * q)) i = ctF (trd F m q) i := by
    unfold ctF; rw [trd_n (by omega), trd_n (by omega), trd_n (by omega), trd_n (by omega)]
  rw [ec, trd_0.1, trd_0.2, trd_0.1, trd_0.2]
  generalize ctF (trd F m q) i = p
  obtain ⟨e, k⟩ := p
  generalize (if j % fc (trd F m q) = 0 then (1 : Int) else -1) = s
  unfold wf
  rw [r2, r3, s2, s3, show -(c * q) * ay F e + s * (c * m * ax F e) = c * (-q * ay F e + s * (m * ax F e)) by grind, show c * q * ax F e + s * (c * m * ay F e) = c * (q * ax F e + s * (m * ay F e)) by grind, wr_mul hc]
  unfold wr
  rw [r4, r5, s4, s5, trd_n (by omega), trd_n (by omega), trd_n (by omega), trd_n (by omega)]
theorem trd_rI (hW : Wc F) (hN : Wn F) {a b : Nat} (ha : a < 4) (hb : b < 4) (h1 : 1 ≤ b) (h : firmF (trd F a b)) : firmF (trd F (rM (rI a b) : Nat) (rQ (rI a b) : Nat)) := by
  obtain ⟨c0, c1, c2⟩ := rI_c a ha b hb h1
  refine trd_mul (c := rC a b) hW hN (by omega) ?_
  rw [← Int.natCast_mul, ← Int.natCast_mul, ← c1, ← c2]; exact h
/-- what rough has found among the treads of S -/
def roI (F : Nat → Int) (S : Nat → Nat → Prop) (x : Int × Int) : Prop := (x.1 = -1 ∧ ∀ a b, S a b → ¬ firmF (trd F (a : Nat) (b : Nat))) ∨ ∃ m q : Nat, x = ((m : Int), (q : Int)) ∧ m < 4 ∧ q < 4 ∧ 1 ≤ q ∧ firmF (trd F (m : Nat) (q : Nat)) ∧ ∀ a b, S a b → firmF (trd F (a : Nat) (b : Nat)) → m * b ≤ a * q
theorem roI_s {S : Nat → Nat → Prop} {x : Int × Int} (h : roI F S x) {a b : Nat} (ha : a < 4) (hb : b < 4) (h1 : 1 ≤ b) : roI F (fun c d => S c d ∨ (c = a ∧ d = b)) (roS F a b x) := by
  obtain ⟨u, v⟩ := x
  unfold roS
  dsimp only
  by_cases q : u ≠ -1 ∧ u * (b : Int) ≤ (a : Int) * v
  · rw [if_pos q]
    rcases h with ⟨z, -⟩ | ⟨m, n, z, z1, z2, z3, z4, z5⟩
    · exact absurd z q.1
    · injection z with za zb
      subst za; subst zb
      refine Or.inr ⟨m, n, rfl, z1, z2, z3, z4, fun c d hS hf => ?_⟩
      rcases hS with hS | ⟨rfl, rfl⟩
      · exact z5 c d hS hf
      · have := q.2
        rw [← Int.natCast_mul, ← Int.natCast_mul] at this; omega
  · rw [if_neg q]
    by_cases f : firmF (trd F (a : Nat) (b : Nat))
    · rw [ic_t f]
      refine Or.inr ⟨a, b, rfl, ha, hb, h1, f, fun c d hS hf => ?_⟩
      rcases hS with hS | ⟨rfl, rfl⟩
      · rcases h with ⟨z, z0⟩ | ⟨m, n, z, z1, z2, z3, z4, z5⟩
        · exact absurd hf (z0 c d hS)
        · injection z with za zb
          subst za; subst zb
          have k1 := z5 c d hS hf
          have k2 : a * n < m * b := by
            apply Classical.byContradiction
            intro y
            refine q ⟨by omega, ?_⟩
            rw [← Int.natCast_mul, ← Int.natCast_mul]; omega
          have k3 : a * n * d ≤ m * b * d := Nat.mul_le_mul_right d (Nat.le_of_lt k2)
          have k4 : m * d * b ≤ c * n * b := Nat.mul_le_mul_right b k1
          have k5 : n * (a * d) ≤ n * (c * b) := by
            calc n * (a * d) = a * n * d := by grind
              _ ≤ m * b * d := k3
              _ = m * d * b := by grind
              _ ≤ c * n * b := k4
              _ = n * (c * b) := by grind
          exact Nat.le_of_mul_le_mul_left k5 (by omega)
      · exact Nat.le_refl _
    · rw [ic_f f]
      rcases h with ⟨z, z0⟩ | ⟨m, n, z, z1, z2, z3, z4, z5⟩
      · refine Or.inl ⟨z, fun c d hS => ?_⟩
        rcases hS with hS | ⟨rfl, rfl⟩
        · exact z0 c d hS
        · exact f
      · refine Or.inr ⟨m, n, z, z1, z2, z3, z4, fun c d hS hf => ?_⟩
        rcases hS with hS | ⟨rfl, rfl⟩
        · exact z5 c d hS hf
        · exact absurd hf f
theorem roI_c {S T : Nat → Nat → Prop} {x : Int × Int} (h : roI F S x) (g : ∀ a b, T a b → S a b) : roI F T x := by
  rcases h with ⟨z, z0⟩ | ⟨m, n, z, z1, z2, z3, z4, z5⟩
  · exact Or.inl ⟨z, fun a b t => z0 a b (g a b t)⟩
  · exact Or.inr ⟨m, n, z, z1, z2, z3, z4, fun a b t => z5 a b (g a b t)⟩
theorem roAll_I : roI F (fun a b => a < 4 ∧ 1 ≤ b ∧ b < 4) (roAll F) := by
  have := forN_I (f := fun a x => forN (roS F a) 1 3 x) (P := fun a x => roI F (fun c d => c < a ∧ 1 ≤ d ∧ d < 4) x) 4 0 (-1, 1) (fun a x h1 h2 hI => ?_) (Or.inl ⟨rfl, fun a b z => absurd z.1 (Nat.not_lt_zero a)⟩)
  · exact this
  · have := forN_I (f := roS F a) (P := fun b x => roI F (fun c d => (c < a ∧ 1 ≤ d ∧ d < 4) ∨ (c = a ∧ 1 ≤ d ∧ d < b)) x) 3 1 x (fun b x h3 h4 hI2 => ?_) (roI_c hI (fun c d z => by omega))
    · exact roI_c this (fun c d z => by omega)
    · exact roI_c (roI_s hI2 (a := a) (b := b) (by omega) (by omega) h3) (fun c d z => by omega)
/-- the first firm tread in the rising list -/
def ltI (F : Nat → Int) (r : Nat) : Prop := ∀ i, i < r → ¬ firmF (trd F (rM i : Nat) (rQ i : Nat))
theorem rM_b : ∀ i, i < 8 → rM i < 4 ∧ 1 ≤ rQ i ∧ rQ i < 4 := by decide
theorem rough_no (h : ltI F 8) (hW : Wc F) (hN : Wn F) : (roAll F).1 = -1 := by
  rcases roAll_I (F := F) with ⟨z, -⟩ | ⟨m, n, z, z1, z2, z3, z4, z5⟩
  · exact z
  · exact absurd (trd_rI hW hN z1 z2 z3 z4) (h _ (rI_8 m z1 n z2))
theorem rough_yes {r : Nat} (hr : r < 8) (h : ltI F r) (hf : firmF (trd F (rM r : Nat) (rQ r : Nat))) (hW : Wc F) (hN : Wn F) : (roAll F).1 ≠ -1 ∧ lox (roAll F).1 (roAll F).2 = (rM r : Nat) ∧ loy (roAll F).1 (roAll F).2 = (rQ r : Nat) := by
  obtain ⟨b1, b2, b3⟩ := rM_b r hr
  rcases roAll_I (F := F) with ⟨-, z⟩ | ⟨m, n, z, z1, z2, z3, z4, z5⟩
  · exact absurd hf (z _ _ ⟨b1, b2, b3⟩)
  · have k3 := rI_l z1 z2 z3
    have k4 := rI_le m z1 n z2 r hr z3 (z5 _ _ ⟨b1, b2, b3⟩ hf)
    have k5 : rI m n = r := by
      apply Classical.byContradiction
      intro q
      exact h _ (by omega) (trd_rI hW hN z1 z2 z3 z4)
    rw [k5] at k3
    obtain ⟨k6, k7⟩ := k3
    rw [z]
    exact ⟨by dsimp only; omega, k6, k7⟩
theorem sp_leastTread {Q : Int32 → gj_I → gj_J → Prop} (hE : Tbr E) (hC : NS3 F SI) (hF : WF F) (h : ∀ SI' SJ' (r : Int), FI LI66 SI SI' → FJ LJ66 SJ SJ' → (r = -1 ∧ ltI F 8 ∨ ∃ n : Nat, r = n ∧ n < 8 ∧ ltI F n ∧ firmF (trd F (rM n : Nat) (rQ n : Nat))) → Q (i3 r) SI' SJ') : DoI E 90 [(.ref 65), (.ref 3)] SI SJ Q := by
  obtain ⟨hX, hD, ⟨f5, fe, f6, f7, f8, f9⟩, -, -⟩ := hC
  obtain ⟨hW, hT, hN, -, -, -⟩ := hF
  have n6 := hN.2.1
  have n0 := hN.1
  refine st_90 SI SJ ?_
  refine up_lp (α := Unit) (P := fun i _ A B => FI LI66 SI A ∧ FJ LJ66 SJ B ∧ ltI F i) (G := fun i _ A B => GoI E mt_90 2 [some (.ref 65), some (.ref 3), some (.int (i3 (i : Nat))), none] A B Q) 8 ?_ ?_ 0 () SI SJ (by omega) ⟨FI.rf, FJ.rf, fun i hi => absurd hi (Nat.not_lt_zero i)⟩
  · rintro _ A B ⟨g1, g2, g3⟩
    refine lp_90_2 _ A B ⟨fun _ => h A B _ g1 g2 (Or.inl ⟨rfl, g3⟩), fun c => absurd (by decide) c⟩
  · rintro r _ A B hr ⟨g1, g2, g3⟩ ih
    obtain ⟨b1, b2, b3⟩ := rM_b r hr
    obtain ⟨t1, t2⟩ := hE r hr
    refine lp_90_2 _ A B ⟨fun c => ?_, fun _ => ⟨fun c => ?_, fun _ => sp_clear66 ?_⟩⟩
    · rw [i3_le (by omega) (by omega) (by omega) (by omega)] at c; omega
    · rw [i3_le (by omega) (by omega) (by omega) (by omega)] at c; omega
    have ap : Ap F (trd F (rM r : Nat) (rQ r : Nat)) := fun k hk => trd_n (by omega)
    have hT2 := Wt_trd hT (m := (rM r : Nat)) (q := (rQ r : Nat)) (by omega) (by omega)
    have hN2 := Wn_trd hW.1 hN (rM r : Nat) (rQ r : Nat)
    have hW2 := ap.p hW
    have k17 : trd F (rM r : Nat) (rQ r : Nat) 17 = F 17 := trd_n (by omega)
    have k32 : trd F (rM r : Nat) (rQ r : Nat) 32 = F 32 := trd_n (by omega)
    have k33 : trd F (rM r : Nat) (rQ r : Nat) 33 = F 33 := trd_n (by omega)
    have k18 : ∀ i : Nat, (i : Int) < F 17 → trd F (rM r : Nat) (rQ r : Nat) (18 + i) = F (18 + i) := fun i hi => trd_n (by omega)
    have k24 : ∀ i : Nat, (i : Int) < F 17 → trd F (rM r : Nat) (rQ r : Nat) (24 + i) = F (24 + i) := fun i hi => trd_n (by omega)
    obtain ⟨k30, k31⟩ := trd_0 (F := F) (m := (rM r : Nat)) (q := (rQ r : Nat))
    have hfi : ∀ r2 A2 B2, FI LI66 SI A2 → FJ LJ66 SJ B2 → r2 = ibc (firmF (trd F (rM r : Nat) (rQ r : Nat))) → (r2 = 0 → GoI E mt_90 2 [some (.ref 65), some (.ref 3), some (.int (i3 (r : Nat) + (i3 1))), none] A2 B2 Q) ∧ (¬ r2 = 0 → Q (i3 (r : Nat)) A2 B2) := by
      rintro _ A2 B2 l1 l2 rfl
      rw [i3_add]
      refine ⟨fun y => ?_, fun y => ?_⟩
      · rw [ibc_0] at y
        refine ih () A2 B2 ⟨l1, l2, fun i hi => ?_⟩
        by_cases q : i = r
        · rw [q]; exact y
        · exact g3 i (by omega)
      · rw [ibc_0, Classical.not_not] at y
        exact h A2 B2 _ l1 l2 (Or.inr ⟨r, rfl, hr, g3, y⟩)
    obtain ⟨G, hG⟩ : ∃ G, trd F (rM r : Nat) (rQ r : Nat) = G := ⟨_, rfl⟩
    rw [hG] at ap hT2 hN2 hW2 k17 k30 k31 k32 k33 k18 k24 hfi
    have en : F 17 = nf G := by unfold nf; rw [k17]; omega
    have hXG := hX.ap ap hW.1
    have hDG := hD.ap ap hW.1
    clear ih h
    refine up_lp (α := Unit) (P := fun i _ A' B' => FI LI66 SI A' ∧ FJ LJ66 SJ B' ∧ LB66 (Wl G (ctF G)) (fun j => (fun t : Nat => (t : Int)) (j / fc G)) (i * fc G) A' B') (G := fun i _ A' B' => GoI E mt_90 27 [some (.ref 65), some (.ref 3), some (.int (i3 (r : Nat))), some (.int (i3 (i : Nat)))] A' B' Q) (nf G) ?_ ?_ 0 () _ B (by omega) ⟨g1.u (Or.inr (Or.inr (Or.inr ⟨rfl, rfl⟩))), g2, ⟨by rw [u2_s, Nat.zero_mul]; rfl, fun j hj => by rw [Nat.zero_mul] at hj; exact absurd hj (Nat.not_lt_zero j)⟩⟩
    · rintro _ A' B' ⟨d1, d2, d3⟩
      have e5 : A' 3 5 = i3 (F 17) := by rw [d1 3 5 (by unfold LI66; omega)]; exact f5
      refine lp_90_27 _ _ A' B' ⟨fun _ => sp_firm66 hW2 hT2 hN2 d3 (fun A2 B2 l1 l2 => hfi _ A2 B2 (d1.tr (ib66 l1)) (d2.tr (jb66 l2)) rfl), fun c => ?_⟩
      rw [e5, en, i3_le (by omega) (by omega) (by omega) (by omega)] at c; omega
    · rintro i _ A' B' hi ⟨d1, d2, d3⟩ ih
      have ga : ∀ o k, ¬ LI66 o k → A' o k = SI o k := d1
      have e5 : A' 3 5 = i3 (F 17) := by rw [ga 3 5 (by unfold LI66; omega)]; exact f5
      have hXA : PX4 G A' := hXG.f d1 (by unfold LI66; exact ⟨by omega, fun k => by omega⟩)
      have hDA : PD4 G A' := hDG.f d1 (by unfold LI66; exact ⟨by omega, fun k => by omega⟩)
      obtain ⟨c1, c2, c3, c4⟩ := hN2.c hW2.1 (i := i) hi
      obtain ⟨w1, w2, w3, w4⟩ := hN2.2.2 i (by omega)
      obtain ⟨s1, s2⟩ := fe i (by omega)
      have a12 : A' 12 i = i3 (F (18 + i)) := by rw [ga 12 i (by unfold LI66; omega)]; exact s1
      have a13 : A' 13 i = i3 (F (24 + i)) := by rw [ga 13 i (by unfold LI66; omega)]; exact s2
      have a8 : A' 3 8 = i3 (G 32) := by rw [ga 3 8 (by unfold LI66; omega), k32]; exact f8
      have a9 : A' 3 9 = i3 (G 33) := by rw [ga 3 9 (by unfold LI66; omega), k33]; exact f9
      have e18 := k18 i (by omega)
      have e24 := k24 i (by omega)
      refine lp_90_27 _ _ A' B' ⟨fun c => ?_, fun c => ?_⟩
      · rw [e5, en, i3_le (by omega) (by omega) (by omega) (by omega)] at c; omega
      · rw [i3_in (by omega) (by omega), i3_in (by omega) (by omega), i3_n (by omega) (by omega), i3_n (by omega) (by omega), show ((i : Nat) : Int).toNat = i by omega, show ((r : Nat) : Int).toNat = r by omega, i3_add, a12, a13, t1, t2, ← e18, ← e24]
        refine ⟨by omega, by omega, sp_press66 (ct := ctF G) (O := fun t : Nat => (t : Int)) hXA hDA hW2 hT2 a8 a9 i c1 ⟨w3, w4⟩ (by omega) d3 rfl (i3_c c4) rfl (by rw [k30]) (by rw [k31]) (fun A2 B2 k1 k2 k3 => ih () A2 B2 ⟨d1.tr (ia66 k1), d2.tr (ja66 k2), k3⟩)⟩
theorem sp_roughC {Q : Int32 → gj_I → gj_J → Prop} {a : Int32} (hE : Tbr E) (hC : CNT F SI SJ) (hF : WF F) (w : Int) (wr : -2147483648 ≤ w ∧ w < 2147483648) (ha : a = i3 w) (h : ∀ SI' SJ', FI LCI SI SI' → FJ LCJ SJ SJ' → CNT F SI' SJ' → Q (i3 (roughA F w)) SI' SJ') : DoI E 132 [(.ref 0), (.int a)] SI SJ Q := by
  subst ha
  have bad : ¬ (0 ≤ w ∧ w ≤ 1) → Q (i3 (-1)) SI SJ := by
    intro z
    have e : roughA F w = -1 := if_neg z
    have hh := h SI SJ FI.rf FJ.rf hC
    rw [e] at hh; exact hh
  refine st_132 _ SI SJ ?_
  rw [i3_lt0 (by omega) (by omega), i3_le (by omega) (by omega) (by omega) (by omega)]
  refine ⟨fun c => bad (by omega), fun c1 => ⟨fun c2 => ?_, fun c => bad (by omega)⟩⟩
  have e : roughA F w = (if (roAll F).1 = -1 then -2 else if w = 0 then lox (roAll F).1 (roAll F).2 else loy (roAll F).1 (roAll F).2) := if_pos (by omega)
  rw [e] at h
  refine sp_leastTread hE hC.1 hF (fun A B r f1 f2 hr => ?_)
  have hh := h A B (LI66_C f1) (LJ66_C f2) (hC.t f1 f2)
  rcases hr with ⟨rfl, z⟩ | ⟨n, rfl, n8, z1, z2⟩
  · rw [if_pos (rough_no z hF.1.1 hF.2.2.1)] at hh
    refine ⟨fun _ => hh, fun c => absurd (by decide) c⟩
  · obtain ⟨y1, y2, y3⟩ := rough_yes n8 z1 z2 hF.1.1 hF.2.2.1
    obtain ⟨t1, t2⟩ := hE n n8
    rw [if_neg y1, y2, y3] at hh
    rw [i3_lt0 (by omega) (by omega), i3_lt (by omega) (by omega) (by omega) (by omega), i3_in (by omega) (by omega), i3_n (by omega) (by omega), show ((n : Nat) : Int).toNat = n by omega, t1, t2, i3_eq0 (by omega) (by omega)]
    refine ⟨fun c => by omega, fun _ => ⟨fun _ => ⟨fun q => ⟨by omega, ?_⟩, fun q => ⟨by omega, ?_⟩⟩, fun c => by omega⟩⟩
    · rw [if_neg q] at hh; exact hh
    · rw [if_pos q] at hh; exact hh
end RoughC
