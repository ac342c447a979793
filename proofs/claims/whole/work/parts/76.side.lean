/-! 76: sides: the reference -/
def sub3 (a b : V3) : V3 := (a.1 - b.1, a.2.1 - b.2.1, a.2.2 - b.2.2)
/-- the plane through three -/
def pn3 (a b c : V3) : V3 := crs (sub3 b a) (sub3 c a)
def Pc (p : V3) : Prop := p.1.natAbs ≤ 600000 ∧ p.2.1.natAbs ≤ 600000 ∧ p.2.2.natAbs ≤ 30000
def sz3 (p : V3) : Int := (p.1.natAbs : Int) + (p.2.1.natAbs : Int) + (p.2.2.natAbs : Int)
/-- turned so that it makes no less than 0 with w -/
def up3 (p w : V3) : V3 := if dot p w < 0 then neg3 p else p
noncomputable def sdP (W : Nat → V3) (n i j k : Nat) : Option V3 := ic (pn3 (W i) (W j) (W k) = (0, 0, 0) ∨ dot (up3 (low3 (pn3 (W i) (W j) (W k))) (W i)) (W i) = 0 ∨ ∃ q, q < n ∧ dot (up3 (low3 (pn3 (W i) (W j) (W k))) (W i)) (W i) < dot (up3 (low3 (pn3 (W i) (W j) (W k))) (W i)) (W q)) none (some (up3 (low3 (pn3 (W i) (W j) (W k))) (W i)))
theorem sub_b {x y : Int} {m n : Nat} (hx : x.natAbs ≤ m) (hy : y.natAbs ≤ n) : (x - y).natAbs ≤ m + n := by omega
theorem pn3_b {W : Nat → V3} {n i j k : Nat} (hB : Wb W n) (hi : i < n) (hj : j < n) (hk : k < n) : Pc (pn3 (W i) (W j) (W k)) := by
  obtain ⟨a1, a2, a3⟩ := hB i hi
  obtain ⟨b1, b2, b3⟩ := hB j hj
  obtain ⟨d1, d2, d3⟩ := hB k hk
  have e1 := sub_b b1 a1; have e2 := sub_b b2 a2; have e3 := sub_b b3 a3
  have g1 := sub_b d1 a1; have g2 := sub_b d2 a2; have g3 := sub_b d3 a3
  exact ⟨Nat.le_trans (sub_b (mul_b e2 g3) (mul_b e3 g2)) (by decide), Nat.le_trans (sub_b (mul_b e3 g1) (mul_b e1 g3)) (by decide), Nat.le_trans (sub_b (mul_b e1 g2) (mul_b e2 g1)) (by decide)⟩
theorem Pc_low {p : V3} (h : Pc p) : Pc (low3 p) := by
  obtain ⟨h1, h2, h3⟩ := h
  unfold low3; split
  · exact ⟨h1, h2, h3⟩
  · have a := tdiv_b p.1 (gcd3 p); have b := tdiv_b p.2.1 (gcd3 p); have c := tdiv_b p.2.2 (gcd3 p)
    unfold Pc; dsimp only; omega
theorem Pc_up {p w : V3} (h : Pc p) : Pc (up3 p w) := by
  obtain ⟨h1, h2, h3⟩ := h
  unfold up3; split
  · unfold Pc neg3; dsimp only; omega
  · exact ⟨h1, h2, h3⟩
theorem Pc_dot {W : Nat → V3} {n k : Nat} {p : V3} (h : Wb W n) (hk : k < n) (hp : Pc p) : (dot p (W k)).natAbs ≤ 110000000 := by
  obtain ⟨a1, a2, a3⟩ := h k hk
  obtain ⟨b1, b2, b3⟩ := hp
  have h1 := mul_b b1 a1; have h2 := mul_b b2 a2; have h3 := mul_b b3 a3
  unfold dot; omega
theorem Pc_gcd {p : V3} (h : Pc p) : gcd3 p ≤ 600000 ∧ Int.gcd p.1 p.2.1 ≤ 600000 := by
  obtain ⟨h1, h2, h3⟩ := h
  have e1 : Int.gcd p.1 p.2.1 ≤ 600000 := by
    by_cases q : p.1 = 0 ∧ p.2.1 = 0
    · rw [q.1, q.2]; decide
    · exact gcd_le q h1 h2
  refine ⟨?_, e1⟩
  unfold gcd3
  by_cases q : ((Int.gcd p.1 p.2.1 : Nat) : Int) = 0 ∧ p.2.2 = 0
  · rw [q.1, q.2]; decide
  · exact gcd_le q (by omega) (by omega)
def LJp (o k : Nat) : Prop := o = 81 ∧ (k = 9 ∨ k = 10 ∨ k = 11 ∨ k = 38)
section Side
variable {E : gj_E} {SI : gj_I} {SJ : gj_J} {F : Nat → Int} {W : Nat → V3} {O : Nat → Int} {n : Nat}
theorem sp_isNothing2 {Q : Int32 → gj_I → gj_J → Prop} {p : V3} (hP : PS p SJ) (hb : Pc p) (h : Q (ibc (p = (0, 0, 0))) SI SJ) : DoI E 188 [(.ref 81)] SI SJ Q := by
  obtain ⟨h1, h2, h3⟩ := hP
  obtain ⟨b1, b2, b3⟩ := hb
  refine st_188 SI SJ ?_
  rw [h1, h2, h3, i6_eq (by omega) (by omega) (by omega) (by omega), i6_eq (by omega) (by omega) (by omega) (by omega), i6_eq (by omega) (by omega) (by omega) (by omega)]
  refine ⟨fun c => ?_, fun c => ⟨fun c2 => ?_, fun c2 => ⟨fun c3 => ?_, fun c3 => ?_⟩⟩⟩
  · rw [ibc_f (fun z => c (by rw [z]))] at h; exact h
  · rw [ibc_f (fun z => c2 (by rw [z]))] at h; exact h
  · rw [ibc_f (fun z => c3 (by rw [z]))] at h; exact h
  · rw [ibc_t (show p = (0, 0, 0) by obtain ⟨p1, p2, p3⟩ := p; simp only at c c2 c3; rw [c, c2, c3])] at h; exact h
theorem sp_lowers2 {Q : gj_I → gj_J → Prop} {p : V3} (hP : PS p SJ) (hb : Pc p) (h : ∀ SJ', FJ LPx SJ SJ' → PS (low3 p) SJ' → Q SI SJ') : DoV E 189 [(.ref 81)] SI SJ Q := by
  obtain ⟨s1, s2, s3⟩ := hP
  have gb := Pc_gcd hb
  obtain ⟨b1, b2, b3⟩ := hb
  refine st_189 SI SJ ?_
  rw [s1, s2]
  refine sp_common (by omega) (by omega) (by omega) (by omega) ?_
  rw [s3]
  refine sp_common (by omega) (by omega) (by omega) (by omega) ?_
  have eg : Int.gcd ((Int.gcd p.1 p.2.1 : Nat) : Int) p.2.2 = gcd3 p := rfl
  rw [eg, s1, s2, s3, i6_eq (by omega) (by omega) (by omega) (by omega), i6_eq0 (by omega) (by omega)]
  refine ⟨fun c => ⟨c, ?_⟩, fun c => ?_⟩
  · have e : low3 p = (p.1.tdiv (gcd3 p), p.2.1.tdiv (gcd3 p), p.2.2.tdiv (gcd3 p)) := if_neg (by omega)
    rw [e] at h
    rw [i6_div (by omega) (by omega) (by omega) (by omega), i6_div (by omega) (by omega) (by omega) (by omega), i6_div (by omega) (by omega) (by omega) (by omega)]
    refine h _ (((FJ.rf.w ⟨rfl, Or.inl rfl⟩).w ⟨rfl, Or.inr (Or.inl rfl)⟩).w ⟨rfl, Or.inr (Or.inr rfl)⟩) ⟨?_, ?_, ?_⟩
    · rw [w2_n (by omega), w2_n (by omega), w2_s]
    · rw [w2_n (by omega), w2_s]
    · rw [w2_s]
  · have e : low3 p = p := if_pos (by omega)
    rw [e] at h
    exact h SJ FJ.rf ⟨s1, s2, s3⟩
theorem PS.fj {p : V3} {L : Nat → Nat → Prop} {SJ' : gj_J} (h : PS p SJ) (hf : FJ L SJ SJ') (hl : ¬ L 81 9 ∧ ¬ L 81 10 ∧ ¬ L 81 11) : PS p SJ' := by
  unfold PS; rw [hf 81 9 hl.1, hf 81 10 hl.2.1, hf 81 11 hl.2.2]; exact h
theorem sp_findsSide {Q : Int32 → gj_I → gj_J → Prop} {a b c : Int32} (hL : LW W O n SI SJ) (hn : n ≤ 14) (hB : Wb W n) (i j k : Nat) (hi : i < n) (hj : j < n) (hk : k < n) (ha : a = i3 i) (hb : b = i3 j) (hc : c = i3 k) (h : ∀ SJ', FJ LJp SJ SJ' → (∀ p, sdP W n i j k = some p → PS p SJ' ∧ SJ' 81 38 = i6 (dot p (W i))) → Q (ibc ((sdP W n i j k).isSome = true)) SI SJ') : DoI E 249 [(.ref 81), (.int a), (.int b), (.int c)] SI SJ Q := by
  subst ha; subst hb; subst hc
  obtain ⟨x1, x2, x3, -⟩ := hL.2 i hi
  obtain ⟨y1, y2, y3, -⟩ := hL.2 j hj
  obtain ⟨z1, z2, z3, -⟩ := hL.2 k hk
  have pc := pn3_b hB hi hj hk
  have bad : ∀ B, FJ LJp SJ B → (pn3 (W i) (W j) (W k) = (0, 0, 0) ∨ dot (up3 (low3 (pn3 (W i) (W j) (W k))) (W i)) (W i) = 0 ∨ ∃ q, q < n ∧ dot (up3 (low3 (pn3 (W i) (W j) (W k))) (W i)) (W i) < dot (up3 (low3 (pn3 (W i) (W j) (W k))) (W i)) (W q)) → Q (i3 0) SI B := by
    intro B f z
    have e : sdP W n i j k = none := ic_t z
    have hh := h B f
    rw [e, ibc_no] at hh
    exact hh (fun p hp => by cases hp)
  refine st_249 _ _ _ SI SJ ?_
  rw [i3_in (by omega) (by omega), i3_in (by omega) (by omega), i3_in (by omega) (by omega), i3_n (by omega) (by omega), i3_n (by omega) (by omega), i3_n (by omega) (by omega), show ((i : Nat) : Int).toNat = i by omega, show ((j : Nat) : Int).toNat = j by omega, show ((k : Nat) : Int).toNat = k by omega, x1, x2, x3, y1, y2, y3, z1, z2, z3]
  simp only [i6_sub, i6_mul]
  refine ⟨by omega, by omega, by omega, ?_⟩
  have hP0 : PS (pn3 (W i) (W j) (W k)) (gj_w2 (gj_w2 (gj_w2 SJ 81 9 (i6 (pn3 (W i) (W j) (W k)).1)) 81 10 (i6 (pn3 (W i) (W j) (W k)).2.1)) 81 11 (i6 (pn3 (W i) (W j) (W k)).2.2)) := ⟨by rw [w2_n (by omega), w2_n (by omega), w2_s], by rw [w2_n (by omega), w2_s], by rw [w2_s]⟩
  have f0 : FJ LPx SJ (gj_w2 (gj_w2 (gj_w2 SJ 81 9 (i6 (pn3 (W i) (W j) (W k)).1)) 81 10 (i6 (pn3 (W i) (W j) (W k)).2.1)) 81 11 (i6 (pn3 (W i) (W j) (W k)).2.2)) := ((FJ.rf.w ⟨rfl, Or.inl rfl⟩).w ⟨rfl, Or.inr (Or.inl rfl)⟩).w ⟨rfl, Or.inr (Or.inr rfl)⟩
  have pj : ∀ A B, FJ LPx A B → FJ LJp A B := fun A B z => z.le (fun o k y => by unfold LPx at y; unfold LJp; omega)
  refine sp_isNothing2 hP0 pc ⟨fun c0 => ?_, fun c0 => ?_⟩
  · rw [ibc_0] at c0
    refine sp_lowers2 hP0 pc (fun B1 f1 hP1 => ?_)
    have pl := Pc_low pc
    have pd := Pc_dot hB hi pl
    have f01 := f0.tr f1
    have hL1 := hL.f f01
    -- behind the turn
    have rest : ∀ B2, FJ LPx SJ B2 → PS (up3 (low3 (pn3 (W i) (W j) (W k))) (W i)) B2 → DoL E 191 [(.ref 81), (.int (i3 (i : Int)))] SI B2 (fun r7 SI8 SJ8 => (¬ r7 = (i6 0) → GoI E mt_249 185 [some (.ref 81), none, none, none, none, none, none, none, none, none, none, none, none, none, none, none, some (.int (i3 0))] SI8 (gj_w2 SJ8 81 38 r7) Q) ∧ (r7 = (i6 0) → Q (i3 0) SI8 (gj_w2 SJ8 81 38 r7))) := by
      intro B2 f2 hP2
      have hL2 := hL.f f2
      have pu := Pc_up (w := W i) pl
      have bad2 := bad
      have pdu := Pc_dot hB hi pu
      refine sp_makes hL2 (by omega) hP2 i hi rfl ?_
      rw [i6_eq (by omega) (by omega) (by omega) (by omega)]
      have f38 : FJ LJp SJ (gj_w2 B2 81 38 (i6 (dot (up3 (low3 (pn3 (W i) (W j) (W k))) (W i)) (W i)))) := (pj _ _ f2).w ⟨rfl, Or.inr (Or.inr (Or.inr rfl))⟩
      refine ⟨fun c1 => ?_, fun c1 => bad _ f38 (Or.inr (Or.inl c1))⟩
      have hP3 : PS (up3 (low3 (pn3 (W i) (W j) (W k))) (W i)) (gj_w2 B2 81 38 (i6 (dot (up3 (low3 (pn3 (W i) (W j) (W k))) (W i)) (W i)))) := hP2.fj (L := fun o k => o = 81 ∧ k = 38) (FJ.rf.w ⟨rfl, rfl⟩) (by omega)
      have hL3 : LW W O n SI (gj_w2 B2 81 38 (i6 (dot (up3 (low3 (pn3 (W i) (W j) (W k))) (W i)) (W i)))) := hL2.fs (L := fun o k => o = 81 ∧ k = 38) (FJ.rf.w ⟨rfl, rfl⟩) (fun k => by omega)
      have e38 : (gj_w2 B2 81 38 (i6 (dot (up3 (low3 (pn3 (W i) (W j) (W k))) (W i)) (W i)))) 81 38 = i6 (dot (up3 (low3 (pn3 (W i) (W j) (W k))) (W i)) (W i)) := w2_s
      generalize gj_w2 B2 81 38 (i6 (dot (up3 (low3 (pn3 (W i) (W j) (W k))) (W i)) (W i))) = B3 at *
      refine up_lp (α := Unit) (P := fun m _ A B => A = SI ∧ B = B3 ∧ ∀ q, q < m → dot (up3 (low3 (pn3 (W i) (W j) (W k))) (W i)) (W q) ≤ dot (up3 (low3 (pn3 (W i) (W j) (W k))) (W i)) (W i)) (G := fun m _ A B => GoI E mt_249 185 [some (.ref 81), none, none, none, none, none, none, none, none, none, none, none, none, none, none, none, some (.int (i3 m))] A B Q) n ?_ ?_ 0 () SI B3 (by omega) ⟨rfl, rfl, fun q hq => by omega⟩
      · rintro _ A B ⟨rfl, rfl, hq⟩
        refine lp_249_185 _ A B ⟨fun _ => ?_, fun y => ?_⟩
        · have e : sdP W n i j k = some (up3 (low3 (pn3 (W i) (W j) (W k))) (W i)) := ic_f (fun z => by
            rcases z with z | z | ⟨q, q1, q2⟩
            · exact c0 z
            · exact c1 z
            · have := hq q q1; omega)
          have hh := h B f38
          rw [e, ibc_sm] at hh
          exact hh (fun p hp => by cases hp; exact ⟨hP3, e38⟩)
        · rw [hL.1, i3_le (by omega) (by omega) (by omega) (by omega)] at y; omega
      · rintro m _ A B hm ⟨rfl, rfl, hq⟩ ih
        have pdm := Pc_dot hB hm pu
        refine lp_249_185 _ A B ⟨fun y => ?_, fun y => sp_makes hL3 (by omega) hP3 m hm rfl ?_⟩
        · rw [hL.1, i3_le (by omega) (by omega) (by omega) (by omega)] at y; omega
        · rw [e38, i6_le (by omega) (by omega) (by omega) (by omega), i3_add]
          refine ⟨fun y2 => ih () A B ⟨rfl, rfl, fun q hq2 => ?_⟩, fun y2 => bad B f38 (Or.inr (Or.inr ⟨m, hm, by omega⟩))⟩
          by_cases e : q = m
          · rw [e]; exact y2
          · exact hq q (by omega)
    refine sp_makes hL1 (by omega) hP1 i hi rfl ?_
    rw [ge_iff_le, i6_le (by omega) (by omega) (by omega) (by omega)]
    refine ⟨fun c1 => ?_, fun c1 => sp_turnsRow hP1 (fun B2 f2 hP2 => ?_)⟩
    · refine rest B1 f01 ?_
      have e : up3 (low3 (pn3 (W i) (W j) (W k))) (W i) = low3 (pn3 (W i) (W j) (W k)) := if_neg (by omega)
      rw [e]; exact hP1
    · refine rest B2 (f01.tr f2) ?_
      have e : up3 (low3 (pn3 (W i) (W j) (W k))) (W i) = neg3 (low3 (pn3 (W i) (W j) (W k))) := if_pos (by omega)
      rw [e]; exact hP2
  · rw [ibc_0, Classical.not_not] at c0
    exact bad _ (pj _ _ f0) (Or.inl c0)
end Side
