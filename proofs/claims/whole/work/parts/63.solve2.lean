/-! 63: the reference's solvesTwo, solvesThree, offers -/
section Solve2
variable {E : gj_E} {SI : gj_I} {SJ : gj_J} {W : Nat → V3} {O : Nat → Int} {n : Nat} {r : V3}
theorem sp_solvesTwo {Q : Int32 → gj_I → gj_J → Prop} (hL : LW W O n SI SJ) (hn : n ≤ 14) (hB : Wb W n) (hP : RPv r SJ) (hr : Rb r) (i j : Nat) (hi : i < n) (hj : j < n) (h93 : SI 93 0 = i3 i) (h931 : SI 93 1 = i3 j) (h : ∀ SJ', FJ LJs SJ SJ' → (ok2 W r i j → CH (cd2 W r i j) SI SJ' ∧ WC (cd2 W r i j)) → Q (ibc (ok2 W r i j)) SI SJ') : DoI E 224 [(.ref 81)] SI SJ Q := by
  refine st_224 SI SJ ?_
  rw [h93, h931]
  refine sp_crosses hL (by omega) i j hi hj rfl rfl (fun B f hPS => ?_)
  have fs : FJ LJs SJ B := f.le (fun o k z => by unfold LPx at z; unfold LJs; omega)
  have hpb := crs_b hB hi hj
  have hd := dot_r hpb hr
  have hP2 := hP.fs fs (by unfold LJs; omega)
  have hL2 := hL.f f
  refine sp_isNothing hPS hpb ⟨fun c => ?_, fun c => ?_⟩
  · rw [ibc_0, Classical.not_not] at c
    have := h B fs (fun z => absurd c z.1)
    rw [ibc_f (fun z => z.1 c)] at this; exact this
  · rw [ibc_0] at c
    obtain ⟨s1, s2, s3⟩ := hPS
    obtain ⟨q1, q2, q3⟩ := hP2
    obtain ⟨x1, x2, x3, -⟩ := hL2.2 i hi
    obtain ⟨y1, y2, y3, -⟩ := hL2.2 j hj
    obtain ⟨a1, a2, a3⟩ := hB i hi
    obtain ⟨b1, b2, b3⟩ := hB j hj
    obtain ⟨r1, r2, r3⟩ := hr
    have hpb2 := hpb
    obtain ⟨g1, g2, g3⟩ := hpb2
    rw [s1, s2, s3, q1, q2, q3]
    simp only [i6_mul, i6_add]
    have ed : (crs (W i) (W j)).1 * r.1 + (crs (W i) (W j)).2.1 * r.2.1 + (crs (W i) (W j)).2.2 * r.2.2 = dot (crs (W i) (W j)) r := rfl
    rw [ed, i6_eq (by omega) (by omega) (by omega) (by omega)]
    refine ⟨fun c2 => ?_, fun c2 => ?_⟩
    · have main : ∀ (l u v : Int) (z1 z2 z3 : Int64), raw2 (W i) (W j) r = (l, u, v) → l.natAbs ≤ 150000 → u.natAbs ≤ 400000000 → v.natAbs ≤ 400000000 → l ≠ 0 → z1 = i6 l → z2 = i6 u → z3 = i6 v → DoV E 222 [(.ref 81)] SI (gj_w2 (gj_w2 (gj_w2 B 81 24 z1) 92 0 z2) 92 1 z3) (fun SI6 SJ6 => ((SJ6 92 0) ≤ (i6 0) → Q (i3 0) SI6 SJ6) ∧ (¬ (SJ6 92 0) ≤ (i6 0) → ((SJ6 92 1) ≤ (i6 0) → Q (i3 0) SI6 SJ6) ∧ (¬ (SJ6 92 1) ≤ (i6 0) → Q (i3 1) SI6 SJ6))) := by
        intro l u v z1 z2 z3 er lb ub vb l0 hz1 hz2 hz3
        subst hz1; subst hz2; subst hz3
        refine sp_straightens l (fun k => if k = 0 then u else v) (by omega) (by rw [w2_n (by omega), w2_n (by omega), w2_s]) (fun B2 f2 e1 e2 => ?_)
        have e3 := e2 0 (by omega) (by rw [w2_n (by omega), w2_s]; rfl)
        have e4 := e2 1 (by omega) (by rw [w2_s]; rfl)
        have f3 : FJ LJs SJ B2 := (fs.tr ((((FJ.rf.w (Or.inr ⟨rfl, Or.inr (Or.inr (Or.inr rfl))⟩)).w (Or.inl rfl)).w (Or.inl rfl)) : FJ LJs B _)).tr (f2.le (fun o k z => by unfold LJs; omega))
        rw [show (if (0 : Nat) = 0 then u else v) = u from rfl] at e3
        rw [show (if (1 : Nat) = 0 then u else v) = v from rfl] at e4
        have ec : cd2 W r i j = (2, (i, j, 0), (stn l u, stn l v, 0), stn l l) := by unfold cd2; rw [er]
        have hl := stn_l l0
        have hlb := stn_b (l := l) lb
        have hub := stn_b (l := l) ub
        have hvb := stn_b (l := l) vb
        have hh := h B2 f3
        unfold ok2 at hh
        rw [ec] at hh
        dsimp only at hh
        rw [e3, e4]
        generalize stn l u = a at *
        generalize stn l v = b at *
        generalize stn l l = m at *
        rw [i6_le (by omega) (by omega) (by omega) (by omega), i6_le (by omega) (by omega) (by omega) (by omega)]
        refine ⟨fun k => ?_, fun k => ⟨fun k2 => ?_, fun k2 => ?_⟩⟩
        · rw [ibc_f (fun z => by omega)] at hh; exact hh (fun z => by omega)
        · rw [ibc_f (fun z => by omega)] at hh; exact hh (fun z => by omega)
        · rw [ibc_t ⟨c, c2, by omega, by omega⟩] at hh
          refine hh (fun _ => ⟨⟨e1, fun k hk => ?_⟩, ⟨by dsimp only; omega, hl, by dsimp only; omega, fun k hk => ?_⟩⟩)
          · have : k = 0 ∨ k = 1 := by dsimp only at hk; omega
            rcases this with rfl | rfl
            · exact ⟨e3, h93⟩
            · exact ⟨e4, h931⟩
          · have : k = 0 ∨ k = 1 := by dsimp only at hk; omega
            rcases this with rfl | rfl
            · show 0 < a ∧ a ≤ 40000000000; omega
            · show 0 < b ∧ b ≤ 40000000000; omega
      rw [i6_eq (by omega) (by omega) (by omega) (by omega), i6_eq (by omega) (by omega) (by omega) (by omega), i3_in (by omega) (by omega), i3_in (by omega) (by omega), i3_n (by omega) (by omega), i3_n (by omega) (by omega), show ((i : Nat) : Int).toNat = i by omega, show ((j : Nat) : Int).toNat = j by omega, x1, x2, x3, y1, y2, y3]
      simp only [i6_mul, i6_sub]
      refine ⟨fun k => ⟨fun k2 => ⟨by omega, by omega, ?_⟩, fun k2 => ⟨by omega, by omega, ?_⟩⟩, fun k => ⟨by omega, by omega, ?_⟩⟩
      · have m1 := mul_b r2 b3; have m2 := mul_b r3 b2; have m3 := mul_b a2 r3; have m4 := mul_b a3 r2
        refine main _ _ _ _ _ _ (by unfold raw2; rw [if_pos k, if_pos k2]) g1 (by omega) (by omega) (fun z => c ?_) rfl rfl rfl
        generalize crs (W i) (W j) = p at *
        obtain ⟨p1, p2, p3⟩ := p
        simp only at k k2 z
        rw [k, k2, z]
      · have m1 := mul_b r3 b1; have m2 := mul_b r1 b3; have m3 := mul_b a3 r1; have m4 := mul_b a1 r3
        exact main _ _ _ _ _ _ (by unfold raw2; rw [if_pos k, if_neg k2]) g2 (by omega) (by omega) k2 rfl rfl rfl
      · have m1 := mul_b r1 b2; have m2 := mul_b r2 b1; have m3 := mul_b a1 r2; have m4 := mul_b a2 r1
        exact main _ _ _ _ _ _ (by unfold raw2; rw [if_neg k]) (by omega) (by omega) (by omega) k rfl rfl rfl
    · have := h B fs (fun z => absurd z.2.1 c2)
      rw [ibc_f (fun z => c2 z.2.1)] at this; exact this
theorem sp_solvesThree {Q : Int32 → gj_I → gj_J → Prop} (hL : LW W O n SI SJ) (hn : n ≤ 14) (hB : Wb W n) (hP : RPv r SJ) (hr : Rb r) (i j k : Nat) (hi : i < n) (hj : j < n) (hk : k < n) (h93 : SI 93 0 = i3 i) (h931 : SI 93 1 = i3 j) (h932 : SI 93 2 = i3 k) (h : ∀ SJ', FJ LJs SJ SJ' → (ok3 W r i j k → CH (cd3 W r i j k) SI SJ' ∧ WC (cd3 W r i j k)) → Q (ibc (ok3 W r i j k)) SI SJ') : DoI E 225 [(.ref 81)] SI SJ Q := by
  obtain ⟨x1, x2, x3, -⟩ := hL.2 i hi
  obtain ⟨y1, y2, y3, -⟩ := hL.2 j hj
  obtain ⟨z1, z2, z3, -⟩ := hL.2 k hk
  obtain ⟨p1, p2, p3⟩ := hP
  have eb : (det3 (W i) (W j) (W k)).natAbs ≤ 30000000 := by rw [det_dot, dot_com]; exact dot_b hB hi (crs_b hB hj hk)
  have eb1 : (det3 r (W j) (W k)).natAbs ≤ 40000000000 := by rw [det_dot, dot_com]; exact dot_r (crs_b hB hj hk) hr
  have eb2 : (det3 (W i) r (W k)).natAbs ≤ 40000000000 := by
    have e : det3 (W i) r (W k) = -dot (crs (W i) (W k)) r := by unfold det3 dot crs; dsimp only; grind
    have := dot_r (crs_b hB hi hk) hr
    rw [e]; omega
  have eb3 : (det3 (W i) (W j) r).natAbs ≤ 40000000000 := by
    have e : det3 (W i) (W j) r = dot (crs (W i) (W j)) r := by unfold det3 dot crs; dsimp only; grind
    rw [e]; exact dot_r (crs_b hB hi hj) hr
  refine st_225 SI SJ ?_
  rw [h93, h931, h932, i3_in (by omega) (by omega), i3_in (by omega) (by omega), i3_in (by omega) (by omega), i3_n (by omega) (by omega), i3_n (by omega) (by omega), i3_n (by omega) (by omega), show ((i : Nat) : Int).toNat = i by omega, show ((j : Nat) : Int).toNat = j by omega, show ((k : Nat) : Int).toNat = k by omega]
  refine ⟨by omega, by omega, by omega, sp_three (W i) (W j) (W k) x1 x2 x3 y1 y2 y3 z1 z2 z3 ?_⟩
  rw [i6_eq (by omega) (by omega) (by omega) (by omega)]
  refine ⟨fun c => ?_, fun c => ?_⟩
  · refine sp_three r (W j) (W k) p1 p2 p3 y1 y2 y3 z1 z2 z3 ?_
    refine sp_three (W i) r (W k) (by rw [w2_n (by omega)]; exact x1) (by rw [w2_n (by omega)]; exact x2) (by rw [w2_n (by omega)]; exact x3) (by rw [w2_n (by omega)]; exact p1) (by rw [w2_n (by omega)]; exact p2) (by rw [w2_n (by omega)]; exact p3) (by rw [w2_n (by omega)]; exact z1) (by rw [w2_n (by omega)]; exact z2) (by rw [w2_n (by omega)]; exact z3) ?_
    refine sp_three (W i) (W j) r (by rw [w2_n (by omega), w2_n (by omega)]; exact x1) (by rw [w2_n (by omega), w2_n (by omega)]; exact x2) (by rw [w2_n (by omega), w2_n (by omega)]; exact x3) (by rw [w2_n (by omega), w2_n (by omega)]; exact y1) (by rw [w2_n (by omega), w2_n (by omega)]; exact y2) (by rw [w2_n (by omega), w2_n (by omega)]; exact y3) (by rw [w2_n (by omega), w2_n (by omega)]; exact p1) (by rw [w2_n (by omega), w2_n (by omega)]; exact p2) (by rw [w2_n (by omega), w2_n (by omega)]; exact p3) ?_
    have ec : cd3 W r i j k = (3, (i, j, k), (stn (det3 (W i) (W j) (W k)) (det3 r (W j) (W k)), stn (det3 (W i) (W j) (W k)) (det3 (W i) r (W k)), stn (det3 (W i) (W j) (W k)) (det3 (W i) (W j) r)), stn (det3 (W i) (W j) (W k)) (det3 (W i) (W j) (W k))) := rfl
    unfold ok3 at h
    rw [ec] at h
    dsimp only at h
    generalize det3 (W i) (W j) (W k) = l at *
    generalize det3 r (W j) (W k) = u at *
    generalize det3 (W i) r (W k) = v at *
    generalize det3 (W i) (W j) r = w at *
    refine sp_straightens l (fun t => if t = 0 then u else if t = 1 then v else w) (by omega) (by rw [w2_n (by omega), w2_n (by omega), w2_n (by omega), w2_s]) (fun B2 f2 e1 e2 => ?_)
    have e3 := e2 0 (by omega) (by rw [w2_n (by omega), w2_n (by omega), w2_s]; rfl)
    have e4 := e2 1 (by omega) (by rw [w2_n (by omega), w2_s]; rfl)
    have e5 := e2 2 (by omega) (by rw [w2_s]; rfl)
    have f3 : FJ LJs SJ B2 := (((((FJ.rf.w (Or.inr ⟨rfl, Or.inr (Or.inr (Or.inr rfl))⟩)).w (Or.inl rfl)).w (Or.inl rfl)).w (Or.inl rfl)) : FJ LJs SJ _).tr (f2.le (fun o k z => by unfold LJs; omega))
    rw [show (if (0 : Nat) = 0 then u else if (0 : Nat) = 1 then v else w) = u from rfl] at e3
    rw [show (if (1 : Nat) = 0 then u else if (1 : Nat) = 1 then v else w) = v from rfl] at e4
    rw [show (if (2 : Nat) = 0 then u else if (2 : Nat) = 1 then v else w) = w from rfl] at e5
    have hl := stn_l c
    have hlb := stn_b (l := l) eb
    have hub := stn_b (l := l) eb1
    have hvb := stn_b (l := l) eb2
    have hwb := stn_b (l := l) eb3
    have hh := h B2 f3
    rw [e3, e4, e5]
    generalize stn l u = a at *
    generalize stn l v = b at *
    generalize stn l w = d at *
    generalize stn l l = m at *
    rw [i6_le (by omega) (by omega) (by omega) (by omega), i6_le (by omega) (by omega) (by omega) (by omega), i6_le (by omega) (by omega) (by omega) (by omega)]
    refine ⟨fun t => ?_, fun t => ⟨fun t2 => ?_, fun t2 => ⟨fun t3 => ?_, fun t3 => ?_⟩⟩⟩
    · rw [ibc_f (fun z => by omega)] at hh; exact hh (fun z => by omega)
    · rw [ibc_f (fun z => by omega)] at hh; exact hh (fun z => by omega)
    · rw [ibc_f (fun z => by omega)] at hh; exact hh (fun z => by omega)
    · rw [ibc_t ⟨c, by omega, by omega, by omega⟩] at hh
      refine hh (fun _ => ⟨⟨e1, fun k hk => ?_⟩, ⟨by dsimp only; omega, hl, by dsimp only; omega, fun k hk => ?_⟩⟩)
      · have : k = 0 ∨ k = 1 ∨ k = 2 := by dsimp only at hk; omega
        rcases this with rfl | rfl | rfl
        · exact ⟨e3, h93⟩
        · exact ⟨e4, h931⟩
        · exact ⟨e5, h932⟩
      · have : k = 0 ∨ k = 1 ∨ k = 2 := by dsimp only at hk; omega
        rcases this with rfl | rfl | rfl
        · show 0 < a ∧ a ≤ 40000000000; omega
        · show 0 < b ∧ b ≤ 40000000000; omega
        · show 0 < d ∧ d ≤ 40000000000; omega
  · have := h (gj_w2 SJ 81 24 (i6 (det3 (W i) (W j) (W k)))) (FJ.rf.w (Or.inr ⟨rfl, Or.inr (Or.inr (Or.inr rfl))⟩)) (fun z => absurd c z.1)
    rw [ibc_f (fun z => z.1 c)] at this; exact this
end Solve2
