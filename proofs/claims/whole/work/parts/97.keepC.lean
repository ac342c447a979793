/-! 97: seed, keep, undo in the class -/
section AgT
variable {F G : Nat → Int}
theorem Ag.eFg (g : Ag F G) (h6 : F 17 ≤ 6) (e k : Int) : fgA G e k = fgA F e k := by
  refine fgI_un (F := F) ?_ (fgA_I F e k)
  have i := fgA_I G e k
  have fp : ∀ j : Nat, (j : Int) < F 17 → (fgp G e k j ↔ fgp F e k j) := fun j hj => by unfold fgp; rw [g _ (by omega), g _ (by omega)]
  rcases i with ⟨j, a, b, c, d⟩ | ⟨a, b⟩
  · rw [g 17 (by decide)] at b
    exact Or.inl ⟨j, a, b, (fp j b).mp c, fun t ht z => d t ht ((fp t (by omega)).mpr z)⟩
  · rw [g 17 (by decide)] at b
    exact Or.inr ⟨a, fun t ht z => b t ht ((fp t ht).mpr z)⟩
theorem Ag.eB (g : Ag F G) (hW : Wc F) (hN : Wn F) : bsA G = bsA F ∧ twA G = twA F := by
  obtain ⟨q1, q2, q3, q4⟩ := g.ap.q hW
  have eP : ctP G = ctP F := by funext p; unfold ctP; rw [q3, q4]
  have eC : ∀ p, ctB G p = ctB F p := by
    intro p; funext i; unfold ctB
    rw [g.eNf, eP]
    by_cases c : i < nf F
    · rw [if_pos c, if_pos c]; exact g.eCt hN i c
    · rw [if_neg c, if_neg c]
  have eT : ∀ p q, ctT G p q = ctT F p q := by intro p q; funext i; unfold ctT; rw [eP]
  refine ⟨?_, ?_⟩
  · unfold bsA
    rw [q2]
    refine forN_c _ _ _ (fun j b _ _ => ?_)
    unfold bsS
    rw [eC, g.eW hW, g.eNf, g.eFc, q3, q4, g.eFg hN.2.1]
  · unfold twA
    rw [q2]
    refine forN_c _ _ _ (fun i b _ _ => ?_)
    unfold twI
    rw [q2]
    refine forN_c _ _ _ (fun j b _ _ => ?_)
    unfold twS
    rw [eT, g.eW hW, g.eFc]
theorem TR.ag {SI : gj_I} {SJ : gj_J} (h : TR F SI SJ) (g : Ag F G) (hW : Wc F) (hN : Wn F) : TR G SI SJ := by
  unfold TR; rw [(g.eB hW hN).1, (g.eB hW hN).2]; exact h
end AgT
section KeepC
variable {E : gj_E} {SI : gj_I} {SJ : gj_J} {F K : Nat → Int}
theorem LB42.same {W : Nat → V3} {O : Nat → Int} {n : Nat} {A : gj_I} {L : Nat → Nat → Prop} (h : LB42 W O n SI SJ) (f : FI L SI A) (hl : ¬ L 42 9 ∧ ∀ k, ¬ L 46 k) : LB42 W O n A SJ := h.f f (FJ.rf (L := fun _ _ => False)) hl (fun k => ⟨fun z => z, fun z => z, fun z => z⟩)
theorem CB42.same {S : Nat → Nat → Prop} {W : Nat → V3} {n : Nat} {A : gj_I} {L : Nat → Nat → Prop} (h : CB42 S W n SI SJ) (f : FI L SI A) (hl : ∀ k, ¬ L 50 k ∧ ¬ L 51 k) : CB42 S W n A SJ := h.f f (FJ.rf (L := fun _ _ => False)) hl (fun k => ⟨fun z => z, fun z => z, fun z => z⟩)
theorem GR.same {A : gj_I} {L : Nat → Nat → Prop} (h : GR F SI SJ) (f : FI L SI A) (hl : (¬ L 42 9 ∧ ¬ L 0 12 ∧ ¬ L 0 13) ∧ ∀ k, ¬ L 46 k ∧ ¬ L 50 k ∧ ¬ L 51 k) : GR F A SJ := by
  obtain ⟨h1, h2, h3, h4⟩ := h
  refine ⟨h1.same f ⟨hl.1.1, fun k => (hl.2 k).1⟩, CB42.same h2 f (fun k => (hl.2 k).2), by rw [f _ _ hl.1.2.1]; exact h3, by rw [f _ _ hl.1.2.2]; exact h4⟩
theorem TR.same {A : gj_I} {L : Nat → Nat → Prop} (h : TR F SI SJ) (f : FI L SI A) (hl : ∀ k, ¬ L 65 k) : TR F A SJ := by
  unfold TR
  rw [f 65 4 (hl 4), f 65 5 (hl 5), f 65 6 (hl 6), f 65 7 (hl 7), f 65 8 (hl 8), f 65 9 (hl 9)]; exact h
theorem sp_seedC {Q : Int32 → gj_I → gj_J → Prop} {a : Int32} (hC : CNT F SI SJ) (hF : WF F) (x : Int) (xr : -2147483648 ≤ x ∧ x < 2147483648) (ha : a = i3 x) (h : ∀ SI', FI LCI SI SI' → CNT (seedR F x).2 SI' SJ → Q (i3 (seedR F x).1) SI' SJ) : DoI E 110 [(.ref 0), (.int a)] SI SJ Q := by
  subst ha
  have hC2 := hC
  obtain ⟨⟨hX, hD, hf, hh, hx⟩, hg, ht⟩ := hC2
  obtain ⟨h1, h2, h3, h4, h5, h6⟩ := hF
  refine st_110 _ SI SJ ?_
  rw [i3_lt0 (by omega) (by omega), i3_le (by omega) (by omega) (by omega) (by omega)]
  have bad : ¬ (0 ≤ x ∧ x ≤ 65535) → Q (i3 0) SI SJ := fun z => by
    have e1 : seedR F x = (0, F) := if_neg z
    rw [e1] at h; exact h SI FI.rf hC
  refine ⟨fun c => bad (by omega), fun c => ⟨fun d => ?_, fun d => bad (by omega)⟩⟩
  have e1 : seedR F x = (1, fu F 34 x) := if_pos ⟨by omega, d⟩
  rw [e1] at h
  dsimp only at h
  have g : Ag F (fu F 34 x) := fun k hk => fu_n (by omega)
  have f0 : FI (fun o k => o = 3 ∧ k = 10) SI (gj_u2 SI 3 10 (i3 x)) := FI.rf.u ⟨rfl, rfl⟩
  refine h _ (f0.le (fun o k z => by unfold LCI; omega)) ⟨⟨(hX.f f0 ⟨by omega, fun k => by omega⟩).ap g.ap h1.1, (hD.f f0 ⟨by omega, fun k => by omega⟩).ap g.ap h1.1, (hf.f f0 ⟨by omega, fun k => by omega⟩).c (fun k _ hk => g k hk) h3.2.1, (hh.f f0 ⟨by omega, fun k => by omega⟩).c (fun k q1 q2 => fu_n (by omega)) ⟨h5.1, h5.2.1⟩, ?_⟩, (hg.same f0 ⟨by omega, fun k => by omega⟩).ag g h1.1 h3, (ht.same f0 (fun k => by omega)).ag g h1.1 h3⟩
  obtain ⟨x1, x2, x3⟩ := hx
  refine ⟨by rw [u2_s, fu_s], by rw [u2_n (by omega), fu_n (by omega)]; exact x2, fun k hk => ?_⟩
  rw [fu_n (by omega)] at hk
  rw [u2_n (by omega), fu_n (by omega)]; exact x3 k hk
theorem sp_copyS3 {Q : gj_I → gj_J → Prop} (hN : NS16 F SI) (hF : WF F) (h : ∀ SI', FI (fun o _k => 3 ≤ o ∧ o ≤ 15) SI SI' → NS3 F SI' → Q SI' SJ) : DoV E 60 [(.ref 3), (.ref 16)] SI SJ Q := by
  obtain ⟨hX, hD, hf, hh, hx⟩ := hN
  obtain ⟨h1, h2, h3, h4, h5, h6⟩ := hF
  have n6 := h3.2.1; have n0 := h3.1
  refine st_60_3_16 SI SJ (sp_copyP4_17 hX h1 (fun B f1 hXB hDB => ?_))
  have fB : FI (fun o _k => 4 ≤ o ∧ o ≤ 11) SI B := f1.le (fun o k z => by unfold LD4 at z; omega)
  have fz : ∀ o k, ¬ (4 ≤ o ∧ o ≤ 11) → B o k = SI o k := fun o k z => fB o k z
  have f2 : FI (fun o k => o = 12 ∨ o = 13 ∨ o = 14 ∨ o = 15 ∨ (o = 3 ∧ 5 ≤ k)) B (gj_u2 (gj_u2 (gj_u2 (gj_u2 (gj_u2 (gj_u2 (gj_u2 (gj_u2 (gj_ua (gj_ua (gj_ua (gj_ua B 12 (va_cpy (B 25) (B 12) 0 0 6)) 13 (va_cpy (B 26) (B 13) 0 0 6)) 14 (va_cpy (B 27) (B 14) 0 0 80)) 15 (va_cpy (B 28) (B 15) 0 0 18)) 3 5 (B 16 5)) 3 6 (B 16 6)) 3 7 (B 16 7)) 3 8 (B 16 8)) 3 9 (B 16 9)) 3 10 (B 16 10)) 3 11 (B 16 11)) 3 12 (B 16 12)) := ((((((((((((FI.rf.ua (fun k => by omega)).ua (fun k => by omega)).ua (fun k => by omega)).ua (fun k => by omega)).u (by omega)).u (by omega)).u (by omega)).u (by omega)).u (by omega)).u (by omega)).u (by omega)).u (by omega))
  refine h (gj_u2 (gj_u2 (gj_u2 (gj_u2 (gj_u2 (gj_u2 (gj_u2 (gj_u2 (gj_ua (gj_ua (gj_ua (gj_ua B 12 (va_cpy (B 25) (B 12) 0 0 6)) 13 (va_cpy (B 26) (B 13) 0 0 6)) 14 (va_cpy (B 27) (B 14) 0 0 80)) 15 (va_cpy (B 28) (B 15) 0 0 18)) 3 5 (B 16 5)) 3 6 (B 16 6)) 3 7 (B 16 7)) 3 8 (B 16 8)) 3 9 (B 16 9)) 3 10 (B 16 10)) 3 11 (B 16 11)) 3 12 (B 16 12)) ((fB.le (fun o k z => by omega) : FI (fun o _k => 3 ≤ o ∧ o ≤ 15) SI B).tr (f2.le (fun o k z => by omega))) ⟨hXB.f f2 ⟨by omega, fun k => by omega⟩, hDB.f f2 ⟨by omega, fun k => by omega⟩, ?_, ?_, ?_⟩
  · obtain ⟨f5, fe, f6, f7, f8, f9⟩ := hf
    refine ⟨?_, fun i hi => ?_, ?_, ?_, ?_, ?_⟩
    · show (gj_u2 (gj_u2 (gj_u2 (gj_u2 (gj_u2 (gj_u2 (gj_u2 (gj_u2 (gj_ua (gj_ua (gj_ua (gj_ua B 12 (va_cpy (B 25) (B 12) 0 0 6)) 13 (va_cpy (B 26) (B 13) 0 0 6)) 14 (va_cpy (B 27) (B 14) 0 0 80)) 15 (va_cpy (B 28) (B 15) 0 0 18)) 3 5 (B 16 5)) 3 6 (B 16 6)) 3 7 (B 16 7)) 3 8 (B 16 8)) 3 9 (B 16 9)) 3 10 (B 16 10)) 3 11 (B 16 11)) 3 12 (B 16 12)) 3 5 = _
      rw [u2_n (by omega), u2_n (by omega), u2_n (by omega), u2_n (by omega), u2_n (by omega), u2_n (by omega), u2_n (by omega), u2_s, fz _ _ (by omega)]; exact f5
    · obtain ⟨a1, a2⟩ := fe i hi
      refine ⟨?_, ?_⟩
      · show (gj_u2 (gj_u2 (gj_u2 (gj_u2 (gj_u2 (gj_u2 (gj_u2 (gj_u2 (gj_ua (gj_ua (gj_ua (gj_ua B 12 (va_cpy (B 25) (B 12) 0 0 6)) 13 (va_cpy (B 26) (B 13) 0 0 6)) 14 (va_cpy (B 27) (B 14) 0 0 80)) 15 (va_cpy (B 28) (B 15) 0 0 18)) 3 5 (B 16 5)) 3 6 (B 16 6)) 3 7 (B 16 7)) 3 8 (B 16 8)) 3 9 (B 16 9)) 3 10 (B 16 10)) 3 11 (B 16 11)) 3 12 (B 16 12)) 12 i = _
        rw [u2_n (by omega), u2_n (by omega), u2_n (by omega), u2_n (by omega), u2_n (by omega), u2_n (by omega), u2_n (by omega), u2_n (by omega), ua_n (by omega), ua_n (by omega), ua_n (by omega), ua_s]
        unfold va_cpy; rw [if_pos (by omega), show 0 + (i - 0) = i by omega, fz _ _ (by omega)]; exact a1
      · show (gj_u2 (gj_u2 (gj_u2 (gj_u2 (gj_u2 (gj_u2 (gj_u2 (gj_u2 (gj_ua (gj_ua (gj_ua (gj_ua B 12 (va_cpy (B 25) (B 12) 0 0 6)) 13 (va_cpy (B 26) (B 13) 0 0 6)) 14 (va_cpy (B 27) (B 14) 0 0 80)) 15 (va_cpy (B 28) (B 15) 0 0 18)) 3 5 (B 16 5)) 3 6 (B 16 6)) 3 7 (B 16 7)) 3 8 (B 16 8)) 3 9 (B 16 9)) 3 10 (B 16 10)) 3 11 (B 16 11)) 3 12 (B 16 12)) 13 i = _
        rw [u2_n (by omega), u2_n (by omega), u2_n (by omega), u2_n (by omega), u2_n (by omega), u2_n (by omega), u2_n (by omega), u2_n (by omega), ua_n (by omega), ua_n (by omega), ua_s]
        unfold va_cpy; rw [if_pos (by omega), show 0 + (i - 0) = i by omega, fz _ _ (by omega)]; exact a2
    · show (gj_u2 (gj_u2 (gj_u2 (gj_u2 (gj_u2 (gj_u2 (gj_u2 (gj_u2 (gj_ua (gj_ua (gj_ua (gj_ua B 12 (va_cpy (B 25) (B 12) 0 0 6)) 13 (va_cpy (B 26) (B 13) 0 0 6)) 14 (va_cpy (B 27) (B 14) 0 0 80)) 15 (va_cpy (B 28) (B 15) 0 0 18)) 3 5 (B 16 5)) 3 6 (B 16 6)) 3 7 (B 16 7)) 3 8 (B 16 8)) 3 9 (B 16 9)) 3 10 (B 16 10)) 3 11 (B 16 11)) 3 12 (B 16 12)) 3 6 = _
      rw [u2_n (by omega), u2_n (by omega), u2_n (by omega), u2_n (by omega), u2_n (by omega), u2_n (by omega), u2_s, fz _ _ (by omega)]; exact f6
    · show (gj_u2 (gj_u2 (gj_u2 (gj_u2 (gj_u2 (gj_u2 (gj_u2 (gj_u2 (gj_ua (gj_ua (gj_ua (gj_ua B 12 (va_cpy (B 25) (B 12) 0 0 6)) 13 (va_cpy (B 26) (B 13) 0 0 6)) 14 (va_cpy (B 27) (B 14) 0 0 80)) 15 (va_cpy (B 28) (B 15) 0 0 18)) 3 5 (B 16 5)) 3 6 (B 16 6)) 3 7 (B 16 7)) 3 8 (B 16 8)) 3 9 (B 16 9)) 3 10 (B 16 10)) 3 11 (B 16 11)) 3 12 (B 16 12)) 3 7 = _
      rw [u2_n (by omega), u2_n (by omega), u2_n (by omega), u2_n (by omega), u2_n (by omega), u2_s, fz _ _ (by omega)]; exact f7
    · show (gj_u2 (gj_u2 (gj_u2 (gj_u2 (gj_u2 (gj_u2 (gj_u2 (gj_u2 (gj_ua (gj_ua (gj_ua (gj_ua B 12 (va_cpy (B 25) (B 12) 0 0 6)) 13 (va_cpy (B 26) (B 13) 0 0 6)) 14 (va_cpy (B 27) (B 14) 0 0 80)) 15 (va_cpy (B 28) (B 15) 0 0 18)) 3 5 (B 16 5)) 3 6 (B 16 6)) 3 7 (B 16 7)) 3 8 (B 16 8)) 3 9 (B 16 9)) 3 10 (B 16 10)) 3 11 (B 16 11)) 3 12 (B 16 12)) 3 8 = _
      rw [u2_n (by omega), u2_n (by omega), u2_n (by omega), u2_n (by omega), u2_s, fz _ _ (by omega)]; exact f8
    · show (gj_u2 (gj_u2 (gj_u2 (gj_u2 (gj_u2 (gj_u2 (gj_u2 (gj_u2 (gj_ua (gj_ua (gj_ua (gj_ua B 12 (va_cpy (B 25) (B 12) 0 0 6)) 13 (va_cpy (B 26) (B 13) 0 0 6)) 14 (va_cpy (B 27) (B 14) 0 0 80)) 15 (va_cpy (B 28) (B 15) 0 0 18)) 3 5 (B 16 5)) 3 6 (B 16 6)) 3 7 (B 16 7)) 3 8 (B 16 8)) 3 9 (B 16 9)) 3 10 (B 16 10)) 3 11 (B 16 11)) 3 12 (B 16 12)) 3 9 = _
      rw [u2_n (by omega), u2_n (by omega), u2_n (by omega), u2_s, fz _ _ (by omega)]; exact f9
  · have p1 := h5.1; have p2 := h5.2.1
    refine ⟨?_, fun k w hk hw => ?_⟩
    · show (gj_u2 (gj_u2 (gj_u2 (gj_u2 (gj_u2 (gj_u2 (gj_u2 (gj_u2 (gj_ua (gj_ua (gj_ua (gj_ua B 12 (va_cpy (B 25) (B 12) 0 0 6)) 13 (va_cpy (B 26) (B 13) 0 0 6)) 14 (va_cpy (B 27) (B 14) 0 0 80)) 15 (va_cpy (B 28) (B 15) 0 0 18)) 3 5 (B 16 5)) 3 6 (B 16 6)) 3 7 (B 16 7)) 3 8 (B 16 8)) 3 9 (B 16 9)) 3 10 (B 16 10)) 3 11 (B 16 11)) 3 12 (B 16 12)) 3 11 = _
      rw [u2_n (by omega), u2_s, fz _ _ (by omega)]; exact hh.1
    · show (gj_u2 (gj_u2 (gj_u2 (gj_u2 (gj_u2 (gj_u2 (gj_u2 (gj_u2 (gj_ua (gj_ua (gj_ua (gj_ua B 12 (va_cpy (B 25) (B 12) 0 0 6)) 13 (va_cpy (B 26) (B 13) 0 0 6)) 14 (va_cpy (B 27) (B 14) 0 0 80)) 15 (va_cpy (B 28) (B 15) 0 0 18)) 3 5 (B 16 5)) 3 6 (B 16 6)) 3 7 (B 16 7)) 3 8 (B 16 8)) 3 9 (B 16 9)) 3 10 (B 16 10)) 3 11 (B 16 11)) 3 12 (B 16 12)) 14 (4 * k + w) = _
      rw [u2_n (by omega), u2_n (by omega), u2_n (by omega), u2_n (by omega), u2_n (by omega), u2_n (by omega), u2_n (by omega), u2_n (by omega), ua_n (by omega), ua_s]
      unfold va_cpy; rw [if_pos (by omega), show 0 + (4 * k + w - 0) = 4 * k + w by omega, fz _ _ (by omega)]; exact hh.2 k w hk hw
  · obtain ⟨x1, x2, x3⟩ := hx
    have l1 := h6.2.2.1; have l2 := h6.2.2.2.1
    refine ⟨?_, ?_, fun k hk => ?_⟩
    · show (gj_u2 (gj_u2 (gj_u2 (gj_u2 (gj_u2 (gj_u2 (gj_u2 (gj_u2 (gj_ua (gj_ua (gj_ua (gj_ua B 12 (va_cpy (B 25) (B 12) 0 0 6)) 13 (va_cpy (B 26) (B 13) 0 0 6)) 14 (va_cpy (B 27) (B 14) 0 0 80)) 15 (va_cpy (B 28) (B 15) 0 0 18)) 3 5 (B 16 5)) 3 6 (B 16 6)) 3 7 (B 16 7)) 3 8 (B 16 8)) 3 9 (B 16 9)) 3 10 (B 16 10)) 3 11 (B 16 11)) 3 12 (B 16 12)) 3 10 = _
      rw [u2_n (by omega), u2_n (by omega), u2_s, fz _ _ (by omega)]; exact x1
    · show (gj_u2 (gj_u2 (gj_u2 (gj_u2 (gj_u2 (gj_u2 (gj_u2 (gj_u2 (gj_ua (gj_ua (gj_ua (gj_ua B 12 (va_cpy (B 25) (B 12) 0 0 6)) 13 (va_cpy (B 26) (B 13) 0 0 6)) 14 (va_cpy (B 27) (B 14) 0 0 80)) 15 (va_cpy (B 28) (B 15) 0 0 18)) 3 5 (B 16 5)) 3 6 (B 16 6)) 3 7 (B 16 7)) 3 8 (B 16 8)) 3 9 (B 16 9)) 3 10 (B 16 10)) 3 11 (B 16 11)) 3 12 (B 16 12)) 3 12 = _
      rw [u2_s, fz _ _ (by omega)]; exact x2
    · show (gj_u2 (gj_u2 (gj_u2 (gj_u2 (gj_u2 (gj_u2 (gj_u2 (gj_u2 (gj_ua (gj_ua (gj_ua (gj_ua B 12 (va_cpy (B 25) (B 12) 0 0 6)) 13 (va_cpy (B 26) (B 13) 0 0 6)) 14 (va_cpy (B 27) (B 14) 0 0 80)) 15 (va_cpy (B 28) (B 15) 0 0 18)) 3 5 (B 16 5)) 3 6 (B 16 6)) 3 7 (B 16 7)) 3 8 (B 16 8)) 3 9 (B 16 9)) 3 10 (B 16 10)) 3 11 (B 16 11)) 3 12 (B 16 12)) 15 k = _
      rw [u2_n (by omega), u2_n (by omega), u2_n (by omega), u2_n (by omega), u2_n (by omega), u2_n (by omega), u2_n (by omega), u2_n (by omega), ua_s]
      unfold va_cpy; rw [if_pos (by omega), show 0 + (k - 0) = k by omega, fz _ _ (by omega)]; exact x3 k hk
theorem sp_copyS16 {Q : gj_I → gj_J → Prop} (hN : NS3 F SI) (hF : WF F) (h : ∀ SI', FI (fun o _k => 16 ≤ o ∧ o ≤ 28) SI SI' → NS16 F SI' → Q SI' SJ) : DoV E 60 [(.ref 16), (.ref 3)] SI SJ Q := by
  obtain ⟨hX, hD, hf, hh, hx⟩ := hN
  obtain ⟨h1, h2, h3, h4, h5, h6⟩ := hF
  have n6 := h3.2.1; have n0 := h3.1
  refine st_60_16_3 SI SJ (sp_copyP17_4 hX h1 (fun B f1 hXB hDB => ?_))
  have fB : FI (fun o _k => 17 ≤ o ∧ o ≤ 24) SI B := f1.le (fun o k z => by unfold LD17 at z; omega)
  have fz : ∀ o k, ¬ (17 ≤ o ∧ o ≤ 24) → B o k = SI o k := fun o k z => fB o k z
  have f2 : FI (fun o k => o = 25 ∨ o = 26 ∨ o = 27 ∨ o = 28 ∨ (o = 16 ∧ 5 ≤ k)) B (gj_u2 (gj_u2 (gj_u2 (gj_u2 (gj_u2 (gj_u2 (gj_u2 (gj_u2 (gj_ua (gj_ua (gj_ua (gj_ua B 25 (va_cpy (B 12) (B 25) 0 0 6)) 26 (va_cpy (B 13) (B 26) 0 0 6)) 27 (va_cpy (B 14) (B 27) 0 0 80)) 28 (va_cpy (B 15) (B 28) 0 0 18)) 16 5 (B 3 5)) 16 6 (B 3 6)) 16 7 (B 3 7)) 16 8 (B 3 8)) 16 9 (B 3 9)) 16 10 (B 3 10)) 16 11 (B 3 11)) 16 12 (B 3 12)) := ((((((((((((FI.rf.ua (fun k => by omega)).ua (fun k => by omega)).ua (fun k => by omega)).ua (fun k => by omega)).u (by omega)).u (by omega)).u (by omega)).u (by omega)).u (by omega)).u (by omega)).u (by omega)).u (by omega))
  refine h (gj_u2 (gj_u2 (gj_u2 (gj_u2 (gj_u2 (gj_u2 (gj_u2 (gj_u2 (gj_ua (gj_ua (gj_ua (gj_ua B 25 (va_cpy (B 12) (B 25) 0 0 6)) 26 (va_cpy (B 13) (B 26) 0 0 6)) 27 (va_cpy (B 14) (B 27) 0 0 80)) 28 (va_cpy (B 15) (B 28) 0 0 18)) 16 5 (B 3 5)) 16 6 (B 3 6)) 16 7 (B 3 7)) 16 8 (B 3 8)) 16 9 (B 3 9)) 16 10 (B 3 10)) 16 11 (B 3 11)) 16 12 (B 3 12)) ((fB.le (fun o k z => by omega) : FI (fun o _k => 16 ≤ o ∧ o ≤ 28) SI B).tr (f2.le (fun o k z => by omega))) ⟨hXB.f f2 ⟨by omega, fun k => by omega⟩, hDB.f f2 ⟨by omega, fun k => by omega⟩, ?_, ?_, ?_⟩
  · obtain ⟨f5, fe, f6, f7, f8, f9⟩ := hf
    refine ⟨?_, fun i hi => ?_, ?_, ?_, ?_, ?_⟩
    · show (gj_u2 (gj_u2 (gj_u2 (gj_u2 (gj_u2 (gj_u2 (gj_u2 (gj_u2 (gj_ua (gj_ua (gj_ua (gj_ua B 25 (va_cpy (B 12) (B 25) 0 0 6)) 26 (va_cpy (B 13) (B 26) 0 0 6)) 27 (va_cpy (B 14) (B 27) 0 0 80)) 28 (va_cpy (B 15) (B 28) 0 0 18)) 16 5 (B 3 5)) 16 6 (B 3 6)) 16 7 (B 3 7)) 16 8 (B 3 8)) 16 9 (B 3 9)) 16 10 (B 3 10)) 16 11 (B 3 11)) 16 12 (B 3 12)) 16 5 = _
      rw [u2_n (by omega), u2_n (by omega), u2_n (by omega), u2_n (by omega), u2_n (by omega), u2_n (by omega), u2_n (by omega), u2_s, fz _ _ (by omega)]; exact f5
    · obtain ⟨a1, a2⟩ := fe i hi
      refine ⟨?_, ?_⟩
      · show (gj_u2 (gj_u2 (gj_u2 (gj_u2 (gj_u2 (gj_u2 (gj_u2 (gj_u2 (gj_ua (gj_ua (gj_ua (gj_ua B 25 (va_cpy (B 12) (B 25) 0 0 6)) 26 (va_cpy (B 13) (B 26) 0 0 6)) 27 (va_cpy (B 14) (B 27) 0 0 80)) 28 (va_cpy (B 15) (B 28) 0 0 18)) 16 5 (B 3 5)) 16 6 (B 3 6)) 16 7 (B 3 7)) 16 8 (B 3 8)) 16 9 (B 3 9)) 16 10 (B 3 10)) 16 11 (B 3 11)) 16 12 (B 3 12)) 25 i = _
        rw [u2_n (by omega), u2_n (by omega), u2_n (by omega), u2_n (by omega), u2_n (by omega), u2_n (by omega), u2_n (by omega), u2_n (by omega), ua_n (by omega), ua_n (by omega), ua_n (by omega), ua_s]
        unfold va_cpy; rw [if_pos (by omega), show 0 + (i - 0) = i by omega, fz _ _ (by omega)]; exact a1
      · show (gj_u2 (gj_u2 (gj_u2 (gj_u2 (gj_u2 (gj_u2 (gj_u2 (gj_u2 (gj_ua (gj_ua (gj_ua (gj_ua B 25 (va_cpy (B 12) (B 25) 0 0 6)) 26 (va_cpy (B 13) (B 26) 0 0 6)) 27 (va_cpy (B 14) (B 27) 0 0 80)) 28 (va_cpy (B 15) (B 28) 0 0 18)) 16 5 (B 3 5)) 16 6 (B 3 6)) 16 7 (B 3 7)) 16 8 (B 3 8)) 16 9 (B 3 9)) 16 10 (B 3 10)) 16 11 (B 3 11)) 16 12 (B 3 12)) 26 i = _
        rw [u2_n (by omega), u2_n (by omega), u2_n (by omega), u2_n (by omega), u2_n (by omega), u2_n (by omega), u2_n (by omega), u2_n (by omega), ua_n (by omega), ua_n (by omega), ua_s]
        unfold va_cpy; rw [if_pos (by omega), show 0 + (i - 0) = i by omega, fz _ _ (by omega)]; exact a2
    · show (gj_u2 (gj_u2 (gj_u2 (gj_u2 (gj_u2 (gj_u2 (gj_u2 (gj_u2 (gj_ua (gj_ua (gj_ua (gj_ua B 25 (va_cpy (B 12) (B 25) 0 0 6)) 26 (va_cpy (B 13) (B 26) 0 0 6)) 27 (va_cpy (B 14) (B 27) 0 0 80)) 28 (va_cpy (B 15) (B 28) 0 0 18)) 16 5 (B 3 5)) 16 6 (B 3 6)) 16 7 (B 3 7)) 16 8 (B 3 8)) 16 9 (B 3 9)) 16 10 (B 3 10)) 16 11 (B 3 11)) 16 12 (B 3 12)) 16 6 = _
      rw [u2_n (by omega), u2_n (by omega), u2_n (by omega), u2_n (by omega), u2_n (by omega), u2_n (by omega), u2_s, fz _ _ (by omega)]; exact f6
    · show (gj_u2 (gj_u2 (gj_u2 (gj_u2 (gj_u2 (gj_u2 (gj_u2 (gj_u2 (gj_ua (gj_ua (gj_ua (gj_ua B 25 (va_cpy (B 12) (B 25) 0 0 6)) 26 (va_cpy (B 13) (B 26) 0 0 6)) 27 (va_cpy (B 14) (B 27) 0 0 80)) 28 (va_cpy (B 15) (B 28) 0 0 18)) 16 5 (B 3 5)) 16 6 (B 3 6)) 16 7 (B 3 7)) 16 8 (B 3 8)) 16 9 (B 3 9)) 16 10 (B 3 10)) 16 11 (B 3 11)) 16 12 (B 3 12)) 16 7 = _
      rw [u2_n (by omega), u2_n (by omega), u2_n (by omega), u2_n (by omega), u2_n (by omega), u2_s, fz _ _ (by omega)]; exact f7
    · show (gj_u2 (gj_u2 (gj_u2 (gj_u2 (gj_u2 (gj_u2 (gj_u2 (gj_u2 (gj_ua (gj_ua (gj_ua (gj_ua B 25 (va_cpy (B 12) (B 25) 0 0 6)) 26 (va_cpy (B 13) (B 26) 0 0 6)) 27 (va_cpy (B 14) (B 27) 0 0 80)) 28 (va_cpy (B 15) (B 28) 0 0 18)) 16 5 (B 3 5)) 16 6 (B 3 6)) 16 7 (B 3 7)) 16 8 (B 3 8)) 16 9 (B 3 9)) 16 10 (B 3 10)) 16 11 (B 3 11)) 16 12 (B 3 12)) 16 8 = _
      rw [u2_n (by omega), u2_n (by omega), u2_n (by omega), u2_n (by omega), u2_s, fz _ _ (by omega)]; exact f8
    · show (gj_u2 (gj_u2 (gj_u2 (gj_u2 (gj_u2 (gj_u2 (gj_u2 (gj_u2 (gj_ua (gj_ua (gj_ua (gj_ua B 25 (va_cpy (B 12) (B 25) 0 0 6)) 26 (va_cpy (B 13) (B 26) 0 0 6)) 27 (va_cpy (B 14) (B 27) 0 0 80)) 28 (va_cpy (B 15) (B 28) 0 0 18)) 16 5 (B 3 5)) 16 6 (B 3 6)) 16 7 (B 3 7)) 16 8 (B 3 8)) 16 9 (B 3 9)) 16 10 (B 3 10)) 16 11 (B 3 11)) 16 12 (B 3 12)) 16 9 = _
      rw [u2_n (by omega), u2_n (by omega), u2_n (by omega), u2_s, fz _ _ (by omega)]; exact f9
  · have p1 := h5.1; have p2 := h5.2.1
    refine ⟨?_, fun k w hk hw => ?_⟩
    · show (gj_u2 (gj_u2 (gj_u2 (gj_u2 (gj_u2 (gj_u2 (gj_u2 (gj_u2 (gj_ua (gj_ua (gj_ua (gj_ua B 25 (va_cpy (B 12) (B 25) 0 0 6)) 26 (va_cpy (B 13) (B 26) 0 0 6)) 27 (va_cpy (B 14) (B 27) 0 0 80)) 28 (va_cpy (B 15) (B 28) 0 0 18)) 16 5 (B 3 5)) 16 6 (B 3 6)) 16 7 (B 3 7)) 16 8 (B 3 8)) 16 9 (B 3 9)) 16 10 (B 3 10)) 16 11 (B 3 11)) 16 12 (B 3 12)) 16 11 = _
      rw [u2_n (by omega), u2_s, fz _ _ (by omega)]; exact hh.1
    · show (gj_u2 (gj_u2 (gj_u2 (gj_u2 (gj_u2 (gj_u2 (gj_u2 (gj_u2 (gj_ua (gj_ua (gj_ua (gj_ua B 25 (va_cpy (B 12) (B 25) 0 0 6)) 26 (va_cpy (B 13) (B 26) 0 0 6)) 27 (va_cpy (B 14) (B 27) 0 0 80)) 28 (va_cpy (B 15) (B 28) 0 0 18)) 16 5 (B 3 5)) 16 6 (B 3 6)) 16 7 (B 3 7)) 16 8 (B 3 8)) 16 9 (B 3 9)) 16 10 (B 3 10)) 16 11 (B 3 11)) 16 12 (B 3 12)) 27 (4 * k + w) = _
      rw [u2_n (by omega), u2_n (by omega), u2_n (by omega), u2_n (by omega), u2_n (by omega), u2_n (by omega), u2_n (by omega), u2_n (by omega), ua_n (by omega), ua_s]
      unfold va_cpy; rw [if_pos (by omega), show 0 + (4 * k + w - 0) = 4 * k + w by omega, fz _ _ (by omega)]; exact hh.2 k w hk hw
  · obtain ⟨x1, x2, x3⟩ := hx
    have l1 := h6.2.2.1; have l2 := h6.2.2.2.1
    refine ⟨?_, ?_, fun k hk => ?_⟩
    · show (gj_u2 (gj_u2 (gj_u2 (gj_u2 (gj_u2 (gj_u2 (gj_u2 (gj_u2 (gj_ua (gj_ua (gj_ua (gj_ua B 25 (va_cpy (B 12) (B 25) 0 0 6)) 26 (va_cpy (B 13) (B 26) 0 0 6)) 27 (va_cpy (B 14) (B 27) 0 0 80)) 28 (va_cpy (B 15) (B 28) 0 0 18)) 16 5 (B 3 5)) 16 6 (B 3 6)) 16 7 (B 3 7)) 16 8 (B 3 8)) 16 9 (B 3 9)) 16 10 (B 3 10)) 16 11 (B 3 11)) 16 12 (B 3 12)) 16 10 = _
      rw [u2_n (by omega), u2_n (by omega), u2_s, fz _ _ (by omega)]; exact x1
    · show (gj_u2 (gj_u2 (gj_u2 (gj_u2 (gj_u2 (gj_u2 (gj_u2 (gj_u2 (gj_ua (gj_ua (gj_ua (gj_ua B 25 (va_cpy (B 12) (B 25) 0 0 6)) 26 (va_cpy (B 13) (B 26) 0 0 6)) 27 (va_cpy (B 14) (B 27) 0 0 80)) 28 (va_cpy (B 15) (B 28) 0 0 18)) 16 5 (B 3 5)) 16 6 (B 3 6)) 16 7 (B 3 7)) 16 8 (B 3 8)) 16 9 (B 3 9)) 16 10 (B 3 10)) 16 11 (B 3 11)) 16 12 (B 3 12)) 16 12 = _
      rw [u2_s, fz _ _ (by omega)]; exact x2
    · show (gj_u2 (gj_u2 (gj_u2 (gj_u2 (gj_u2 (gj_u2 (gj_u2 (gj_u2 (gj_ua (gj_ua (gj_ua (gj_ua B 25 (va_cpy (B 12) (B 25) 0 0 6)) 26 (va_cpy (B 13) (B 26) 0 0 6)) 27 (va_cpy (B 14) (B 27) 0 0 80)) 28 (va_cpy (B 15) (B 28) 0 0 18)) 16 5 (B 3 5)) 16 6 (B 3 6)) 16 7 (B 3 7)) 16 8 (B 3 8)) 16 9 (B 3 9)) 16 10 (B 3 10)) 16 11 (B 3 11)) 16 12 (B 3 12)) 28 k = _
      rw [u2_n (by omega), u2_n (by omega), u2_n (by omega), u2_n (by omega), u2_n (by omega), u2_n (by omega), u2_n (by omega), u2_n (by omega), ua_s]
      unfold va_cpy; rw [if_pos (by omega), show 0 + (k - 0) = k by omega, fz _ _ (by omega)]; exact x3 k hk
theorem NS3.f {A : gj_I} {L : Nat → Nat → Prop} (h : NS3 F SI) (f : FI L SI A) (hl : ∀ o k, 3 ≤ o → o ≤ 15 → ¬ L o k) : NS3 F A := by
  obtain ⟨hX, hD, hf, hh, hx⟩ := h
  exact ⟨hX.f f ⟨hl _ _ (by decide) (by decide), fun k => ⟨hl _ _ (by decide) (by decide), hl _ _ (by decide) (by decide)⟩⟩, hD.f f ⟨hl _ _ (by decide) (by decide), fun k => ⟨hl _ _ (by decide) (by decide), hl _ _ (by decide) (by decide), hl _ _ (by decide) (by decide), hl _ _ (by decide) (by decide), hl _ _ (by decide) (by decide)⟩⟩, hf.f f ⟨⟨hl _ _ (by decide) (by decide), hl _ _ (by decide) (by decide), hl _ _ (by decide) (by decide), hl _ _ (by decide) (by decide), hl _ _ (by decide) (by decide)⟩, fun k => ⟨hl _ _ (by decide) (by decide), hl _ _ (by decide) (by decide)⟩⟩, hh.f f ⟨hl _ _ (by decide) (by decide), fun k => hl _ _ (by decide) (by decide)⟩, hx.f f ⟨hl _ _ (by decide) (by decide), hl _ _ (by decide) (by decide), fun k => hl _ _ (by decide) (by decide)⟩⟩
theorem sp_keepC {Q : Int32 → gj_I → gj_J → Prop} (hC : CNT F SI SJ) (hF : WF F) (h : ∀ SI', FI (fun o k => (16 ≤ o ∧ o ≤ 28) ∨ (o = 0 ∧ k = 11)) SI SI' → CNT F SI' SJ → NS16 F SI' → SI' 0 11 = i3 1 → Q (i3 (F 17)) SI' SJ) : DoI E 111 [(.ref 0)] SI SJ Q := by
  obtain ⟨hN, hg, ht⟩ := hC
  refine st_111 SI SJ (sp_copyS16 hN hF (fun A f hK => ?_))
  have f0 : FI (fun o k => (16 ≤ o ∧ o ≤ 28) ∨ (o = 0 ∧ k = 11)) SI (gj_u2 A 0 11 (i3 1)) := (f.le (fun o k z => Or.inl z) : FI (fun o k => (16 ≤ o ∧ o ≤ 28) ∨ (o = 0 ∧ k = 11)) SI A).u (Or.inr ⟨rfl, rfl⟩)
  have hNA := hN.f f0 (fun o k h1 h2 => by omega)
  have e5 : A 3 5 = i3 (F 17) := by rw [f 3 5 (by omega)]; exact hN.2.2.1.1
  rw [e5]
  have f1 : FI (fun o k => o = 0 ∧ k = 11) A (gj_u2 A 0 11 (i3 1)) := FI.rf.u ⟨rfl, rfl⟩
  obtain ⟨kX, kD, kf, kh, kx⟩ := hK
  refine h _ f0 ⟨hNA, hg.same f0 ⟨by omega, fun k => by omega⟩, ht.same f0 (fun k => by omega)⟩ ⟨kX.f f1 ⟨by omega, fun k => by omega⟩, kD.f f1 ⟨by omega, fun k => by omega⟩, kf.f f1 ⟨by omega, fun k => by omega⟩, kh.f f1 ⟨by omega, fun k => by omega⟩, kx.f f1 ⟨by omega, by omega, fun k => by omega⟩⟩ u2_s
theorem sp_undoC {Q : Int32 → gj_I → gj_J → Prop} (ik : Bool) (hC : CNT F SI SJ) (hF : WF F) (hK : ik = true → NS16 K SI ∧ WF K) (h11 : SI 0 11 = i3 (if ik then 1 else 0)) (h : ∀ SI' SJ', FI LCI SI SI' → FJ LCJ SJ SJ' → CNT (if ik then K else F) SI' SJ' → Q (i3 (if ik then 1 else 0)) SI' SJ') : DoI E 112 [(.ref 0)] SI SJ Q := by
  refine st_112 SI SJ ?_
  rw [h11]
  cases ik with
  | false => exact ⟨fun c => absurd rfl c, fun _ => h SI SJ FI.rf FJ.rf hC⟩
  | true =>
    obtain ⟨k1, k2⟩ := hK rfl
    refine ⟨fun _ => sp_copyS3 k1 k2 (fun A f hN => ?_), fun c => absurd c (by decide)⟩
    refine sp_refresh hN.1 hN.2.1 hN.2.2.1 k2.1 k2.2.1 k2.2.2.1 (fun A2 B2 f1 f2 hg e1 e2 => ?_)
    exact h A2 B2 ((f.le (fun o k z => by unfold LCI; omega) : FI LCI SI A).tr (f1.le (fun o k z => by unfold LIg2 at z; unfold LCI; omega))) (LJg2_C f2) ⟨hN.f f1 (fun o k h1 h2 => by unfold LIg2; omega), hg, TR.z e1 e2⟩
end KeepC
