/-! 9f: the class's hold: seek; held, effort, holder -/
def LJsk (o k : Nat) : Prop := o = 59 ∨ o = 60 ∨ o = 56 ∨ (o = 55 ∧ (k = 6 ∨ k = 7 ∨ k = 9 ∨ k = 10 ∨ k = 11))
def efO (b : Option Cd) (SJ : gj_J) : Prop := ∀ c, b = some c → SJ 56 0 = i6 (lox (sumC c) c.2.2.2) ∧ SJ 56 1 = i6 (loy (sumC c) c.2.2.2)
theorem LIk_C {A B : gj_I} (h : FI LIk A B) : FI LCI A B := h.le (fun o k z => by unfold LIk at z; unfold LCI; omega)
theorem LJsk_C {A B : gj_J} (h : FJ LJsk A B) : FJ LCJ A B := h.le (fun o k z => by unfold LJsk at z; unfold LCJ; omega)
section SeekH
variable {E : gj_E} {SI : gj_I} {SJ : gj_J} {W : Nat → V3} {O : Nat → Int} {n : Nat} {F : Nat → Int}
theorem sp_seek {Q : Int32 → gj_I → gj_J → Prop} {a1 a2 a3 : Int64} (hL : LB42 W O n SI SJ) (hC : PB42 W n SI SJ) (hn : n ≤ 14) (hB : Wb W n) (hZ : ∀ j, j < n → ¬ ((W j).1 = 0 ∧ (W j).2.1 = 0)) (f : V3) (hr : Rb f) (e1 : a1 = i6 f.1) (e2 : a2 = i6 f.2.1) (e3 : a3 = i6 f.2.2) (h : ∀ SI' SJ', FI LIk SI SI' → FJ LJsk SJ SJ' → RH (hdB W n (neg3 f)) SI' SJ' → WB (hdB W n (neg3 f)) → efO (hdB W n (neg3 f)) SJ' → Q (ibc ((hdB W n (neg3 f)).isSome = true)) SI' SJ') : DoI E 16 [(.ref 55), (.ref 42), (.long a1), (.long a2), (.long a3)] SI SJ Q := by
  subst e1; subst e2; subst e3
  obtain ⟨b1, b2, b3⟩ := hr
  have hr2 : Rb (neg3 f) := by unfold Rb neg3; dsimp only; omega
  refine st_16 _ _ _ SI SJ ?_
  rw [i6_neg, i6_neg, i6_neg, i6_eq (by omega) (by omega) (by omega) (by omega), i6_eq (by omega) (by omega) (by omega) (by omega), i6_eq (by omega) (by omega) (by omega) (by omega)]
  have fI0 : FI LIk SI (gj_u2 (gj_u2 SI 55 8 (i3 0)) 55 5 (i3 0)) := (FI.rf.u (by unfold LIk; omega)).u (by unfold LIk; omega)
  have fJ0 : FJ LJsk SJ (gj_w2 (gj_w2 (gj_w2 (gj_w2 (gj_w2 SJ 55 9 (i6 (-f.1))) 55 10 (i6 (-f.2.1))) 55 11 (i6 (-f.2.2))) 55 7 (i6 0)) 55 6 (i6 1)) := ((((FJ.rf.w (by unfold LJsk; omega)).w (by unfold LJsk; omega)).w (by unfold LJsk; omega)).w (by unfold LJsk; omega)).w (by unfold LJsk; omega)
  have jk : ∀ {A B : gj_J}, FJ LJk A B → FJ LJsk A B := fun z => z.le (fun o k y => by unfold LJk at y; unfold LJsk; omega)
  have main : neg3 f ≠ (0, 0, 0) → DoV E 17 [(.ref 55), (.ref 42)] (gj_u2 (gj_u2 SI 55 8 (i3 0)) 55 5 (i3 0)) (gj_w2 (gj_w2 (gj_w2 (gj_w2 (gj_w2 SJ 55 9 (i6 (-f.1))) 55 10 (i6 (-f.2.1))) 55 11 (i6 (-f.2.2))) 55 7 (i6 0)) 55 6 (i6 1)) (fun SI2 SJ2 => DoV E 18 [(.ref 55), (.ref 42)] SI2 SJ2 (fun SI4 SJ4 => DoV E 20 [(.ref 55), (.ref 42)] SI4 SJ4 (fun SI6 SJ6 => ((SI6 55 8) = 0 → ((SI6 55 8) = 0 ∨ (SI6 55 8) = 1) ∧ (Q (SI6 55 8) SI6 SJ6)) ∧ (¬ (SI6 55 8) = 0 → DoV E 14 [(.ref 56), (.long (SJ6 55 7)), (.long (SJ6 55 6))] SI6 SJ6 (fun SI8 SJ8 => ((SI8 55 8) = 0 ∨ (SI8 55 8) = 1) ∧ (Q (SI8 55 8) SI8 SJ8)))))) := by
    intro hnz
    have ed : hdB W n (neg3 f) = hs3 W n (neg3 f) := if_neg hnz
    rw [ed] at h
    have hV : RV (neg3 f) (gj_w2 (gj_w2 (gj_w2 (gj_w2 (gj_w2 SJ 55 9 (i6 (-f.1))) 55 10 (i6 (-f.2.1))) 55 11 (i6 (-f.2.2))) 55 7 (i6 0)) 55 6 (i6 1)) := ⟨by rw [w2_n (by omega), w2_n (by omega), w2_n (by omega), w2_n (by omega), w2_s]; rfl, by rw [w2_n (by omega), w2_n (by omega), w2_n (by omega), w2_s]; rfl, by rw [w2_n (by omega), w2_n (by omega), w2_s]; rfl⟩
    have hL0 := hL.f fI0 fJ0 ⟨by unfold LIk; omega, fun k => by unfold LIk; omega⟩ (fun k => by unfold LJsk; omega)
    have hC0 : PB42 W n _ _ := CB42.f hC fI0 fJ0 (fun k => by unfold LIk; omega) (fun k => by unfold LJsk; omega)
    refine sp_seekOnes hL0 hn hB hZ hr2 hV (by show gj_u2 (gj_u2 SI 55 8 (i3 0)) 55 5 (i3 0) 55 8 = i3 0; rw [u2_n (by omega), u2_s]) (fun A1 B1 f1 f2 k1 k2 => ?_)
    refine sp_seekTwos (hL0.k f1 f2) (PB42.k hC0 f1 f2) hn hB hr2 (hV.k f2) _ k1 k2 (fun A2 B2 f3 f4 mk k3 k4 => ?_)
    refine sp_seekThrees (hL0.k (f1.tr f3) (f2.tr f4)) (PB42.k hC0 (f1.tr f3) (f2.tr f4)) hn hB hr2 mk _ k3 k4 (fun A3 B3 f5 f6 k5 k6 => ?_)
    have k5' : RH (hs3 W n (neg3 f)) A3 B3 := k5
    have k6' : WB (hs3 W n (neg3 f)) := k6
    have FA : FI LIk SI A3 := ((fI0.tr f1).tr f3).tr f5
    have FB : FJ LJsk SJ B3 := ((fJ0.tr (jk f2)).tr (jk f4)).tr (jk (LJH_k f6))
    clear k5 k6 k3 k4 k1 k2
    cases hb : hs3 W n (neg3 f) with
    | none =>
      rw [hb] at k5' h
      have e0 : A3 55 8 = i3 0 := k5'
      rw [e0]
      have hh := h A3 B3 FA FB k5' trivial (fun c hc => by cases hc)
      rw [ibc_no] at hh
      exact ⟨fun _ => ⟨Or.inl rfl, hh⟩, fun c => absurd rfl c⟩
    | some c =>
      rw [hb] at k5' k6' h
      obtain ⟨g1, g2, L, S, g3, g4, g5, g6, g7, g8⟩ := k5'
      rw [g1, g3, g4]
      refine ⟨fun z => absurd z (by decide), fun _ => sp_become56 S L ⟨g6.1, by omega⟩ ⟨g5.1, by omega⟩ rfl rfl ?_⟩
      rw [g1]
      obtain ⟨p1, p2⟩ := lo_pr g5.1 k6'.2.1 g7
      rw [p1, p2]
      have hh := h A3 (gj_w2 (gj_w2 B3 56 0 (i6 (lox (sumC c) c.2.2.2))) 56 1 (i6 (loy (sumC c) c.2.2.2))) FA ((FB.w (by unfold LJsk; omega)).w (by unfold LJsk; omega)) ⟨g1, g2, L, S, by rw [w2_n (by omega), w2_n (by omega)]; exact g3, by rw [w2_n (by omega), w2_n (by omega)]; exact g4, g5, g6, g7, fun k hk => ?_⟩ k6' (fun c' hc' => ?_)
      · rw [ibc_sm] at hh
        exact ⟨Or.inr rfl, hh⟩
      · obtain ⟨t1, p, t2, t3⟩ := g8 k hk
        exact ⟨t1, p, by rw [w2_n (by omega), w2_n (by omega)]; exact t2, t3⟩
      · cases hc'
        exact ⟨by rw [w2_n (by omega), w2_s], by rw [w2_s]⟩
  refine ⟨fun c => main (fun z => ?_), fun c => ⟨fun d => main (fun z => ?_), fun d => ⟨fun g => main (fun z => ?_), fun g => ?_⟩⟩⟩
  · exact c (congrArg (fun p => p.1) z)
  · exact d (congrArg (fun p => p.2.1) z)
  · exact g (congrArg (fun p => p.2.2) z)
  · have ez : neg3 f = (0, 0, 0) := by unfold neg3; rw [c, d, g]
    have ed : hdB W n (neg3 f) = some (0, (0, 0, 0), (0, 0, 0), 1) := if_pos ez
    rw [ed] at h
    refine ⟨fun z => absurd z (by decide), fun _ => sp_become56 0 1 (by decide) (by decide) rfl rfl ?_⟩
    have fI1 : FI LIk SI (gj_u2 (gj_u2 (gj_u2 SI 55 8 (i3 0)) 55 5 (i3 0)) 55 8 (i3 1)) := fI0.u (by unfold LIk; omega)
    have hh := h _ _ fI1 ((fJ0.w (o := 56) (k := 0) (x := i6 (lox 0 1)) (by unfold LJsk; omega)).w (o := 56) (k := 1) (x := i6 (loy 0 1)) (by unfold LJsk; omega)) ⟨u2_s, by rw [u2_n (by omega), u2_s]; rfl, 1, 0, by rw [w2_n (by omega), w2_n (by omega), w2_s], by rw [w2_n (by omega), w2_n (by omega), w2_n (by omega), w2_s], by decide, by decide, rfl, fun k hk => absurd hk (Nat.not_lt_zero k)⟩ ⟨by decide, by decide, by decide, fun k hk => absurd hk (Nat.not_lt_zero k)⟩ (fun c' hc' => by cases hc'; exact ⟨by rw [w2_n (by omega), w2_s]; rfl, by rw [w2_s]; rfl⟩)
    rw [ibc_sm] at hh
    rw [u2_s]
    exact ⟨Or.inr rfl, hh⟩
theorem GR.k {A : gj_I} {B : gj_J} (h : GR F SI SJ) (f : FI LIk SI A) (g : FJ LJsk SJ B) : GR F A B := by
  obtain ⟨h1, h2, h3, h4⟩ := h
  exact ⟨h1.f f g ⟨by unfold LIk; omega, fun k => by unfold LIk; omega⟩ (fun k => by unfold LJsk; omega), CB42.f h2 f g (fun k => by unfold LIk; omega) (fun k => by unfold LJsk; omega), by rw [f 0 12 (by unfold LIk; omega)]; exact h3, by rw [f 0 13 (by unfold LIk; omega)]; exact h4⟩
theorem TR.k {A : gj_I} {B : gj_J} (h : TR F SI SJ) (f : FI LIk SI A) (g : FJ LJsk SJ B) : TR F A B := by
  unfold TR
  rw [f 65 4 (by unfold LIk; omega), f 65 5 (by unfold LIk; omega), f 65 6 (by unfold LIk; omega), f 65 7 (by unfold LIk; omega), f 65 8 (by unfold LIk; omega), f 65 9 (by unfold LIk; omega), g 79 0 (by unfold LJsk; omega), g 79 1 (by unfold LJsk; omega), g 80 0 (by unfold LJsk; omega), g 80 1 (by unfold LJsk; omega)]; exact h
theorem CNT.k {A : gj_I} {B : gj_J} (h : CNT F SI SJ) (f : FI LIk SI A) (g : FJ LJsk SJ B) : CNT F A B := ⟨h.1.f f (fun o k h1 h2 => by unfold LIk; omega), h.2.1.k f g, h.2.2.k f g⟩
theorem sp_seekF {Q : Int32 → gj_I → gj_J → Prop} {a1 a2 a3 : Int64} (hC : CNT F SI SJ) (hF : WF F) (f : V3) (hr : Rb f) (e1 : a1 = i6 f.1) (e2 : a2 = i6 f.2.1) (e3 : a3 = i6 f.2.2) (h : ∀ SI' SJ', FI LIk SI SI' → FJ LJsk SJ SJ' → CNT F SI' SJ' → RH (hdF F f) SI' SJ' → WB (hdF F f) → efO (hdF F f) SJ' → Q (ibc ((hdF F f).isSome = true)) SI' SJ') : DoI E 16 [(.ref 55), (.ref 42), (.long a1), (.long a2), (.long a3)] SI SJ Q := by
  have nb := nw_b hF.2.2.1
  refine sp_seek hC.2.1.1 hC.2.1.2.1 (by show nf F * fc F ≤ 14; omega) (Wl_b hF.1 hF.2.1 (hF.2.2.1.ok hF.1.1)) (fun j _ => Wl_z hF.1 hF.2.1 _ j) f hr e1 e2 e3 (fun A B f1 f2 g1 g2 g3 => h A B f1 f2 (hC.k f1 f2) g1 g2 g3)
end SeekH
