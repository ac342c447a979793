/-! 43: noted, past -/
/-- what noted changes -/
def LI2 (o k : Nat) : Prop := LI1 o k ∨ o = 82
theorem LI1_2 : ∀ o k, LI1 o k → LI2 o k := fun _ _ h => Or.inl h
theorem LI2_82 (k : Nat) : LI2 82 k := Or.inr rfl
theorem LI1_n (k : Nat) : ¬ LI1 82 k := by unfold LI1; omega
theorem RF.c {F G : Nat → Int} {SI : gj_I} (h : RF F SI) (e : ∀ k, k < 135 → F k = G k) : RF G SI := fun k hk => by rw [← e k hk]; exact h k hk
theorem Ag.fu {F G : Nat → Int} (h : Ag F G) {k : Nat} {v : Int} (hk : 34 ≤ k) : Ag F (fu G k v) := fun j hj => by rw [fu_n (by omega)]; exact h j hj
theorem Ag.rf {F : Nat → Int} : Ag F F := fun _ _ => rfl
section Noted
variable {E : gj_E} {SI : gj_I} {SJ : gj_J} {F : Nat → Int}
theorem noted_end {Q : Int32 → gj_I → gj_J → Prop} {G : Nat → Int} {p : Nat} {A : gj_I} {w its b : Int} {x : Int32} (hp : p < 20) (f0 : FI LI2 SI A) (hW : Wp F) (hT : Wt F) (hN : Wn F) (hA : Ag F G) (hR : RF G A) (h35 : G 35 = p) (hL : LW (Wl F (ctF F)) (fun j => ((j / fc F : Nat) : Int)) (nf F * fc F) A SJ) (hx : x = i3 b) (hb : (b = 1 ∧ firmF F) ∨ (b = 0 ∧ ¬ firmF F)) (h : ∀ r SI' SJ', ntI F b r → RF (fu (fu (fu G (36 + 4 * p + 2) b) (36 + 4 * p + 3) r) 35 (p + 1)) SI' → FI LI2 SI SI' → FJ LPx SJ SJ' → Q (i3 its) SI' SJ') :
    vp_in (((i3 36) + ((i3 4) * (i3 p))) + (i3 2)) 135 ∧ (DoI E 185 [(.ref 81)] (gj_u2 A 82 (gj_n (((i3 36) + ((i3 4) * (i3 p))) + (i3 2))) x) SJ (fun r3 SI4 SJ4 => DoI E 193 [(.ref 81), (.int r3)] SI4 SJ4 (fun r5 SI6 SJ6 => vp_in (((i3 36) + ((i3 4) * (i3 p))) + (i3 3)) 135 ∧ (Q (i3 its) (gj_u2 (gj_u2 SI6 82 (gj_n (((i3 36) + ((i3 4) * (i3 p))) + (i3 3))) r5) 82 35 (((gj_u2 SI6 82 (gj_n (((i3 36) + ((i3 4) * (i3 p))) + (i3 3))) r5) 82 35) + (i3 1))) SJ6)))) := by
  have hb2 := nw_b hN
  have hB := Wl_b hW hT (hN.ok hW.1)
  simp only [i3_mul, i3_add]
  rw [i3_in (by omega) (by omega), i3_in (by omega) (by omega), i3_n (by omega) (by omega), i3_n (by omega) (by omega)]
  rw [show (36 + 4 * (p : Int) + 2).toNat = 36 + 4 * p + 2 by omega, show (36 + 4 * (p : Int) + 3).toNat = 36 + 4 * p + 3 by omega]
  refine ⟨by omega, ?_⟩
  have hL2 : LW (Wl F (ctF F)) (fun j => ((j / fc F : Nat) : Int)) (nf F * fc F) (gj_u2 A 82 (36 + 4 * p + 2) x) SJ := ⟨by rw [u2_n (by omega)]; exact hL.1, fun j hj => by rw [u2_n (o := 82) (a := 88) (by omega)]; exact hL.2 j hj⟩
  refine sp_all hL2.1 (by omega) (sp_rankOf hL2 (by omega) hB (fullS (nf F * fc F)) (by have := fullS_b (n := nf F * fc F) (by omega); omega) rfl (fun r B2 f3 hr hr2 => ⟨by omega, ?_⟩))
  have hR2 := hR.u (36 + 4 * p + 2) b hx
  have hR3 := hR2.u (36 + 4 * p + 3) r rfl
  have e35 : fu (fu G (36 + 4 * p + 2) b) (36 + 4 * p + 3) r 35 = p := by rw [fu_n (by omega), fu_n (by omega)]; exact h35
  have hR4 := hR3.u 35 (p + 1) (x := ((gj_u2 (gj_u2 A 82 (36 + 4 * p + 2) x) 82 (36 + 4 * p + 3) (i3 r)) 82 35) + (i3 1)) (by rw [hR3 35 (by decide), e35, i3_add])
  exact h r _ _ ⟨hb, hr, hr2.1, hr2.2⟩ hR4 (((f0.u (LI2_82 _)).u (LI2_82 _)).u (LI2_82 _)) f3
theorem noted_mid {Q : Int32 → gj_I → gj_J → Prop} {G : Nat → Int} {p : Nat} {A : gj_I} {w its : Int} (hp : p < 20) (f0 : FI LI2 SI A) (hW : Wp F) (hT : Wt F) (hN : Wn F) (hA : Ag F G) (hR : RF G A) (h35 : G 35 = p) (h : ∀ b r SI' SJ', ntI F b r → RF (fu (fu (fu (fu (fu G (36 + 4 * p) w) (36 + 4 * p + 1) (F 17)) (36 + 4 * p + 2) b) (36 + 4 * p + 3) r) 35 (p + 1)) SI' → FI LI2 SI SI' → FJ LJ1 SJ SJ' → Q (i3 its) SI' SJ') :
    vp_in ((i3 36) + ((i3 4) * (i3 p))) 135 ∧ (vp_in (((i3 36) + ((i3 4) * (i3 p))) + (i3 1)) 135 ∧ (DoI E 195 [(.ref 81)] (gj_u2 (gj_u2 A 82 (gj_n ((i3 36) + ((i3 4) * (i3 p)))) (i3 w)) 82 (gj_n (((i3 36) + ((i3 4) * (i3 p))) + (i3 1))) ((gj_u2 A 82 (gj_n ((i3 36) + ((i3 4) * (i3 p)))) (i3 w)) 82 17)) SJ (fun r1 SI2 SJ2 => (r1 = 0 → vp_in (((i3 36) + ((i3 4) * (i3 p))) + (i3 2)) 135 ∧ (DoI E 185 [(.ref 81)] (gj_u2 SI2 82 (gj_n (((i3 36) + ((i3 4) * (i3 p))) + (i3 2))) (i3 0)) SJ2 (fun r3 SI4 SJ4 => DoI E 193 [(.ref 81), (.int r3)] SI4 SJ4 (fun r5 SI6 SJ6 => vp_in (((i3 36) + ((i3 4) * (i3 p))) + (i3 3)) 135 ∧ (Q (i3 its) (gj_u2 (gj_u2 SI6 82 (gj_n (((i3 36) + ((i3 4) * (i3 p))) + (i3 3))) r5) 82 35 (((gj_u2 SI6 82 (gj_n (((i3 36) + ((i3 4) * (i3 p))) + (i3 3))) r5) 82 35) + (i3 1))) SJ6))))) ∧ (¬ r1 = 0 → vp_in (((i3 36) + ((i3 4) * (i3 p))) + (i3 2)) 135 ∧ (DoI E 185 [(.ref 81)] (gj_u2 SI2 82 (gj_n (((i3 36) + ((i3 4) * (i3 p))) + (i3 2))) (i3 1)) SJ2 (fun r7 SI8 SJ8 => DoI E 193 [(.ref 81), (.int r7)] SI8 SJ8 (fun r9 SI10 SJ10 => vp_in (((i3 36) + ((i3 4) * (i3 p))) + (i3 3)) 135 ∧ (Q (i3 its) (gj_u2 (gj_u2 SI10 82 (gj_n (((i3 36) + ((i3 4) * (i3 p))) + (i3 3))) r9) 82 35 (((gj_u2 SI10 82 (gj_n (((i3 36) + ((i3 4) * (i3 p))) + (i3 3))) r9) 82 35) + (i3 1))) SJ10)))))))) := by
  have e0 : gj_n ((i3 36) + ((i3 4) * (i3 p))) = 36 + 4 * p := by rw [i3_mul, i3_add, i3_n (by omega) (by omega)]; omega
  have e1 : gj_n (((i3 36) + ((i3 4) * (i3 p))) + (i3 1)) = 36 + 4 * p + 1 := by simp only [i3_mul, i3_add]; rw [i3_n (by omega) (by omega)]; omega
  refine ⟨by rw [i3_mul, i3_add, i3_in (by omega) (by omega)]; omega, by simp only [i3_mul, i3_add]; rw [i3_in (by omega) (by omega)]; omega, ?_⟩
  rw [e0, e1]
  have hR1 := hR.u (36 + 4 * p) w rfl
  have hR2 := hR1.u (36 + 4 * p + 1) (F 17) (x := (gj_u2 A 82 (36 + 4 * p) (i3 w)) 82 17) (by rw [hR1 17 (by decide), fu_n (by omega), hA 17 (by decide)])
  have hA2 : Ag F (fu (fu G (36 + 4 * p) w) (36 + 4 * p + 1) (F 17)) := (hA.fu (by omega)).fu (by omega)
  have hfi := (hA2.eFirm hW.1 hN).1
  refine sp_isFirmNow hR2 (hA2.p hW) (hA2.t hT) (hA2.f hW.1 hN) (fun A2 B2 f1 f2 hL => ?_)
  have hR3 := hR2.f f1 LI1_n
  have f3 : FI LI2 SI A2 := ((f0.u (LI2_82 _)).u (LI2_82 _)).tr (f1.le LI1_2)
  have hL3 : LW (Wl F (ctF F)) (fun j => ((j / fc F : Nat) : Int)) (nf F * fc F) A2 B2 := by
    have e : ∀ j, j < nf F * fc F → Wl (fu (fu G (36 + 4 * p) w) (36 + 4 * p + 1) (F 17)) (ctF (fu (fu G (36 + 4 * p) w) (36 + 4 * p + 1) (F 17))) j = Wl F (ctF F) j := by
      intro j hj
      rw [hA2.eW hW.1]
      exact Wl_ct (fun i hi => hA2.eCt hN i hi) j hj
    have hL1 := hL.1
    have hL2 := hL.2
    rw [hA2.eNf, hA2.eFc] at hL1 hL2
    exact ⟨hL1, fun j hj => by rw [← e j hj]; exact hL2 j hj⟩
  have e35 : fu (fu G (36 + 4 * p) w) (36 + 4 * p + 1) (F 17) 35 = p := by rw [fu_n (by omega), fu_n (by omega)]; exact h35
  refine ⟨fun c => ?_, fun c => ?_⟩
  · rw [ibc_0, hfi] at c
    exact noted_end (w := w) hp f3 hW hT hN hA2 hR3 e35 hL3 rfl (Or.inr ⟨rfl, c⟩) (fun r A4 B4 g1 g2 g3 g4 => h 0 r A4 B4 g1 g2 g3 (f2.tr (g4.le LPx_J1)))
  · rw [ibc_0, Classical.not_not, hfi] at c
    exact noted_end (w := w) hp f3 hW hT hN hA2 hR3 e35 hL3 rfl (Or.inl ⟨rfl, c⟩) (fun r A4 B4 g1 g2 g3 g4 => h 1 r A4 B4 g1 g2 g3 (f2.tr (g4.le LPx_J1)))
theorem sp_noted {Q : Int32 → gj_I → gj_J → Prop} (hR : RF F SI) (hW : Wp F) (hT : Wt F) (hN : Wn F) (h35 : 0 ≤ F 35 ∧ F 35 ≤ 20) {a1 a2 : Int32} (w its : Int) (ha1 : a1 = i3 w) (ha2 : a2 = i3 its) (h : ∀ b r SI' SJ', ntI F b r → RF (nt F w b r) SI' → FI LI2 SI SI' → FJ LJ1 SJ SJ' → Q (i3 its) SI' SJ') : DoI E 196 [(.ref 81), (.int a1), (.int a2)] SI SJ Q := by
  subst ha1; subst ha2
  refine st_196 _ _ SI SJ ⟨fun c => ?_, fun c => ?_⟩
  · rw [hR 35 (by decide), i3_eq (by omega) (by omega) (by omega) (by omega)] at c
    obtain ⟨p, hp⟩ : ∃ p : Nat, F 35 = p := ⟨(F 35).toNat, by omega⟩
    rw [hR 35 (by decide), hp]
    refine noted_mid (p := p) (by omega) FI.rf hW hT hN Ag.rf hR hp (fun b r A B g1 g2 g3 g4 => h b r A B g1 (g2.c (fun k hk => ?_)) g3 g4)
    unfold nt npt gpt fu
    rw [if_neg c, hp]
    repeat' split
    all_goals first | rfl | omega
  · have c0 := c
    rw [hR 35 (by decide), i3_eq (by omega) (by omega) (by omega) (by omega)] at c
    have key : ∀ (d i : Nat) (A : gj_I), i + d = 76 → FI LI2 SI A → RF (fun j => if 36 ≤ j ∧ j < 36 + i then F (j + 4) else F j) A → GoI E mt_196 14 [some (.ref 81), some (.int (i3 w)), some (.int (i3 its)), some (.int (i3 i))] A SJ Q := by
      intro d
      induction d with
      | zero =>
        intro i A hi f1 hA
        refine lp_196_14 _ _ _ A SJ ⟨fun _ => ?_, fun q => ?_⟩
        · have hG := hA.u 35 19 (x := i3 19) rfl
          refine noted_mid (F := F) (p := 19) (by omega) (f1.u (LI2_82 _)) hW hT hN (fun k hk => ?_) hG fu_s (fun b r A B g1 g2 g3 g4 => h b r A B g1 (g2.c (fun k hk => ?_)) g3 g4)
          · rw [fu_n (by omega)]; rw [if_neg (by omega)]
          · unfold nt npt gpt fu; dsimp only
            rw [if_pos c]
            have hi2 : i = 76 := by omega
            subst hi2
            repeat' split
            all_goals first | rfl | omega
        · rw [i3_le (by omega) (by omega) (by omega) (by omega)] at q; omega
      | succ d ih =>
        intro i A hi f1 hA
        refine lp_196_14 _ _ _ A SJ ⟨fun q => ?_, fun q => ?_⟩
        · rw [i3_le (by omega) (by omega) (by omega) (by omega)] at q; omega
        · simp only [i3_add]
          rw [i3_in (by omega) (by omega), i3_in (by omega) (by omega), i3_n (by omega) (by omega), i3_n (by omega) (by omega), show (40 + (i : Int)).toNat = 40 + i by omega, show (36 + (i : Int)).toNat = 36 + i by omega, show (i : Int) + 1 = ((i + 1 : Nat) : Int) by omega]
          refine ⟨by omega, by omega, ih (i + 1) _ (by omega) (f1.u (LI2_82 _)) ?_⟩
          refine (hA.u (36 + i) (F (40 + i)) ?_).c (fun k hk => ?_)
          · rw [hA (40 + i) (by omega)]; dsimp only; rw [if_neg (by omega)]
          · unfold fu; dsimp only
            by_cases e : k = 36 + i
            · rw [if_pos e, if_pos (by omega), show k + 4 = 40 + i by omega]
            · rw [if_neg e]
              by_cases e2 : 36 ≤ k ∧ k < 36 + i
              · rw [if_pos e2, if_pos (by omega)]
              · rw [if_neg e2, if_neg (by omega)]
    refine key 76 0 SI (by omega) FI.rf (hR.c (fun k hk => ?_))
    rw [if_neg (by omega)]
end Noted
