/-! 52: orders of the reference -/
noncomputable def runO (t : Nat → V3) : Nat → Nat → (Nat → Int) → Int × (Nat → Int)
  | 0, k, F => (k, F)
  | f + 1, k, F => if 0 ≤ (dsR F (t k)).1 then runO t f (k + 1) (dsR F (t k)).2 else (k, (dsR F (t k)).2)
noncomputable def orE (F : Nat → Int) (R : Int ⊕ (Nat × (Nat → V3))) : Int × (Nat → Int) := match R with
  | .inl e => (e, F)
  | .inr (c, t) => runO t c 0 F
noncomputable def ordersR (T F : Nat → Int) (tp x : Int) : Int × (Nat → Int) := if 1 ≤ x ∧ x ≤ 120 ∧ x ≤ tp then orE F (rd (clsP T x.toNat) T x.toNat 12) else (-1, F)
theorem WF.runO (t : Nat → V3) : ∀ (f k : Nat) {F : Nat → Int}, WF F → WF (runO t f k F).2 := by
  intro f
  induction f with
  | zero => intro k F h; exact h
  | succ f ih =>
    intro k F h
    unfold Jvm.Pilot.CGraspJudgeLaw_law_r1084_915a35.runO
    split
    · exact ih (k + 1) (h.dsR _)
    · exact h.dsR _
theorem WF.ordersR {F : Nat → Int} (h : WF F) (T : Nat → Int) (tp x : Int) : WF (ordersR T F tp x).2 := by
  unfold Jvm.Pilot.CGraspJudgeLaw_law_r1084_915a35.ordersR
  split
  · unfold orE
    split
    · exact h
    · exact h.runO _ _ _
  · exact h
def LOr (o k : Nat) : Prop := LRC o k ∨ LI2 o k ∨ (o = 81 ∧ (k = 13 ∨ k = 15))
def LOJ (o k : Nat) : Prop := LJ1 o k ∨ LJW o k
theorem LRC_Or : ∀ o k, LRC o k → LOr o k := fun _ _ h => Or.inl h
section Orders2
variable {E : gj_E} {SI : gj_I} {SJ : gj_J} {F : Nat → Int} {T : Nat → Int} {n p c : Nat} {t : Nat → V3}
theorem sp_orders {Q : Int32 → gj_I → gj_J → Prop} {a : Int32} (hR : RF F SI) (hF : WF F) (hT : RT T SI) (tp x : Int) (hx : -2147483648 ≤ x ∧ x < 2147483648) (ht : SI 81 13 = i3 tp) (ht2 : 0 ≤ tp ∧ tp ≤ 240) (ha : a = i3 x) (h : ∀ SI' SJ', RF (ordersR T F tp x).2 SI' → SI' 81 13 = i3 (tpR tp x 120) → FI LOr SI SI' → FJ LOJ SJ SJ' → Q (i3 (ordersR T F tp x).1) SI' SJ') : DoI E 218 [(.ref 81), (.int a)] SI SJ Q := by
  subst ha
  refine st_218 _ SI SJ (sp_begins x 120 tp hx (by omega) hT ht ht2 rfl rfl (fun g A f1 e13 hP => ⟨fun _ => ?_, fun q => absurd q (by decide)⟩) (fun g => ⟨fun q => absurd rfl q, fun _ => ?_⟩))
  · unfold ordersR tpR at h
    rw [if_pos g, if_pos g] at h
    unfold rd at h
    have fA : FI LOr SI (gj_u2 A 81 19 (i3 0)) := (f1.le (fun o k z => by unfold LOr LRC; omega)).u (by unfold LOr LRC; omega)
    have hPA : RP T x.toNat 0 (gj_u2 A 81 19 (i3 0)) := hP.u19
    have hRA : RF F (gj_u2 A 81 19 (i3 0)) := fun k hk => by rw [u2_n (by omega), f1 82 k (by omega)]; exact hR k hk
    have e13A : (gj_u2 A 81 19 (i3 0)) 81 13 = i3 0 := by rw [u2_n (by omega)]; exact e13
    have n13 : ¬ LRC 81 13 := by unfold LRC; omega
    have bad : ∀ (e : Int) (B : gj_I) (J : gj_J), B 81 16 = i3 e → B 81 13 = i3 0 → RF F B → FI LOr SI B → FJ LOJ SJ J → (∀ C J', RF F C → C 81 13 = i3 0 → FI LOr SI C → FJ LOJ SJ J' → Q (i3 e) C J') → GoI E mt_218 22 [some (.ref 81), none, some (.int (i3 0)), none, none] B J Q := by
      intro e B J h16 h13 hB fB fJ hh
      refine lp_218_22 _ B J ⟨fun _ => ⟨fun q => absurd rfl q, fun _ => ?_⟩, fun q => absurd rfl q⟩
      rw [h16]; exact hh B J hB h13 fB fJ
    have run : ∀ (c : Nat) (t : Nat → V3), c ≤ 12 → (∀ j, j < c → Ob (t j)) → ∀ (f k : Nat) (G : Nat → Int) (B : gj_I) (J : gj_J), k + f = c → WF G → OD t c B J → B 81 13 = i3 0 → RF G B → FI LOr SI B → FJ LOJ SJ J → (∀ C J', RF (runO t f k G).2 C → C 81 13 = i3 0 → FI LOr SI C → FJ LOJ SJ J' → Q (i3 (runO t f k G).1) C J') → GoI E mt_218 79 [some (.ref 81), none, none, some (.int (i3 c)), some (.int (i3 k))] B J Q := by
      intro c t c12 tb f
      induction f with
      | zero =>
        intro k G B J hk hG hD h13 hB fB fJ hh
        refine lp_218_79 _ _ B J ⟨fun _ => hh B J hB h13 fB fJ, fun q => ?_⟩
        rw [i3_le (by omega) (by omega) (by omega) (by omega)] at q; omega
      | succ f ih =>
        intro k G B J hk hG hD h13 hB fB fJ hh
        refine lp_218_79 _ _ B J ⟨fun q => ?_, fun q => ?_⟩
        · rw [i3_le (by omega) (by omega) (by omega) (by omega)] at q; omega
        · obtain ⟨d1, d2, d3⟩ := hD.2 k (by omega)
          unfold runO at hh
          refine sp_does hB hG k (by omega) rfl (t k) (tb k (by omega)) d1 d2 d3 (fun C J2 hC fC fJ2 => ⟨fun z => ?_, fun z => ?_⟩)
          · rw [ib_0] at z
            rw [if_neg z] at hh
            exact hh C J2 hC (by rw [fC 81 13 (by unfold LI2 LI1; omega)]; exact h13) (fB.tr (fC.le (fun o k z => Or.inr (Or.inl z)))) (fJ.tr (fJ2.le (fun o k z => Or.inl z)))
          · rw [ib_0, Decidable.not_not] at z
            rw [if_pos z] at hh
            rw [i3_add, show (k : Int) + 1 = ((k + 1 : Nat) : Int) by omega]
            refine ih (k + 1) _ C J2 (by omega) (hG.dsR _) ⟨?_, fun j hj => ?_⟩ (by rw [fC 81 13 (by unfold LI2 LI1; omega)]; exact h13) hC (fB.tr (fC.le (fun o k z => Or.inr (Or.inl z)))) (fJ.tr (fJ2.le (fun o k z => Or.inl z))) hh
            · rw [fC 81 19 (by unfold LI2 LI1; omega)]; exact hD.1
            · rw [fC 90 _ (by unfold LI2 LI1; omega), fC 90 _ (by unfold LI2 LI1; omega), fJ2 91 j (by unfold LJ1; omega)]; exact hD.2 j hj
    have loop : ∀ (f c q : Nat) (t : Nat → V3) (B : gj_I) (J : gj_J) (R : Int ⊕ (Nat × (Nat → V3))), 1 ≤ c → c ≤ 12 → c + f = 13 → rdT (clsP T x.toNat) T x.toNat f c q t = R → RP T x.toNat q B → OD t c B J → (∀ j, j < c → Ob (t j)) → B 81 13 = i3 0 → RF F B → FI LOr SI B → FJ LOJ SJ J → (∀ C J', RF (orE F R).2 C → C 81 13 = i3 0 → FI LOr SI C → FJ LOJ SJ J' → Q (i3 (orE F R).1) C J') → GoI E mt_218 22 [some (.ref 81), none, some (.int (i3 1)), none, none] B J Q := by
      intro f
      induction f with
      | zero => intro c q t B J R h1 h8 hc; omega
      | succ f ih =>
        intro c q t B J R h1 h8 hc hr0 hPB hD hb h13 hB fB fJ hh
        have hn := hPB.2.1
        have hqn := hPB.2.2.1
        unfold rdT at hr0
        refine lp_218_22 _ B J ⟨fun q => absurd q (by decide), fun _ => ?_⟩
        rw [hPB.2.2.2.1, hPB.2.2.2.2, i3_le (by omega) (by omega) (by omega) (by omega)]
        refine ⟨fun z => ⟨fun _ => ?_, fun q => absurd q (by decide)⟩, fun z => ?_⟩
        · rw [if_neg (by omega)] at hr0
          subst hr0
          rw [hD.1]
          exact run c t h8 hb c 0 F B J (by omega) hF hD h13 hB fB fJ hh
        · rw [if_pos (by omega)] at hr0
          refine sp_takesSign hPB 59 (by omega) rfl (fun w C fC hPC => ⟨fun q => absurd q (by decide), fun _ => ?_⟩) (fun w C fC h16 => ⟨fun _ => ?_, fun q => absurd rfl q⟩)
          · rw [if_pos w] at hr0
            have h13C : C 81 13 = i3 0 := by rw [fC 81 13 (by unfold LRN; omega)]; exact h13
            have hRC : RF F C := hB.f fC (by unfold LRN; omega)
            have fC2 : FI LOr SI C := fB.tr (fC.le (fun o k z => LRC_Or o k (LRN_C o k z)))
            refine sp_readsClause hPC (by omega) (hD.f fC) h8 (fun e D y fD h16 => ⟨fun _ => ?_, fun q => absurd rfl q⟩) (fun v r D J2 y c8 fD fJ2 hPD hDD vb => ⟨fun q => absurd q (by decide), fun _ => ?_⟩)
            · rw [y] at hr0
              subst hr0
              exact bad e D J h16 (by rw [fD 81 13 n13]; exact h13C) (hRC.lrc fD) (fC2.tr (fD.le LRC_Or)) fJ hh
            · rw [y] at hr0
              refine ih (c + 1) r (tu t c v) D J2 R (by omega) (by omega) (by omega) hr0 hPD hDD (fun j hj => ?_) (by rw [fD 81 13 n13]; exact h13C) (hRC.lrc fD) (fC2.tr (fD.le LRC_Or)) (fJ.tr (fJ2.le (fun o k z => Or.inr z))) hh
              by_cases q1 : j = c
              · subst q1; rw [tu_s]; exact vb
              · rw [tu_n q1]; exact hb j (by omega)
          · rw [if_neg w] at hr0
            subst hr0
            exact bad _ C J h16 (by rw [fC 81 13 (by unfold LRN; omega)]; exact h13) (hB.f fC (by unfold LRN; omega)) (fB.tr (fC.le (fun o k z => LRC_Or o k (LRN_C o k z)))) fJ hh
    refine sp_readsClause (t := fun _ => (0, 0, 0)) (c := 0) hPA (by omega) ⟨u2_s, fun j hj => by omega⟩ (by omega) (fun e D y fD h16 => ?_) (fun v r D J2 y c8 fD fJ2 hPD hDD vb => ?_)
    · rw [y] at h
      exact bad e D SJ h16 (by rw [fD 81 13 n13]; exact e13A) (hRA.lrc fD) (fA.tr (fD.le LRC_Or)) FJ.rf h
    · rw [y] at h
      refine loop 12 1 r (tu (fun _ => (0, 0, 0)) 0 v) D J2 _ (by omega) (by omega) (by omega) rfl hPD hDD (fun j hj => ?_) (by rw [fD 81 13 n13]; exact e13A) (hRA.lrc fD) (fA.tr (fD.le LRC_Or)) (fJ2.le (fun o k z => Or.inr z)) h
      rw [show j = 0 by omega, tu_s]; exact vb
  · unfold ordersR tpR at h
    rw [if_neg g, if_neg g] at h
    exact h SI SJ hR ht FI.rf FJ.rf
end Orders2
