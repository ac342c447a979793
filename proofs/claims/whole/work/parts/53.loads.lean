/-! 53: loads of the reference -/
/-- a comma first, where one is due -/
def cm (T : Nat → Int) (n q : Nat) : Int ⊕ (Int × Nat) := if hr T n q = 44 then nms T n 3 (q + 1) else .inl (-1000 - q)
def ldP (T : Nat → Int) (n c p : Nat) : Int ⊕ (V3 × Nat) := if c = 6 then .inl (-4000 - p) else match nms T n 3 p with
  | .inl e => .inl e
  | .inr (x, q) => (match cm T n q with
    | .inl e => .inl e
    | .inr (y, r) => (match cm T n r with
      | .inl e => .inl e
      | .inr (z, s) => .inr ((x, y, z), s)))
def LD (t : Nat → V3) (c : Nat) (SI : gj_I) : Prop := SI 81 19 = i3 c ∧ ∀ j, j < c → SI 90 (3 * j) = i3 (t j).1 ∧ SI 90 (3 * j + 1) = i3 (t j).2.1 ∧ SI 90 (3 * j + 2) = i3 (t j).2.2
theorem LD.f {t : Nat → V3} {c : Nat} {A B : gj_I} (h : LD t c A) (f : FI LRN A B) : LD t c B := ⟨by rw [f 81 19 (by unfold LRN; omega)]; exact h.1, fun j hj => by rw [f 90 _ (by unfold LRN; omega), f 90 _ (by unfold LRN; omega), f 90 _ (by unfold LRN; omega)]; exact h.2 j hj⟩
theorem LD.u {t : Nat → V3} {c : Nat} {A : gj_I} {k : Nat} {x : Int32} (h : LD t c A) (hk : 3 * c ≤ k) : LD t c (gj_u2 A 90 k x) := ⟨by rw [u2_n (by omega)]; exact h.1, fun j hj => by rw [u2_n (by omega), u2_n (by omega), u2_n (by omega)]; exact h.2 j hj⟩
def Lb (v : V3) : Prop := v.1.natAbs ≤ 999 ∧ v.2.1.natAbs ≤ 999 ∧ v.2.2.natAbs ≤ 999
section Loads
variable {E : gj_E} {SI : gj_I} {SJ : gj_J} {F : Nat → Int} {T : Nat → Int} {n p c : Nat} {t : Nat → V3}
theorem sp_readsLoad {Q : Int32 → gj_I → gj_J → Prop} (hP : RP T n p SI) (hD : LD t c SI) (hc : c ≤ 6) (hE : ∀ e SI', ldP T n c p = .inl e → FI LRC SI SI' → SI' 81 16 = i3 e → Q (i3 0) SI' SJ) (hK : ∀ v q SI', ldP T n c p = .inr (v, q) → c < 6 → FI LRC SI SI' → RP T n q SI' → LD (tu t c v) (c + 1) SI' → Lb v → Q (i3 1) SI' SJ) : DoI E 219 [(.ref 81)] SI SJ Q := by
  refine st_219 SI SJ ?_
  rw [hD.1, i3_eq (by omega) (by omega) (by omega) (by omega), hP.2.2.2.2]
  refine ⟨fun c6 => ?_, fun c6 => ?_⟩
  · have c6' : c < 6 := by omega
    unfold ldP at hE hK
    rw [if_neg (by omega)] at hE hK
    -- a number behind its comma is written down
    have nxt : ∀ (i q : Nat) (A : gj_I), 1 ≤ i → i < 3 → RP T n q A → LD t c A → (∀ e B, cm T n q = .inl e → FI LRN A B → B 81 16 = i3 e → Q (i3 0) B SJ) → (∀ y r B, cm T n q = .inr (y, r) → FI LRN A B → RP T n r B → y.natAbs ≤ 999 → LD t c B → GoI E mt_219 21 [some (.ref 81), some (.int (i3 ((i + 1 : Nat) : Int)))] (gj_u2 B 90 (3 * c + i) (i3 y)) SJ Q) → GoI E mt_219 21 [some (.ref 81), some (.int (i3 i))] A SJ Q := by
      intro i q A i1 i3' hPA hDA h0 h1
      unfold cm at h0 h1
      refine lp_219_21 _ A SJ ⟨fun z => ?_, fun _ => ⟨fun z => ?_, fun _ => ?_⟩⟩
      · rw [i3_le (by omega) (by omega) (by omega) (by omega)] at z; omega
      · rw [i3_le0 (by omega) (by omega)] at z; omega
      · refine sp_takesSign hPA 44 (by omega) rfl (fun s B f hPB => ⟨fun _ => ?_, fun q => absurd q (by decide)⟩) (fun s B f g => ⟨fun q => absurd rfl q, fun _ => h0 _ B (if_neg s) f g⟩)
        rw [if_pos s] at h0 h1
        refine sp_readsNumber hPB 3 true (by omega) (fun q => by omega) rfl rfl (fun e C w f2 g2 => ⟨fun q => absurd rfl q, fun _ => h0 e C w (f.tr f2) g2⟩) (fun y r C w f2 hPC vb g2 => ⟨fun _ => ?_, fun q => absurd q (by decide)⟩)
        have hDC := (hDA.f f).f f2
        rw [hDC.1, g2]
        simp only [i3_mul, i3_add]
        rw [i3_in (by omega) (by omega), i3_n (by omega) (by omega), show (3 * (c : Int) + (i : Int)).toNat = 3 * c + i by omega, show (i : Int) + 1 = ((i + 1 : Nat) : Int) by omega]
        exact ⟨by omega, h1 y r C w (f.tr f2) hPC vb hDC⟩
    refine lp_219_21 _ SI SJ ⟨fun z => absurd z (by decide), fun _ => ⟨fun _ => ?_, fun z => absurd (by decide) z⟩⟩
    refine sp_readsNumber hP 3 true (by omega) (fun q => by omega) rfl rfl (fun e C w f2 g2 => ⟨fun q => absurd rfl q, fun _ => ?_⟩) (fun x q A w f hPA xb g => ⟨fun _ => ?_, fun q => absurd q (by decide)⟩)
    · have w' : nms T n 3 p = .inl e := w
      rw [w'] at hE
      exact hE e C rfl (f2.le LRN_C) g2
    · have w' : nms T n 3 p = .inr (x, q) := w
      rw [w'] at hE hK
      dsimp only at hE hK
      have hDA := hD.f f
      rw [hDA.1, g]
      simp only [i3_mul, i3_add]
      rw [i3_in (by omega) (by omega), i3_n (by omega) (by omega), show (3 * (c : Int) + 0).toNat = 3 * c by omega]
      refine ⟨by omega, ?_⟩
      have fA : FI LRC SI (gj_u2 A 90 (3 * c) (i3 x)) := (f.le LRN_C).u (Or.inr rfl)
      refine nxt 1 q _ (by omega) (by omega) hPA.u90 (hDA.u (by omega)) (fun e B z f2 g2 => ?_) (fun y r B z f2 hPB yb hDB => ?_)
      · rw [z] at hE
        exact hE e B rfl (fA.tr (f2.le LRN_C)) g2
      · rw [z] at hE hK
        dsimp only at hE hK
        have fB : FI LRC SI (gj_u2 B 90 (3 * c + 1) (i3 y)) := (fA.tr (f2.le LRN_C)).u (Or.inr rfl)
        refine nxt 2 r _ (by omega) (by omega) hPB.u90 (hDB.u (by omega)) (fun e C w2 f3 g3 => ?_) (fun z2 s C w2 f3 hPC zb hDC => ?_)
        · rw [w2] at hE
          exact hE e C rfl (fB.tr (f3.le LRN_C)) g3
        · rw [w2] at hK
          have hDC2 := hDC.u (k := 3 * c + 2) (x := i3 z2) (by omega)
          refine lp_219_21 _ _ SJ ⟨fun _ => ?_, fun q => absurd (by decide) q⟩
          rw [hDC2.1]
          refine hK (x, y, z2) s _ rfl c6' (((fB.tr (f3.le LRN_C)).u (Or.inr rfl)).u (Or.inl ⟨rfl, by omega⟩)) hPC.u90.u19 ⟨by rw [u2_s, i3_add]; rfl, fun j hj => ?_⟩ ⟨xb, yb, zb⟩
          by_cases e : j = c
          · subst e
            rw [tu_s, u2_n (by omega), u2_n (by omega), u2_n (by omega), u2_n (by omega), u2_n (by omega), u2_s, f3 90 _ (by unfold LRN; omega), f3 90 _ (by unfold LRN; omega), u2_n (by omega), u2_s, f2 90 _ (by unfold LRN; omega), u2_s]
            exact ⟨rfl, rfl, rfl⟩
          · rw [tu_n e, u2_n (o := 81) (b := 3 * j) (by omega), u2_n (o := 81) (b := 3 * j + 1) (by omega), u2_n (o := 81) (b := 3 * j + 2) (by omega)]
            exact hDC2.2 j (by omega)
  · refine sp_wrongAt 4 p rfl rfl ⟨Or.inl rfl, hE (-4000 - p) _ (if_pos (by omega)) (FI.rf.u (Or.inl ⟨rfl, by omega⟩)) (by rw [u2_s]; rfl)⟩
/-- so many numbers of the loads -/
def l3 (t : Nat → V3) (k : Nat) : Int := if k % 3 = 0 then (t (k / 3)).1 else if k % 3 = 1 then (t (k / 3)).2.1 else (t (k / 3)).2.2
def ldF (F : Nat → Int) (c i : Nat) (t : Nat → V3) : Nat → Int := fun j => if j = 116 then c else if 117 ≤ j ∧ j < 117 + i then l3 t (j - 117) else F j
def ldE (F : Nat → Int) (R : Int ⊕ (Nat × (Nat → V3))) : Int × (Nat → Int) := match R with
  | .inl e => (e, F)
  | .inr (c, t) => ((c : Int), ldF F c (3 * c) t)
def loadsR (T F : Nat → Int) (tp x : Int) : Int × (Nat → Int) := if 1 ≤ x ∧ x ≤ 60 ∧ x ≤ tp then ldE F (rd (ldP T x.toNat) T x.toNat 6) else (-1, F)
theorem sp_loads {Q : Int32 → gj_I → gj_J → Prop} {a : Int32} (hR : RF F SI) (hT : RT T SI) (tp x : Int) (hx : -2147483648 ≤ x ∧ x < 2147483648) (ht : SI 81 13 = i3 tp) (ht2 : 0 ≤ tp ∧ tp ≤ 240) (ha : a = i3 x) (h : ∀ SI', RF (loadsR T F tp x).2 SI' → SI' 81 13 = i3 (tpR tp x 60) → FI LOr SI SI' → Q (i3 (loadsR T F tp x).1) SI' SJ) : DoI E 220 [(.ref 81), (.int a)] SI SJ Q := by
  subst ha
  refine st_220 _ SI SJ (sp_begins x 60 tp hx (by omega) hT ht ht2 rfl rfl (fun g A f1 e13 hP => ⟨fun _ => ?_, fun q => absurd q (by decide)⟩) (fun g => ⟨fun q => absurd rfl q, fun _ => ?_⟩))
  · unfold loadsR tpR at h
    rw [if_pos g, if_pos g] at h
    unfold rd at h
    have fA : FI LOr SI (gj_u2 A 81 19 (i3 0)) := (f1.le (fun o k z => by unfold LOr LRC; omega)).u (by unfold LOr LRC; omega)
    have hPA : RP T x.toNat 0 (gj_u2 A 81 19 (i3 0)) := hP.u19
    have hRA : RF F (gj_u2 A 81 19 (i3 0)) := fun k hk => by rw [u2_n (by omega), f1 82 k (by omega)]; exact hR k hk
    have e13A : (gj_u2 A 81 19 (i3 0)) 81 13 = i3 0 := by rw [u2_n (by omega)]; exact e13
    have n13 : ¬ LRC 81 13 := by unfold LRC; omega
    have bad : ∀ (e : Int) (B : gj_I), B 81 16 = i3 e → B 81 13 = i3 0 → RF F B → FI LOr SI B → (∀ C, RF F C → C 81 13 = i3 0 → FI LOr SI C → Q (i3 e) C SJ) → GoI E mt_220 22 [some (.ref 81), none, some (.int (i3 0)), none] B SJ Q := by
      intro e B h16 h13 hB fB hh
      refine lp_220_22 _ B SJ ⟨fun _ => ⟨fun q => absurd rfl q, fun _ => ?_⟩, fun q => absurd rfl q⟩
      rw [h16]; exact hh B hB h13 fB
    have run : ∀ (c : Nat) (t : Nat → V3), c ≤ 6 → ∀ (d i : Nat) (B : gj_I), i + d = 3 * c → LD t c B → B 81 13 = i3 0 → RF (ldF F c i t) B → FI LOr SI B → (∀ C, RF (ldF F c (3 * c) t) C → C 81 13 = i3 0 → FI LOr SI C → Q (i3 c) C SJ) → GoI E mt_220 84 [some (.ref 81), none, none, some (.int (i3 i))] B SJ Q := by
      intro c t c6 d
      induction d with
      | zero =>
        intro i B hi hD h13 hB fB hh
        refine lp_220_84 _ B SJ ?_
        rw [hD.1, i3_mul, i3_le (by omega) (by omega) (by omega) (by omega)]
        refine ⟨fun _ => hh B ?_ h13 fB, fun q => by omega⟩
        rw [show 3 * c = i by omega]; exact hB
      | succ d ih =>
        intro i B hi hD h13 hB fB hh
        refine lp_220_84 _ B SJ ?_
        rw [hD.1, i3_mul, i3_le (by omega) (by omega) (by omega) (by omega)]
        refine ⟨fun q => by omega, fun _ => ?_⟩
        simp only [i3_add]
        rw [i3_in (by omega) (by omega), i3_in (by omega) (by omega), i3_n (by omega) (by omega), i3_n (by omega) (by omega), show ((i : Nat) : Int).toNat = i by omega, show (117 + (i : Int)).toNat = 117 + i by omega, show (i : Int) + 1 = ((i + 1 : Nat) : Int) by omega]
        have ev : B 90 i = i3 (l3 t i) := by
          have hd := hD.2 (i / 3) (by omega)
          unfold l3
          by_cases q0 : i % 3 = 0
          · rw [if_pos q0, ← hd.1, show 3 * (i / 3) = i by omega]
          · rw [if_neg q0]
            by_cases q1 : i % 3 = 1
            · rw [if_pos q1, ← hd.2.1, show 3 * (i / 3) + 1 = i by omega]
            · rw [if_neg q1, ← hd.2.2, show 3 * (i / 3) + 2 = i by omega]
        rw [ev]
        refine ⟨by omega, by omega, ih (i + 1) _ (by omega) ⟨by rw [u2_n (by omega)]; exact hD.1, fun j hj => by rw [u2_n (by omega), u2_n (by omega), u2_n (by omega)]; exact hD.2 j hj⟩ (by rw [u2_n (by omega)]; exact h13) ((hB.u (117 + i) _ rfl).c (fun k hk => ?_)) (fB.u (Or.inr (Or.inl (Or.inr rfl)))) hh⟩
        unfold fu ldF
        by_cases q1 : k = 117 + i
        · rw [if_pos q1, if_neg (by omega), if_pos (by omega), show k - 117 = i by omega]
        · rw [if_neg q1]
          by_cases q0 : k = 116
          · rw [if_pos q0, if_pos q0]
          · rw [if_neg q0, if_neg q0]
            by_cases q2 : 117 ≤ k ∧ k < 117 + i
            · rw [if_pos q2, if_pos (by omega)]
            · rw [if_neg q2, if_neg (show ¬ (117 ≤ k ∧ k < 117 + (i + 1)) by omega)]
    have loop : ∀ (f c q : Nat) (t : Nat → V3) (B : gj_I) (R : Int ⊕ (Nat × (Nat → V3))), 1 ≤ c → c ≤ 6 → c + f = 7 → rdT (ldP T x.toNat) T x.toNat f c q t = R → RP T x.toNat q B → LD t c B → B 81 13 = i3 0 → RF F B → FI LOr SI B → (∀ C, RF (ldE F R).2 C → C 81 13 = i3 0 → FI LOr SI C → Q (i3 (ldE F R).1) C SJ) → GoI E mt_220 22 [some (.ref 81), none, some (.int (i3 1)), none] B SJ Q := by
      intro f
      induction f with
      | zero => intro c q t B R h1 h8 hc; omega
      | succ f ih =>
        intro c q t B R h1 h8 hc hr0 hPB hD h13 hB fB hh
        have hn := hPB.2.1
        have hqn := hPB.2.2.1
        unfold rdT at hr0
        refine lp_220_22 _ B SJ ⟨fun q => absurd q (by decide), fun _ => ?_⟩
        rw [hPB.2.2.2.1, hPB.2.2.2.2, i3_le (by omega) (by omega) (by omega) (by omega)]
        refine ⟨fun z => ⟨fun _ => ?_, fun q => absurd q (by decide)⟩, fun z => ?_⟩
        · rw [if_neg (by omega)] at hr0
          subst hr0
          rw [hD.1]
          refine run c t h8 (3 * c) 0 _ (by omega) ⟨by rw [u2_n (by omega)]; exact hD.1, fun j hj => by rw [u2_n (by omega), u2_n (by omega), u2_n (by omega)]; exact hD.2 j hj⟩ (by rw [u2_n (by omega)]; exact h13) ((hB.u 116 c rfl).c (fun k hk => ?_)) (fB.u (Or.inr (Or.inl (Or.inr rfl)))) hh
          unfold fu ldF
          by_cases q0 : k = 116
          · rw [if_pos q0, if_pos q0]
          · rw [if_neg q0, if_neg q0, if_neg (by omega)]
        · rw [if_pos (by omega)] at hr0
          refine sp_takesSign hPB 59 (by omega) rfl (fun w C fC hPC => ⟨fun q => absurd q (by decide), fun _ => ?_⟩) (fun w C fC h16 => ⟨fun _ => ?_, fun q => absurd rfl q⟩)
          · rw [if_pos w] at hr0
            have h13C : C 81 13 = i3 0 := by rw [fC 81 13 (by unfold LRN; omega)]; exact h13
            have hRC : RF F C := hB.f fC (by unfold LRN; omega)
            have fC2 : FI LOr SI C := fB.tr (fC.le (fun o k z => LRC_Or o k (LRN_C o k z)))
            refine sp_readsLoad hPC (hD.f fC) h8 (fun e D y fD h16 => ⟨fun _ => ?_, fun q => absurd rfl q⟩) (fun v r D y c8 fD hPD hDD vb => ⟨fun q => absurd q (by decide), fun _ => ?_⟩)
            · rw [y] at hr0
              subst hr0
              exact bad e D h16 (by rw [fD 81 13 n13]; exact h13C) (hRC.lrc fD) (fC2.tr (fD.le LRC_Or)) hh
            · rw [y] at hr0
              exact ih (c + 1) r (tu t c v) D R (by omega) (by omega) (by omega) hr0 hPD hDD (by rw [fD 81 13 n13]; exact h13C) (hRC.lrc fD) (fC2.tr (fD.le LRC_Or)) hh
          · rw [if_neg w] at hr0
            subst hr0
            exact bad _ C h16 (by rw [fC 81 13 (by unfold LRN; omega)]; exact h13) (hB.f fC (by unfold LRN; omega)) (fB.tr (fC.le (fun o k z => LRC_Or o k (LRN_C o k z)))) hh
    refine sp_readsLoad (t := fun _ => (0, 0, 0)) (c := 0) hPA ⟨u2_s, fun j hj => by omega⟩ (by omega) (fun e D y fD h16 => ?_) (fun v r D y c8 fD hPD hDD vb => ?_)
    · rw [y] at h
      exact bad e D h16 (by rw [fD 81 13 n13]; exact e13A) (hRA.lrc fD) (fA.tr (fD.le LRC_Or)) h
    · rw [y] at h
      exact loop 6 1 r (tu (fun _ => (0, 0, 0)) 0 v) D _ (by omega) (by omega) (by omega) rfl hPD hDD (by rw [fD 81 13 n13]; exact e13A) (hRA.lrc fD) (fA.tr (fD.le LRC_Or)) h
  · unfold loadsR tpR at h
    rw [if_neg g, if_neg g] at h
    exact h SI hR ht FI.rf
end Loads
