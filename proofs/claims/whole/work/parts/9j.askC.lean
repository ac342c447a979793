/-! 9j: questions about the plate, in the class -/
def sm (g : Nat → Int) : Nat → Int
  | 0 => 0
  | n + 1 => sm g n + g n
theorem sm_c {g h : Nat → Int} : ∀ n, (∀ i, i < n → g i = h i) → sm g n = sm h n := by
  intro n
  induction n with
  | zero => intro _; rfl
  | succ n ih => intro e; show sm g n + g n = sm h n + h n; rw [ih (fun i hi => e i (by omega)), e n (by omega)]
theorem sm_a {g h : Nat → Int} : ∀ n, sm (fun i => g i + h i) n = sm g n + sm h n := by
  intro n
  induction n with
  | zero => rfl
  | succ n ih => show sm (fun i => g i + h i) n + (g n + h n) = sm g n + g n + (sm h n + h n); rw [ih]; omega
theorem sm_l {g : Nat → Int} : ∀ n, sm g (n + 1) = g 0 + sm (fun i => g (i + 1)) n := by
  intro n
  induction n with
  | zero => show 0 + g 0 = g 0 + 0; omega
  | succ n ih => show sm g (n + 1) + g (n + 1) = g 0 + (sm (fun i => g (i + 1)) n + g (n + 1)); rw [ih]; omega
theorem sm_sym {f : Nat → Nat → Int} (hs : ∀ i j, f i j = f j i) (h0 : ∀ i, f i i = 0) : ∀ n, sm (fun i => sm (f i) n) n = 2 * sm (fun i => sm (fun t => f i (i + 1 + t)) (n - (i + 1))) n := by
  intro n
  induction n with
  | zero => rfl
  | succ n ih =>
    have a : sm (fun i => sm (f i) (n + 1)) n = sm (fun i => sm (f i) n) n + sm (fun i => f i n) n := sm_a n
    have b : sm (fun i => sm (fun t => f i (i + 1 + t)) (n + 1 - (i + 1))) n = sm (fun i => sm (fun t => f i (i + 1 + t)) (n - (i + 1))) n + sm (fun i => f i n) n := by
      rw [← sm_a]
      refine sm_c n (fun i hi => ?_)
      rw [show n + 1 - (i + 1) = (n - (i + 1)) + 1 by omega]
      show _ + f i (i + 1 + (n - (i + 1))) = _
      rw [show i + 1 + (n - (i + 1)) = n by omega]
    show sm (fun i => sm (f i) (n + 1)) n + (sm (f n) n + f n n) = 2 * (sm (fun i => sm (fun t => f i (i + 1 + t)) (n + 1 - (i + 1))) n + sm (fun t => f n (n + 1 + t)) (n + 1 - (n + 1)))
    rw [a, b, ih, h0, Nat.sub_self]
    have e : sm (fun i => f i n) n = sm (f n) n := sm_c n (fun i _ => hs i n)
    rw [e]
    show _ = 2 * (_ + 0)
    omega
theorem opN_sm (F : Nat → Int) (i : Int) : ∀ d j, opN F i j d = sm (fun t => bz (opp F i ((j + t : Nat) : Int))) d := by
  intro d
  induction d with
  | zero => intro j; rfl
  | succ d ih =>
    intro j
    rw [sm_l]
    show bz (opp F i j) + opN F i (j + 1) d = _
    rw [ih (j + 1)]
    congr 1
    exact sm_c d (fun t _ => by rw [show j + 1 + t = j + (t + 1) by omega])
theorem opS_sm (F : Nat → Int) : ∀ d i, opS F i d = sm (fun t => opN F ((i + t : Nat) : Int) 0 (pn F)) d := by
  intro d
  induction d with
  | zero => intro i; rfl
  | succ d ih =>
    intro i
    rw [sm_l]
    show opN F i 0 (pn F) + opS F (i + 1) d = _
    rw [ih (i + 1)]
    congr 1
    exact sm_c d (fun t _ => by rw [show i + 1 + t = i + (t + 1) by omega])
theorem opS_half (F : Nat → Int) : opS F 0 (pn F) / 2 = sm (fun i => opN F i (i + 1) (pn F - (i + 1))) (pn F) := by
  have key := sm_sym (f := fun i j => bz (opp F i j)) (fun i j => by
    have : opp F i j ↔ opp F j i := ⟨fun z => ⟨fun e => z.1 e.symm, z.2.2, z.2.1⟩, fun z => ⟨fun e => z.1 e.symm, z.2.2, z.2.1⟩⟩
    by_cases q : opp F i j
    · rw [bz_t q, bz_t (this.mp q)]
    · rw [bz_f q, bz_f (fun z => q (this.mpr z))]) (fun i => bz_f (fun z => z.1 rfl)) (pn F)
  have a : opS F 0 (pn F) = sm (fun i => sm (fun j => bz (opp F i j)) (pn F)) (pn F) := by
    rw [opS_sm]
    refine sm_c _ (fun i _ => ?_)
    rw [opN_sm, Nat.zero_add]
    exact sm_c _ (fun t _ => by rw [Nat.zero_add])
  have b : sm (fun i => opN F i (i + 1) (pn F - (i + 1))) (pn F) = sm (fun i => sm (fun t => bz (opp F i ((i + 1 + t : Nat) : Int))) (pn F - (i + 1))) (pn F) := sm_c _ (fun i _ => opN_sm F i _ _)
  rw [a, key, b]
  omega
section AskC
variable {E : gj_E} {SI : gj_I} {SJ : gj_J} {F : Nat → Int}
theorem sp_oppFrom {Q : Int32 → gj_I → gj_J → Prop} {a b : Int32} (hN : NS3 F SI) (hF : WF F) (i j : Nat) (hi : i < pn F) (hj : j ≤ pn F) (ha : a = i3 i) (hb : b = i3 j) (h : Q (i3 (opN F i j (pn F - j))) SI SJ) : DoI E 122 [(.ref 0), (.int a), (.int b)] SI SJ Q := by
  subst ha; subst hb
  obtain ⟨pe1, pe2⟩ := pn_e hF.1
  obtain ⟨hX, hD, hf, -, -⟩ := hN
  refine st_122 _ _ SI SJ ?_
  refine up_lp (α := Int) (P := fun t c A B => A = SI ∧ B = SJ ∧ j ≤ t ∧ (0 ≤ c ∧ c ≤ t) ∧ c + opN F i t (pn F - t) = opN F i j (pn F - j)) (G := fun t c A B => GoI E mt_122 5 [some (.ref 0), some (.int (i3 (i : Nat))), none, some (.int (i3 c)), some (.int (i3 (t : Nat)))] A B Q) (pn F) ?_ ?_ j 0 SI SJ hj ⟨rfl, rfl, Nat.le_refl _, by omega, by omega⟩
  · rintro c A B ⟨rfl, rfl, jt, cb, e⟩
    rw [Nat.sub_self] at e
    have e' : c = opN F i j (pn F - j) := by rw [← e]; show c = c + 0; omega
    refine lp_122_5 _ _ _ A B ⟨fun _ => by rw [e']; exact h, fun q => ?_⟩
    rw [hD.2.1, i3_le (by omega) (by omega) (by omega) (by omega)] at q; omega
  · rintro t c A B ht ⟨rfl, rfl, jt, cb, e⟩ ih
    rw [show pn F - t = (pn F - (t + 1)) + 1 by omega] at e
    have e' : c + (bz (opp F i t) + opN F i (t + 1) (pn F - (t + 1))) = opN F i j (pn F - j) := e
    refine lp_122_5 _ _ _ A B ⟨fun q => ?_, fun q => sp_face hX hD hF.1 hF.2.1 hf.2.2.1 hf.2.2.2.1 i t hi ht rfl rfl ⟨fun z => ?_, fun z => ?_⟩⟩
    · rw [hD.2.1, i3_le (by omega) (by omega) (by omega) (by omega)] at q; omega
    · rw [ibc_0] at z
      rw [bz_f z] at e'
      rw [i3_add]
      exact ih c A B ⟨rfl, rfl, by omega, by omega, by omega⟩
    · rw [ibc_0, Classical.not_not] at z
      rw [bz_t z] at e'
      rw [i3_add, i3_add]
      exact ih (c + 1) A B ⟨rfl, rfl, by omega, by omega, by omega⟩
theorem sp_oppFirst {Q : Int32 → gj_I → gj_J → Prop} {a : Int32} (hN : NS3 F SI) (hF : WF F) (i : Nat) (hi : i < pn F) (ha : a = i3 i) (h : Q (i3 (opF F i 0 (pn F))) SI SJ) : DoI E 123 [(.ref 0), (.int a)] SI SJ Q := by
  subst ha
  obtain ⟨pe1, pe2⟩ := pn_e hF.1
  obtain ⟨hX, hD, hf, -, -⟩ := hN
  refine st_123 _ SI SJ ?_
  refine up_lp (α := Unit) (P := fun t _ A B => A = SI ∧ B = SJ ∧ opF F i t (pn F - t) = opF F i 0 (pn F)) (G := fun t _ A B => GoI E mt_123 2 [some (.ref 0), some (.int (i3 (i : Nat))), some (.int (i3 (t : Nat)))] A B Q) (pn F) ?_ ?_ 0 () SI SJ (by omega) ⟨rfl, rfl, rfl⟩
  · rintro _ A B ⟨rfl, rfl, e⟩
    rw [Nat.sub_self] at e
    have e' : (-2 : Int) = opF F i 0 (pn F) := e
    refine lp_123_2 _ _ A B ⟨fun _ => by rw [← e'] at h; exact h, fun q => ?_⟩
    rw [hD.2.1, i3_le (by omega) (by omega) (by omega) (by omega)] at q; omega
  · rintro t _ A B ht ⟨rfl, rfl, e⟩ ih
    rw [show pn F - t = (pn F - (t + 1)) + 1 by omega] at e
    refine lp_123_2 _ _ A B ⟨fun q => ?_, fun q => sp_face hX hD hF.1 hF.2.1 hf.2.2.1 hf.2.2.2.1 i t hi ht rfl rfl ⟨fun z => ?_, fun z => ?_⟩⟩
    · rw [hD.2.1, i3_le (by omega) (by omega) (by omega) (by omega)] at q; omega
    · rw [ibc_0] at z
      have e2 : opF F i t ((pn F - (t + 1)) + 1) = opF F i (t + 1) (pn F - (t + 1)) := if_neg z
      rw [i3_add]
      exact ih () A B ⟨rfl, rfl, by rw [← e2]; exact e⟩
    · rw [ibc_0, Classical.not_not] at z
      have e2 : opF F i t ((pn F - (t + 1)) + 1) = t := if_pos z
      rw [← e, e2] at h; exact h
theorem sp_oppCouples {Q : Int32 → gj_I → gj_J → Prop} (hN : NS3 F SI) (hF : WF F) (h : Q (i3 (opS F 0 (pn F) / 2)) SI SJ) : DoI E 121 [(.ref 0)] SI SJ Q := by
  obtain ⟨pe1, pe2⟩ := pn_e hF.1
  rw [opS_half] at h
  refine st_121 SI SJ ?_
  refine up_lp (α := Unit) (P := fun t _ A B => A = SI ∧ B = SJ) (G := fun t _ A B => GoI E mt_121 4 [some (.ref 0), some (.int (i3 (sm (fun i => opN F i (i + 1) (pn F - (i + 1))) t))), some (.int (i3 (t : Nat)))] A B Q) (pn F) ?_ ?_ 0 () SI SJ (by omega) ⟨rfl, rfl⟩
  · rintro _ A B ⟨rfl, rfl⟩
    refine lp_121_4 _ _ A B ⟨fun _ => h, fun q => ?_⟩
    rw [hN.2.1.2.1, i3_le (by omega) (by omega) (by omega) (by omega)] at q; omega
  · rintro t _ A B ht ⟨rfl, rfl⟩ ih
    refine lp_121_4 _ _ A B ⟨fun q => ?_, fun q => sp_oppFrom hN hF t (t + 1) ht (by omega) rfl (by rw [i3_add]; rfl) ?_⟩
    · rw [hN.2.1.2.1, i3_le (by omega) (by omega) (by omega) (by omega)] at q; omega
    · rw [i3_add, i3_add]
      exact ih () A B ⟨rfl, rfl⟩
theorem sp_oppositeC {Q : Int32 → gj_I → gj_J → Prop} {a b : Int32} (hN : NS3 F SI) (hF : WF F) (i j : Int) (ir : -2147483648 ≤ i ∧ i < 2147483648) (jr : -2147483648 ≤ j ∧ j < 2147483648) (ha : a = i3 i) (hb : b = i3 j) (h : Q (i3 (oppA F i j)) SI SJ) : DoI E 120 [(.ref 0), (.int a), (.int b)] SI SJ Q := by
  subst ha; subst hb
  obtain ⟨pe1, pe2⟩ := pn_e hF.1
  have hN2 := hN
  obtain ⟨hX, hD, hf, -, -⟩ := hN2
  unfold oppA at h
  rw [pe1] at h
  refine st_120 _ _ SI SJ ?_
  rw [hD.2.1, i3_lt0 (by omega) (by omega), i3_lt0 (by omega) (by omega), i3_le (by omega) (by omega) (by omega) (by omega), i3_lt (by omega) (by omega) (by omega) (by omega)]
  refine ⟨fun c => ?_, fun c => ⟨fun d => ?_, fun d => ⟨fun g => ?_, fun g => ⟨fun t => ?_, fun t => ?_⟩⟩⟩⟩
  · rw [if_neg (by omega)] at h; exact h
  · rw [if_neg (by omega)] at h; exact h
  · rw [if_neg (by omega)] at h; exact h
  · rw [if_pos (by omega)] at h
    obtain ⟨m, hm⟩ : ∃ m : Nat, i = m := ⟨i.toNat, by omega⟩
    obtain ⟨k, hk⟩ : ∃ k : Nat, j = k := ⟨j.toNat, by omega⟩
    subst hm; subst hk
    exact sp_face hX hD hF.1 hF.2.1 hf.2.2.1 hf.2.2.2.1 m k (by omega) (by omega) rfl rfl (sp_bit _ rfl h)
  · rw [if_neg (by omega)] at h; exact h
theorem sp_cornerC {Q : Int32 → gj_I → gj_J → Prop} {a b : Int32} (hX : PX4 F SI) (hW : Wc F) (i w : Int) (ir : -2147483648 ≤ i ∧ i < 2147483648) (wr : -2147483648 ≤ w ∧ w < 2147483648) (ha : a = i3 i) (hb : b = i3 w) (h : Q (i3 (cornerA F i w)) SI SJ) : DoI E 116 [(.ref 0), (.int a), (.int b)] SI SJ Q := by
  subst ha; subst hb
  obtain ⟨n1, n2, n3⟩ := hW.n
  unfold cornerA at h
  refine st_116 _ _ SI SJ ?_
  rw [hX.1, n3, i3_lt0 (by omega) (by omega), i3_lt (by omega) (by omega) (by omega) (by omega), i3_eq0 (by omega) (by omega), i3_eq (by omega) (by omega) (by omega) (by omega)]
  refine ⟨fun c => ?_, fun c => ⟨fun d => ?_, fun d => ?_⟩⟩
  · rw [if_neg (by omega)] at h; exact h
  · obtain ⟨m, hm⟩ : ∃ m : Nat, i = m := ⟨i.toNat, by omega⟩
    subst hm
    rw [show ((m : Nat) : Int).toNat = m by omega] at h
    obtain ⟨y1, y2⟩ := hX.2 m (by omega)
    rw [i3_in (by omega) (by omega), i3_n (by omega) (by omega), show ((m : Nat) : Int).toNat = m by omega, y1, y2]
    refine ⟨fun z => ⟨fun z2 => ?_, fun z2 => ⟨by omega, ?_⟩⟩, fun z => ⟨by omega, ?_⟩⟩
    · rw [if_neg (by omega)] at h; exact h
    · rw [if_pos (by omega), if_neg (by omega)] at h; exact h
    · rw [if_pos (by omega), if_pos z] at h; exact h
  · rw [if_neg (by omega)] at h; exact h
theorem sp_edgeC {Q : Int64 → gj_I → gj_J → Prop} {a b : Int32} (hX : PX4 F SI) (hD : PD4 F SI) (hW : Wc F) (e w : Int) (er : -2147483648 ≤ e ∧ e < 2147483648) (wr : -2147483648 ≤ w ∧ w < 2147483648) (ha : a = i3 e) (hb : b = i3 w) (h : Q (i6 (edgeA F e w)) SI SJ) : DoL E 117 [(.ref 0), (.int a), (.int b)] SI SJ Q := by
  subst ha; subst hb
  obtain ⟨n1, n2, n3⟩ := hW.n
  unfold edgeA at h
  refine st_117 _ _ SI SJ ?_
  rw [hX.1, n3, i3_lt0 (by omega) (by omega), i3_lt (by omega) (by omega) (by omega) (by omega)]
  refine ⟨fun c => ?_, fun c => ⟨fun d => ?_, fun d => ?_⟩⟩
  · rw [if_neg (by omega)] at h; exact h
  · obtain ⟨m, hm⟩ : ∃ m : Nat, e = m := ⟨e.toNat, by omega⟩
    subst hm
    rw [if_pos ⟨by omega, d⟩, show ((m : Nat) : Int).toNat = m by omega] at h
    obtain ⟨y1, y2, y3⟩ := hD.1 m (by omega)
    have ab := hW.a m; have sb := hW.s m
    rw [i3_in (by omega) (by omega), i3_n (by omega) (by omega), show ((m : Nat) : Int).toNat = m by omega, y1, y2, y3, i3_neg, i3_64 (by omega) (by omega), i3_64 (by omega) (by omega), i3_64 (by omega) (by omega), i3_64 (by omega) (by omega), i3_t (by omega) (by omega)]
    refine ⟨fun z => ⟨by omega, ?_⟩, fun z => ⟨by omega, ?_⟩, fun z => ⟨by omega, ?_⟩, fun z => ⟨by omega, ?_⟩, fun z => ⟨by omega, ?_⟩, fun z => ?_⟩
    · rw [i3_eq (by omega) (by omega) (by omega) (by omega)] at z; rw [if_pos (by omega)] at h; exact h
    · rw [i3_eq (by omega) (by omega) (by omega) (by omega)] at z; rw [if_neg (by omega), if_pos z] at h; exact h
    · rw [i3_eq (by omega) (by omega) (by omega) (by omega)] at z; rw [if_neg (by omega), if_neg (by omega), if_pos z] at h; exact h
    · rw [i3_eq (by omega) (by omega) (by omega) (by omega)] at z; rw [if_pos (by omega)] at h; exact h
    · rw [i3_eq (by omega) (by omega) (by omega) (by omega)] at z; rw [if_neg (by omega), if_neg (by omega), if_neg (by omega), if_pos z] at h; exact h
    · rw [if_neg (by omega), if_neg (by omega), if_neg (by omega), if_neg (by omega)] at h; exact h
  · rw [if_neg (by omega)] at h; exact h
theorem sp_placeC {Q : Int32 → gj_I → gj_J → Prop} {a b : Int32} (hN : NS3 F SI) (hF : WF F) (i w : Int) (ir : -2147483648 ≤ i ∧ i < 2147483648) (wr : -2147483648 ≤ w ∧ w < 2147483648) (ha : a = i3 i) (hb : b = i3 w) (h : Q (i3 (placeA F i w)) SI SJ) : DoI E 118 [(.ref 0), (.int a), (.int b)] SI SJ Q := by
  subst ha; subst hb
  obtain ⟨pe1, pe2⟩ := pn_e hF.1
  have hN2 := hN
  obtain ⟨hX, hD, hf, -, -⟩ := hN2
  have hW := hF.1.1
  have bad : ¬ (0 ≤ i ∧ i < pl F (nC F)) → Q (i3 (-1)) SI SJ := fun z => by
    have e : placeA F i w = -1 := if_neg z
    rw [e] at h; exact h
  refine st_118 _ _ SI SJ ?_
  rw [hD.2.1, i3_lt0 (by omega) (by omega), i3_lt (by omega) (by omega) (by omega) (by omega)]
  refine ⟨fun c => bad (by omega), fun c => ⟨fun d => ?_, fun d => bad (by omega)⟩⟩
  obtain ⟨m, hm⟩ : ∃ m : Nat, i = m := ⟨i.toNat, by omega⟩
  subst hm
  have z0 : 0 ≤ (m : Int) ∧ (m : Int) < pl F (nC F) := by omega
  obtain ⟨i1, i2, i4⟩ := pe_s z0.1 z0.2
  have pb := ps_b z0.1 z0.2
  have sb := hW.s (pe F m)
  have n8 := hW.n.2.1
  obtain ⟨d1, d2⟩ := hD.2.2 m (by omega)
  have fb := fgA_b hF.2.2.2.1 (pe F m) (ps F m)
  have fi := fgA_I F (pe F m) (ps F m)
  unfold placeA at h
  rw [if_pos z0, show xp F m = px F (pe F m) (ps F m) from rfl, show yp F m = py F (pe F m) (ps F m) from rfl] at h
  rw [i3_in (by omega) (by omega), i3_n (by omega) (by omega), show ((m : Nat) : Int).toNat = m by omega, d1, d2, i3_t (by omega) (by omega)]
  refine ⟨by omega, fun y => ?_, fun y => ?_, fun y => ?_, fun y => ?_, fun y => ?_, fun y => ?_, fun y => ?_, fun y => ?_⟩
  · rw [i3_eq (by omega) (by omega) (by omega) (by omega)] at y; rw [if_pos y] at h; exact h
  · rw [i3_eq (by omega) (by omega) (by omega) (by omega)] at y; rw [if_neg (by omega), if_pos y] at h; exact h
  · rw [i3_eq (by omega) (by omega) (by omega) (by omega)] at y; rw [if_neg (by omega), if_neg (by omega), if_pos y] at h
    exact sp_stepX hX hD hW (pe F m) (ps F m) i1 rfl rfl h
  · rw [i3_eq (by omega) (by omega) (by omega) (by omega)] at y; rw [if_neg (by omega), if_neg (by omega), if_neg (by omega), if_pos y] at h
    exact sp_stepY hX hD hW (pe F m) (ps F m) i1 rfl rfl h
  · rw [i3_eq (by omega) (by omega) (by omega) (by omega)] at y; rw [if_neg (by omega), if_neg (by omega), if_neg (by omega), if_neg (by omega), if_pos y] at h
    refine sp_fingerAtC hf.1 hf.2.1 hF.2.2.2.1 (pe F m) (ps F m) (fgA F (pe F m) (ps F m)) (by omega) (by omega) rfl rfl fi ?_
    rw [i3_0le (by omega) (by omega)]
    refine ⟨fun x => ?_, fun x => ?_⟩
    · rw [if_neg (by omega)] at h; exact h
    · rw [if_pos (by omega)] at h; exact h
  · rw [i3_eq (by omega) (by omega) (by omega) (by omega)] at y; rw [if_neg (by omega), if_neg (by omega), if_neg (by omega), if_neg (by omega), if_neg (by omega), if_pos y] at h
    exact sp_oppFrom hN hF m 0 (by omega) (by omega) rfl rfl h
  · rw [i3_eq (by omega) (by omega) (by omega) (by omega)] at y; rw [if_neg (by omega), if_neg (by omega), if_neg (by omega), if_neg (by omega), if_neg (by omega), if_neg (by omega), if_pos y] at h
    exact sp_oppFirst hN hF m (by omega) rfl h
  · rw [if_neg (by omega), if_neg (by omega), if_neg (by omega), if_neg (by omega), if_neg (by omega), if_neg (by omega), if_neg (by omega)] at h; exact h
theorem sp_wrenchC {Q : Int64 → gj_I → gj_J → Prop} {a b : Int32} (hg : GR F SI SJ) (hN : Wn F) (j w : Int) (jr : -2147483648 ≤ j ∧ j < 2147483648) (wr : -2147483648 ≤ w ∧ w < 2147483648) (ha : a = i3 j) (hb : b = i3 w) (h : Q (i6 (wrenchA F j w)) SI SJ) : DoL E 125 [(.ref 0), (.int a), (.int b)] SI SJ Q := by
  subst ha; subst hb
  have nb := nw_b hN
  have hL := hg.1
  have bad : ¬ (0 ≤ j ∧ j < ((nf F * fc F : Nat) : Int)) → Q (i6 (-9000000000000000000)) SI SJ := fun z => by
    have e : wrenchA F j w = -9000000000000000000 := if_neg z
    rw [e] at h; exact h
  have nW' : nW F = nf F * fc F := rfl
  refine st_125 _ _ SI SJ ?_
  rw [hL.1, nW', i3_lt0 (by omega) (by omega), i3_lt (by omega) (by omega) (by omega) (by omega)]
  refine ⟨fun c => bad (by omega), fun c => ⟨fun d => ?_, fun d => bad (by omega)⟩⟩
  obtain ⟨m, hm⟩ : ∃ m : Nat, j = m := ⟨j.toNat, by omega⟩
  subst hm
  unfold wrenchA at h
  rw [if_pos ⟨by omega, d⟩, show ((m : Nat) : Int).toNat = m by omega] at h
  obtain ⟨l1, l2, l3, l4⟩ := hL.2 m (by rw [nW']; omega)
  have dl : m / fc F ≤ m := Nat.div_le_self ..
  have d12 : ((m / fc F : Nat) : Int) < 2147483648 := Int.ofNat_lt.mpr (Nat.lt_of_le_of_lt dl (show m < 2147483648 by omega))
  have d0 : (0 : Int) ≤ ((m / fc F : Nat) : Int) := Int.natCast_nonneg _
  rw [i3_in (by omega) (by omega), i3_n (by omega) (by omega), show ((m : Nat) : Int).toNat = m by omega, l1, l2, l3, l4, i3_t (by omega) (by omega), i3_64 (Int.le_trans (by decide) d0) d12]
  refine ⟨fun y => ⟨by omega, ?_⟩, fun y => ⟨by omega, ?_⟩, fun y => ⟨by omega, ?_⟩, fun y => ⟨by omega, ?_⟩, fun y => ?_⟩
  · rw [i3_eq (by omega) (by omega) (by omega) (by omega)] at y; rw [if_pos y] at h; exact h
  · rw [i3_eq (by omega) (by omega) (by omega) (by omega)] at y; rw [if_neg (by omega), if_pos y] at h; exact h
  · rw [i3_eq (by omega) (by omega) (by omega) (by omega)] at y; rw [if_neg (by omega), if_neg (by omega), if_pos y] at h; exact h
  · rw [i3_eq (by omega) (by omega) (by omega) (by omega)] at y; rw [if_neg (by omega), if_neg (by omega), if_neg (by omega), if_pos y] at h; exact h
  · rw [if_neg (by omega), if_neg (by omega), if_neg (by omega), if_neg (by omega)] at h; exact h
end AskC
