/-! 54: feed, seed, keep, undo, check of the reference -/
/-- byte k of a word, from below -/
def byt (a : Int32) (k : Nat) : Int := ((a >>> ((i3 8 * i3 k) &&& 31)) &&& i3 255).toInt
theorem and255 (x : Int32) : 0 ≤ (x &&& i3 255).toInt ∧ (x &&& i3 255).toInt ≤ 255 := by
  have e : (x &&& i3 255).toBitVec = x.toBitVec &&& 255#32 := rfl
  have h : (x &&& i3 255).toInt = ((x.toBitVec &&& 255#32).toInt) := rfl
  have h2 : (x.toBitVec &&& 255#32).toNat ≤ 255 := by rw [BitVec.toNat_and]; exact Nat.and_le_right
  rw [h, BitVec.toInt_eq_toNat_of_lt (by omega)]
  omega
theorem low8 (x : Int32) : x.toInt8.toInt32.toInt8.toInt32 &&& i3 255 = x &&& i3 255 := by
  apply Int32.toBitVec_inj.mp
  rw [Int32.toBitVec_and, Int32.toBitVec_and, Int8.toBitVec_toInt32, Int32.toBitVec_toInt8, Int8.toBitVec_toInt32, Int32.toBitVec_toInt8]
  have e : (i3 255).toBitVec = 255#32 := rfl
  rw [e]
  have m : (255#32) = BitVec.setWidth 32 (BitVec.allOnes 8) := by decide
  apply BitVec.eq_of_getLsbD_eq
  intro i hi
  rw [BitVec.getLsbD_and, BitVec.getLsbD_and, m, BitVec.getLsbD_setWidth, BitVec.getLsbD_allOnes]
  by_cases q : i < 8
  · simp only [BitVec.getLsbD_signExtend, q, hi, decide_true, Bool.true_and, if_true]
  · simp [q]
def tpd (T : Nat → Int) (p : Nat) (v : Int32) (i j : Nat) : Int := if p ≤ j ∧ j < p + i then byt v (p + 3 - j) else T j
theorem tpd_p {T : Nat → Int} {p i j : Nat} {v : Int32} (h : p ≤ j ∧ j < p + i) : tpd T p v i j = byt v (p + 3 - j) := if_pos h
theorem tpd_n {T : Nat → Int} {p i j : Nat} {v : Int32} (h : ¬ (p ≤ j ∧ j < p + i)) : tpd T p v i j = T j := if_neg h
/-- a word is written at p -/
def typ (T : Nat → Int) (p : Nat) (v : Int32) : Nat → Int := tpd T p v 4
def LFd (o k : Nat) : Prop := o = 89 ∨ (o = 81 ∧ k = 13)
section Feed
variable {E : gj_E} {SI : gj_I} {SJ : gj_J} {F : Nat → Int} {T : Nat → Int}
theorem sp_types {Q : gj_I → gj_J → Prop} {v : Int32} (hT : RT T SI) (p : Nat) (hp : p + 4 ≤ 240) (ht : SI 81 13 = i3 p) (h : ∀ SI', RT (typ T p v) SI' → SI' 81 13 = i3 ((p + 4 : Nat) : Int) → FI LFd SI SI' → Q SI' SJ) : DoV E 205 [(.ref 81), (.int v)] SI SJ Q := by
  refine st_205 _ SI SJ ?_
  have key : ∀ (d i : Nat) (A : gj_I), i + d = 4 → RT (tpd T p v i) A → A 81 13 = i3 ((p + i : Nat) : Int) → FI LFd SI A → GoV E mt_205 2 [some (.ref 81), some (.int v), some (.int (i3 (3 - (i : Int))))] A SJ Q := by
    intro d
    induction d with
    | zero =>
      intro i A hi hA h13 f
      have e4 : i = 4 := by omega
      subst e4
      refine lp_205_2 _ _ A SJ ⟨fun _ => h A hA h13 f, fun q => absurd (by decide) q⟩
    | succ d ih =>
      intro i A hi hA h13 f
      refine lp_205_2 _ _ A SJ ⟨fun q => ?_, fun q => ?_⟩
      · rw [i3_lt0 (by omega) (by omega)] at q; omega
      · rw [h13, i3_in (by omega) (by omega), i3_n (by omega) (by omega), i3_add, i3_add, show ((p + i : Nat) : Int).toNat = p + i by omega]
        refine ⟨by omega, ?_⟩
        have := ih (i + 1) (gj_u2 (gj_u2 A 89 (p + i) ((v >>> ((i3 8 * i3 (3 - (i : Int))) &&& 31)).toInt8.toInt32.toInt8.toInt32)) 81 13 (i3 (((p + i : Nat) : Int) + 1))) (by omega) (fun k hk => ?_) (by rw [u2_s]; rfl) ((f.u (Or.inl rfl)).u (Or.inr ⟨rfl, rfl⟩))
        · rw [show 3 - (i : Int) + -1 = 3 - ((i + 1 : Nat) : Int) by omega]; exact this
        · rw [u2_n (by omega)]
          by_cases e : k = p + i
          · subst e
            rw [u2_s, low8, tpd_p (by omega)]
            have b := and255 (v >>> ((i3 8 * i3 (3 - (i : Int))) &&& 31))
            have e3 : byt v (p + 3 - (p + i)) = ((v >>> ((i3 8 * i3 (3 - (i : Int))) &&& 31)) &&& i3 255).toInt := by
              unfold byt; rw [show ((p + 3 - (p + i) : Nat) : Int) = 3 - (i : Int) by omega]
            rw [e3]
            exact ⟨b.1, b.2, (Int32.ofInt_toInt _).symm⟩
          · rw [u2_n (by omega)]
            have a := hA k hk
            by_cases z : p ≤ k ∧ k < p + i
            · rw [tpd_p z] at a; rw [tpd_p (by omega)]; exact a
            · rw [tpd_n z] at a; rw [tpd_n (by omega)]; exact a
  have := key 4 0 SI (by omega) (fun k hk => by rw [tpd_n (by omega)]; exact hT k hk) (by rw [ht]; rfl) FI.rf
  exact this
/-- the tape with five words more, where they have room -/
def feedT (T : Nat → Int) (tp : Int) (a b c d e : Int32) : Nat → Int := if tp + 20 ≤ 240 then typ (typ (typ (typ (typ T tp.toNat a) (tp.toNat + 4) b) (tp.toNat + 8) c) (tp.toNat + 12) d) (tp.toNat + 16) e else T
def feedA (tp : Int) : Int := if tp + 20 ≤ 240 then tp + 20 else -1
def feedN (tp : Int) : Int := if tp + 20 ≤ 240 then tp + 20 else tp
theorem sp_feed {Q : Int32 → gj_I → gj_J → Prop} {a b c d e : Int32} (hT : RT T SI) (tp : Int) (ht : SI 81 13 = i3 tp) (ht2 : 0 ≤ tp ∧ tp ≤ 240) (h : ∀ SI', RT (feedT T tp a b c d e) SI' → SI' 81 13 = i3 (feedN tp) → FI LFd SI SI' → Q (i3 (feedA tp)) SI' SJ) : DoI E 206 [(.ref 81), (.int a), (.int b), (.int c), (.int d), (.int e)] SI SJ Q := by
  refine st_206 _ _ _ _ _ SI SJ ?_
  unfold feedT feedA feedN at h
  rw [ht, i3_add, i3_le (by omega) (by omega) (by omega) (by omega)]
  refine ⟨fun q => ?_, fun q => ?_⟩
  · rw [if_pos q, if_pos q, if_pos q] at h
    refine sp_types hT tp.toNat (by omega) (by rw [ht]; congr 1; omega) (fun A1 t1 p1 f1 => ?_)
    refine sp_types t1 (tp.toNat + 4) (by omega) p1 (fun A2 t2 p2 f2 => ?_)
    refine sp_types t2 (tp.toNat + 8) (by omega) p2 (fun A3 t3 p3 f3 => ?_)
    refine sp_types t3 (tp.toNat + 12) (by omega) p3 (fun A4 t4 p4 f4 => ?_)
    refine sp_types t4 (tp.toNat + 16) (by omega) p4 (fun A5 t5 p5 f5 => ?_)
    have e5 : A5 81 13 = i3 (tp + 20) := by rw [p5]; congr 1; omega
    rw [e5]
    exact h A5 t5 e5 ((((f1.tr f2).tr f3).tr f4).tr f5)
  · rw [if_neg q, if_neg q, if_neg q] at h
    exact h SI hT ht FI.rf
def seedR (F : Nat → Int) (x : Int) : Int × (Nat → Int) := if 0 ≤ x ∧ x ≤ 65535 then (1, fu F 34 x) else (0, F)
theorem sp_seed {Q : Int32 → gj_I → gj_J → Prop} {a : Int32} (hR : RF F SI) (x : Int) (hx : -2147483648 ≤ x ∧ x < 2147483648) (ha : a = i3 x) (h : ∀ SI', RF (seedR F x).2 SI' → FI LI2 SI SI' → Q (i3 (seedR F x).1) SI' SJ) : DoI E 238 [(.ref 81), (.int a)] SI SJ Q := by
  subst ha
  unfold seedR at h
  refine st_238 _ SI SJ ?_
  rw [i3_64 (by omega) (by omega)]
  refine sp_in (by omega) (by omega) (by omega) (by omega) (by omega) (by omega) ⟨fun q => ?_, fun q => ?_⟩
  · rw [ib_0, Decidable.not_not] at q
    rw [if_pos q] at h
    exact h _ (hR.u 34 x rfl) (FI.rf.u (LI2_82 _))
  · rw [ib_0] at q
    rw [if_neg q] at h
    exact h SI hR FI.rf
def RK (K : Nat → Int) (SI : gj_I) : Prop := ∀ k, k < 135 → SI 83 k = i3 (K k)
theorem sp_keep {Q : Int32 → gj_I → gj_J → Prop} (hR : RF F SI) (h : ∀ SI', RF F SI' → RK F SI' → SI' 81 3 = i3 1 → FI (fun o k => o = 83 ∨ (o = 81 ∧ k = 3)) SI SI' → Q (i3 (F 17)) SI' SJ) : DoI E 281 [(.ref 81)] SI SJ Q := by
  refine st_281 SI SJ ?_
  have key : ∀ (d i : Nat) (A : gj_I), i + d = 135 → RF F A → (∀ k, k < i → A 83 k = i3 (F k)) → A 81 3 = i3 1 → FI (fun o k => o = 83 ∨ (o = 81 ∧ k = 3)) SI A → GoI E mt_281 7 [some (.ref 81), some (.int (i3 i))] A SJ Q := by
    intro d
    induction d with
    | zero =>
      intro i A hi hA hK h3 f
      refine lp_281_7 _ A SJ ⟨fun _ => ?_, fun q => ?_⟩
      · rw [hA 17 (by decide)]; exact h A hA (fun k hk => hK k (by omega)) h3 f
      · rw [i3_le (by omega) (by omega) (by omega) (by omega)] at q; omega
    | succ d ih =>
      intro i A hi hA hK h3 f
      refine lp_281_7 _ A SJ ⟨fun q => ?_, fun q => ?_⟩
      · rw [i3_le (by omega) (by omega) (by omega) (by omega)] at q; omega
      · rw [i3_in (by omega) (by omega), i3_n (by omega) (by omega), i3_add, show ((i : Nat) : Int).toNat = i by omega, show (i : Int) + 1 = ((i + 1 : Nat) : Int) by omega]
        refine ⟨by omega, ih (i + 1) _ (by omega) (hA.o (by omega)) (fun k hk => ?_) (by rw [u2_n (by omega)]; exact h3) (f.u (Or.inl rfl))⟩
        by_cases q1 : k = i
        · subst q1; rw [u2_s]; exact hA k (by omega)
        · rw [u2_n (by omega)]; exact hK k (by omega)
  exact key 135 0 _ (by omega) (hR.o (by omega)) (fun k hk => by omega) u2_s (FI.rf.u (Or.inr ⟨rfl, rfl⟩))
theorem sp_undo {Q : Int32 → gj_I → gj_J → Prop} {K : Nat → Int} (ik : Bool) (hR : RF F SI) (hK : RK K SI) (h3 : SI 81 3 = i3 (if ik then 1 else 0)) (h : ∀ SI', RF (if ik then K else F) SI' → FI (fun o _ => o = 82) SI SI' → Q (i3 (if ik then 1 else 0)) SI' SJ) : DoI E 282 [(.ref 81)] SI SJ Q := by
  refine st_282 SI SJ ?_
  rw [h3]
  cases ik with
  | false => exact ⟨fun q => absurd rfl q, fun _ => h SI hR FI.rf⟩
  | true =>
    refine ⟨fun _ => ?_, fun q => absurd q (by decide)⟩
    have key : ∀ (d i : Nat) (A : gj_I), i + d = 135 → (∀ k, k < i → A 82 k = i3 (K k)) → FI (fun o _ => o = 82) SI A → GoI E mt_282 11 [some (.ref 81), some (.int (i3 i))] A SJ Q := by
      intro d
      induction d with
      | zero =>
        intro i A hi hA f
        refine lp_282_11 _ A SJ ⟨fun _ => h A (fun k hk => hA k (by omega)) f, fun q => ?_⟩
        rw [i3_le (by omega) (by omega) (by omega) (by omega)] at q; omega
      | succ d ih =>
        intro i A hi hA f
        refine lp_282_11 _ A SJ ⟨fun q => ?_, fun q => ?_⟩
        · rw [i3_le (by omega) (by omega) (by omega) (by omega)] at q; omega
        · rw [i3_in (by omega) (by omega), i3_n (by omega) (by omega), i3_add, show ((i : Nat) : Int).toNat = i by omega, show (i : Int) + 1 = ((i + 1 : Nat) : Int) by omega]
          refine ⟨by omega, ih (i + 1) _ (by omega) (fun k hk => ?_) (f.u rfl)⟩
          by_cases q1 : k = i
          · subst q1; rw [u2_s, f 83 k (by omega)]; exact hK k (by omega)
          · rw [u2_n (by omega)]; exact hA k (by omega)
    exact key 135 0 SI (by omega) (fun k hk => by omega) FI.rf
end Feed
