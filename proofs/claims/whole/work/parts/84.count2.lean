/-! 84: count: the reference -/
theorem lsS_b (F : Nat → Int) (m : Nat) : ∀ d s, lsS F m s d = -2 ∨ (0 ≤ lsS F m s d ∧ lsS F m s d < s + d) := by
  intro d
  induction d with
  | zero => intro s; exact Or.inl rfl
  | succ d ih =>
    intro s
    by_cases q : pct s = m ∧ firmS F s
    · have e : lsS F m s (d + 1) = s := if_pos q
      rw [e]; right; omega
    · have e : lsS F m s (d + 1) = lsS F m (s + 1) d := if_neg q
      rw [e]
      rcases ih (s + 1) with z | z
      · exact Or.inl z
      · right; omega
theorem lsM_b (F : Nat → Int) : ∀ d m, lsM F m d = -2 ∨ (0 ≤ lsM F m d ∧ lsM F m d < fullS (nf F) + 1) := by
  intro d
  induction d with
  | zero => intro m; exact Or.inl rfl
  | succ d ih =>
    intro m
    by_cases q : lsS F m 0 (fullS (nf F) + 1) = -2
    · have e : lsM F m (d + 1) = lsM F (m + 1) d := if_pos q
      rw [e]; exact ih (m + 1)
    · have e : lsM F m (d + 1) = lsS F m 0 (fullS (nf F) + 1) := if_neg q
      rw [e]
      rcases lsS_b F m (fullS (nf F) + 1) 0 with z | z
      · exact absurd z q
      · right; omega
theorem leastA_b {F : Nat → Int} (hN : Wn F) : leastA F = -2 ∨ (0 ≤ leastA F ∧ leastA F < 64) := by
  unfold leastA
  have fl := fullS_lt hN
  by_cases q : firmF F
  · rw [if_pos q]
    rcases lsM_b F (nf F) 1 with z | z
    · exact Or.inl z
    · right; omega
  · rw [if_neg q]; exact Or.inl rfl
section Count2
variable {E : gj_E} {SI : gj_I} {SJ : gj_J} {F : Nat → Int}
theorem sp_count {Q : Int32 → gj_I → gj_J → Prop} {a : Int32} (hR : RF F SI) (hW : Wp F) (hT : Wt F) (hN : Wn F) (tp : Int) (ht : SI 81 13 = i3 tp) (w : Int) (wr : -2147483648 ≤ w ∧ w < 2147483648) (ha : a = i3 w) (h : ∀ SI' SJ', FI LI1 SI SI' → FJ LJ1 SJ SJ' → Q (i3 (countA F tp w)) SI' SJ') : DoI E 274 [(.ref 81), (.int a)] SI SJ Q := by
  subst ha
  have nb := nw_b hN
  have hB := Wl_b hW hT (hN.ok hW.1)
  have hfb := fullS_b (n := nf F * fc F) (by omega)
  have ab := ar_b hW.1 (nC F)
  have n8 := hW.1.n.2.1
  have lb := leastA_b hN
  refine st_274 _ SI SJ (sp_lays hR hW hT hN (fun A B f1 f2 hL => ?_))
  have hRA := hR.f f1 LI1_n
  have hh := h A B f1 f2
  have cA : ∀ v, countA F tp w = v → Q (i3 v) A B := fun v e => by rw [e] at hh; exact hh
  have hA : ∀ v, countA F tp w = v → ∀ A' B', FI LI1 A A' → FJ LJ1 B B' → Q (i3 v) A' B' := fun v e A' B' g1 g2 => by
    have := h A' B' (f1.tr g1) (f2.tr g2)
    rw [e] at this; exact this
  clear h hh
  unfold countA nW at cA hA
  rw [i3_t (by omega) (by omega), hRA 17 (by decide), hRA 30 (by decide), hRA 31 (by decide), hRA 32 (by decide), hRA 33 (by decide), hRA 34 (by decide), hL.1, show A 81 13 = i3 tp by rw [f1 81 13 (by unfold LI1; omega)]; exact ht]
  refine ⟨fun q => ?_, fun q => ?_, fun q => ?_, fun q => ?_, fun q => ?_, fun q => ?_, fun q => ?_, fun q => ?_, fun q => ?_, fun q => ?_, fun q => ?_, fun q => ?_, fun q => ?_, fun q => ?_, fun q => ?_, fun q => ?_, fun q => ?_, fun q => ?_⟩
  all_goals try rw [i3_eq (by omega) (by omega) (by omega) (by omega)] at q
  · exact sp_corners hRA (cA _ (by rw [if_pos q]))
  · refine sp_areaTwice hRA hW.1 ?_
    rw [i6_32 (by omega) (by omega)]
    exact cA _ (by rw [q]; rfl)
  · exact cA _ (by rw [q]; rfl)
  · exact cA _ (by rw [q]; rfl)
  · refine sp_all hL.1 (by omega) (sp_rankOf hL (by omega) hB (fullS (nf F * fc F)) (by omega) rfl (fun r B2 f3 hr hr2 => ?_))
    have er : r = rkF F := rkI_un hr (rkF_I F).1
    exact hA _ (by rw [q, er]; rfl) A B2 FI.rf (f3.le LPx_J1)
  · refine sp_all hL.1 (by omega) (sp_isFirm hL (by omega) hB (fullS (nf F * fc F)) (by omega) rfl (fun B2 f3 => ⟨fun c => ?_, fun c => ?_⟩))
    · rw [ibc_0] at c
      exact hA _ (by rw [q]; show bz (firmF F) = 0; exact bz_f c) A B2 FI.rf (f3.le LPx_J1)
    · rw [ibc_0, Classical.not_not] at c
      exact hA _ (by rw [q]; show bz (firmF F) = 1; exact bz_t c) A B2 FI.rf (f3.le LPx_J1)
  · exact sp_placeMany hRA hW.1 (cA _ (by rw [q]; rfl))
  · exact cA _ (by rw [q]; rfl)
  · exact cA _ (by rw [q]; rfl)
  · exact cA _ (by rw [q]; rfl)
  · exact cA _ (by rw [q]; rfl)
  · exact sp_needed hRA hW hT hN (fun A2 B2 g1 g2 => hA _ (by rw [q]; rfl) A2 B2 g1 g2)
  · refine sp_leastSet hRA hW hT hN (fun A2 B2 g1 g2 => ?_)
    rw [i3_0le (by omega) (by omega)]
    refine ⟨fun c => ?_, fun c => ?_⟩
    · refine sp_leastSet (hRA.f g1 LI1_n) hW hT hN (fun A3 B3 g3 g4 => ?_)
      refine sp_sizeOf (leastA F).toNat (by omega) (i3_c (by omega)) ?_
      exact hA _ (by rw [q]; show (if leastA F < 0 then (-2 : Int) else (pct (leastA F).toNat : Int)) = _; rw [if_neg (by omega)]) A3 B3 (g1.tr g3) (g2.tr g4)
    · exact hA _ (by rw [q]; show (if leastA F < 0 then (-2 : Int) else (pct (leastA F).toNat : Int)) = _; rw [if_pos (by omega)]) A2 B2 g1 g2
  · exact sp_leastSet hRA hW hT hN (fun A2 B2 g1 g2 => hA _ (by rw [q]; rfl) A2 B2 g1 g2)
  · exact cA _ (by rw [q]; rfl)
  · exact cA _ (by rw [q]; rfl)
  · exact sp_opposites hRA hW hT (cA _ (by rw [q]; rfl))
  · exact cA _ (by repeat' rw [if_neg (by omega)])
end Count2
