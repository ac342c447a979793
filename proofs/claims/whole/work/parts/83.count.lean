/-! 83: inside, count: the reference -/
def wdn (F : Nat → Int) (x y : Int) : Nat → Int
  | 0 => 0
  | e + 1 => wdn F x y e + (if cy F e ≤ y ∧ ¬ cy F (e + 1) ≤ y ∧ 0 < sd F e (e + 1) x y then 1 else if ¬ cy F e ≤ y ∧ cy F (e + 1) ≤ y ∧ sd F e (e + 1) x y < 0 then -1 else 0)
theorem wdn_b (F : Nat → Int) (x y : Int) : ∀ e, (wdn F x y e).natAbs ≤ e := by
  intro e
  induction e with
  | zero => exact Nat.le_refl _
  | succ e ih =>
    show (wdn F x y e + (if cy F e ≤ y ∧ ¬ cy F (e + 1) ≤ y ∧ 0 < sd F e (e + 1) x y then 1 else if ¬ cy F e ≤ y ∧ cy F (e + 1) ≤ y ∧ sd F e (e + 1) x y < 0 then -1 else 0)).natAbs ≤ e + 1
    split
    · omega
    · split <;> omega
noncomputable def insideA (F : Nat → Int) (x y : Int) : Int := if (-20 ≤ x ∧ x ≤ 20) ∧ -20 ≤ y ∧ y ≤ 20 then ic (∃ e, e < nC F ∧ btw F e x y) 2 (if wdn F x y (nC F) = 0 then 0 else 1) else -1
noncomputable def countA (F : Nat → Int) (tp w : Int) : Int := if w = 0 then F 0 else if w = 1 then ar F (nC F) else if w = 2 then F 17 else if w = 3 then ((nW F : Nat) : Int) else if w = 4 then rkF F else if w = 5 then bz (firmF F) else if w = 6 then pl F (nC F) else if w = 7 then F 30 else if w = 8 then F 31 else if w = 9 then F 32 else if w = 10 then F 33 else if w = 11 then neededA F else if w = 12 then (if leastA F < 0 then -2 else (pct (leastA F).toNat : Int)) else if w = 13 then leastA F else if w = 14 then tp else if w = 15 then F 34 else if w = 16 then opS F 0 (pn F) / 2 else -1
section Count
variable {E : gj_E} {SI : gj_I} {SJ : gj_J} {F : Nat → Int}
theorem sp_inside {Q : Int32 → gj_I → gj_J → Prop} {a b : Int32} (hR : RF F SI) (hW : Wc F) (x y : Int) (xr : -2147483648 ≤ x ∧ x < 2147483648) (yr : -2147483648 ≤ y ∧ y < 2147483648) (ha : a = i3 x) (hb : b = i3 y) (h : Q (i3 (insideA F x y)) SI SJ) : DoI E 278 [(.ref 81), (.int a), (.int b)] SI SJ Q := by
  subst ha; subst hb
  obtain ⟨n1, n2, n3⟩ := hW.n
  refine st_278 _ _ SI SJ ?_
  rw [i3_64 (by omega) (by omega), i3_64 (by omega) (by omega)]
  refine sp_in (by omega) (by omega) (by omega) (by omega) (by omega) (by omega) ⟨fun z => ?_, fun z => sp_in (by omega) (by omega) (by omega) (by omega) (by omega) (by omega) ⟨fun z2 => ?_, fun z2 => ?_⟩⟩
  · rw [ib_0] at z
    have e : insideA F x y = -1 := if_neg (fun c => z c.1)
    rw [e] at h; exact h
  · rw [ib_0, Decidable.not_not] at z z2
    have e : insideA F x y = ic (∃ e, e < nC F ∧ btw F e x y) 2 (if wdn F x y (nC F) = 0 then 0 else 1) := if_pos ⟨z, z2⟩
    rw [e] at h
    refine up_lp (α := Unit) (P := fun i _ A B => A = SI ∧ B = SJ ∧ ∀ e, e < i → ¬ btw F e x y) (G := fun i _ A B => GoI E mt_278 32 [some (.ref 81), some (.int (i3 x)), some (.int (i3 y)), some (.int (i3 i)), none, none, none, none, none] A B Q) (nC F) ?_ ?_ 0 () SI SJ (by omega) ⟨rfl, rfl, fun e he => by omega⟩
    · rintro _ A B ⟨rfl, rfl, hz⟩
      rw [ic_f (fun ⟨e, e1, e2⟩ => hz e e1 e2)] at h
      refine lp_278_32 _ _ _ A B (sp_corners hR ⟨fun _ => ?_, fun c => ?_⟩)
      · refine up_lp (α := Unit) (P := fun i _ A' B' => A' = A ∧ B' = B) (G := fun i _ A' B' => GoI E mt_278 63 [some (.ref 81), some (.int (i3 x)), some (.int (i3 y)), some (.int (i3 (wdn F x y i))), some (.int (i3 i)), none, none, none, none] A' B' Q) (nC F) ?_ ?_ 0 () A B (by omega) ⟨rfl, rfl⟩
        · rintro _ A' B' ⟨rfl, rfl⟩
          have wb := wdn_b F x y (nC F)
          refine lp_278_63 _ _ _ _ A' B' (sp_corners hR ⟨fun _ => ?_, fun c => ?_⟩)
          · rw [i3_eq0 (by omega) (by omega)]
            refine ⟨fun c => ?_, fun c => ?_⟩
            · rw [if_neg c] at h; exact h
            · rw [if_pos c] at h; exact h
          · rw [n3, i3_le (by omega) (by omega) (by omega) (by omega)] at c; omega
        · rintro i _ A' B' hi ⟨rfl, rfl⟩ ih
          have nx := ih () A' B' ⟨rfl, rfl⟩
          have ew : wdn F x y (i + 1) = wdn F x y i + (if cy F i ≤ y ∧ ¬ cy F (i + 1) ≤ y ∧ 0 < sd F i (i + 1) x y then 1 else if ¬ cy F i ≤ y ∧ cy F (i + 1) ≤ y ∧ sd F i (i + 1) x y < 0 then -1 else 0) := rfl
          rw [ew] at nx
          have b1 := hW.b i; have b2 := hW.b (i + 1)
          have sb := sd_b hW i (i + 1) (u := x) (v := y) (by omega) (by omega)
          have wb := wdn_b F x y i
          have v0 : (¬ (cy F i ≤ y ∧ ¬ cy F (i + 1) ≤ y ∧ 0 < sd F i (i + 1) x y)) → (¬ (¬ cy F i ≤ y ∧ cy F (i + 1) ≤ y ∧ sd F i (i + 1) x y < 0)) → GoI E mt_278 63 [some (.ref 81), some (.int (i3 x)), some (.int (i3 y)), some (.int (i3 (wdn F x y i))), some (.int (i3 ((i : Int) + 1))), none, none, none, none] A' B' Q := by
            intro k1 k2
            rw [if_neg k1, if_neg k2, Int.add_zero] at nx; exact nx
          have v1 : (cy F i ≤ y ∧ ¬ cy F (i + 1) ≤ y ∧ 0 < sd F i (i + 1) x y) → GoI E mt_278 63 [some (.ref 81), some (.int (i3 x)), some (.int (i3 y)), some (.int (i3 (wdn F x y i + 1))), some (.int (i3 ((i : Int) + 1))), none, none, none, none] A' B' Q := by
            intro k1
            rw [if_pos k1] at nx; exact nx
          have v2 : (¬ cy F i ≤ y ∧ cy F (i + 1) ≤ y ∧ sd F i (i + 1) x y < 0) → GoI E mt_278 63 [some (.ref 81), some (.int (i3 x)), some (.int (i3 y)), some (.int (i3 (wdn F x y i - 1))), some (.int (i3 ((i : Int) + 1))), none, none, none, none] A' B' Q := by
            intro k1
            rw [if_neg (fun z => k1.1 z.1), if_pos k1] at nx; exact nx
          obtain ⟨P, hP⟩ : ∃ P : Int → Prop, ∀ v, P v = GoI E mt_278 63 [some (.ref 81), some (.int (i3 x)), some (.int (i3 y)), some (.int (i3 v)), some (.int (i3 ((i : Int) + 1))), none, none, none, none] A' B' Q := ⟨_, fun _ => rfl⟩
          rw [← hP] at v0 v1 v2
          have t0 : (i3 0 = 0) = True := eq_true rfl
          have t1 : (i3 1 = 0) = False := eq_false (by decide)
          refine lp_278_63 _ _ _ _ A' B' (sp_corners hR ⟨fun c => ?_, fun c => ?_⟩)
          · rw [n3, i3_le (by omega) (by omega) (by omega) (by omega)] at c; omega
          · rw [i3_add (i : Int) 1]
            refine sp_cornerY hR hW i (by omega) rfl ⟨fun c1 => sp_cornerY hR hW (i + 1) (by omega) (i3_c (by omega)) ⟨fun c2 => ?_, fun c2 => ?_⟩, fun c1 => sp_cornerY hR hW (i + 1) (by omega) (i3_c (by omega)) ⟨fun c2 => ?_, fun c2 => ?_⟩⟩
            all_goals
              refine sp_sideOf hR hW i (i + 1) x y (by omega) (by omega) (by omega) (by omega) rfl (i3_c (by omega)) rfl rfl ?_
              rw [i3_lt (by omega) (by omega) (by omega) (by omega)] at c1 c2
              simp only [i3_add, i3_sub, ge_iff_le, i6_le (a := sd F i (i + 1) x y) (b := 0) (by omega) (by omega) (by omega) (by omega), i6_le (a := 0) (b := sd F i (i + 1) x y) (by omega) (by omega) (by omega) (by omega)]
              simp only [← hP]
              clear ih nx h hP
              repeat' (first | refine And.intro ?_ ?_ | intro _)
              all_goals first
                | (exfalso; revert t1; rename_i q; intro t1; first | exact absurd q (by decide) | omega)
                | exact v0 (by omega) (by omega)
                | exact v1 (by omega)
                | exact v2 (by omega)
                | (exfalso; omega)
                | (exfalso; contradiction)
      · rw [n3, i3_le (by omega) (by omega) (by omega) (by omega)] at c; omega
    · rintro i _ A B hi ⟨rfl, rfl, hz⟩ ih
      refine lp_278_32 _ _ _ A B (sp_corners hR ⟨fun c => ?_, fun c => sp_isBetween hR hW i x y (by omega) (by omega) (by omega) rfl rfl rfl ⟨fun d => ?_, fun d => ?_⟩⟩)
      · rw [n3, i3_le (by omega) (by omega) (by omega) (by omega)] at c; omega
      · rw [ibc_0] at d
        rw [i3_add]
        refine ih () A B ⟨rfl, rfl, fun e he => ?_⟩
        by_cases q : e = i
        · rw [q]; exact d
        · exact hz e (by omega)
      · rw [ibc_0, Classical.not_not] at d
        rw [ic_t ⟨i, hi, d⟩] at h; exact h
  · rw [ib_0] at z2
    have e : insideA F x y = -1 := if_neg (fun c => z2 c.2)
    rw [e] at h; exact h
end Count
