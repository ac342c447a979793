/-! ap: the law's loop -/
section LawLoop
variable {E : gj_E} {Q : Int32 → gj_I → gj_J → Prop}
theorem lw_loop (hE1 : Tbl E) (hE2 : Tbr E) (hL : gj_L E ≤ 3072) (hQ : ∀ SI SJ, Q (i3 1) SI SJ) : ∀ (n i : Nat), gj_L E < i + n → i ≤ gj_L E → ∀ (F K T : Nat → Int) (ik : Bool) (tp : Int) (SI : gj_I) (SJ : gj_J), BTH F K T ik tp SI SJ → GoI E mt_295 18 [some (.ref 140), some (.ref 0), some (.ref 81), some (.int (i3 i))] SI SJ Q := by
  intro n
  induction n with
  | zero => intro i h1 h2; omega
  | succ n ih =>
    intro i h1 h2 F K T ik tp SI SJ h
    refine lp_295_18 _ SI SJ ⟨fun _ => hQ SI SJ, fun q => ?_⟩
    have q' : i + 6 ≤ gj_L E := by
      rw [i3_nat, i3_sub, i3_lt (by omega) (by omega) (by omega) (by omega)] at q; omega
    have nxt : ∀ (F K T : Nat → Int) (ik : Bool) (tp : Int) (A : gj_I) (B : gj_J), BTH F K T ik tp A B → GoI E mt_295 18 [some (.ref 140), some (.ref 0), some (.ref 81), some (.int (i3 i + i3 6))] A B Q := by
      intro F K T ik tp A B hb
      rw [i3_add, show (i : Int) + 6 = ((i + 6 : Nat) : Int) by omega]
      exact ih (i + 6) (by omega) q' F K T ik tp A B hb
    have v0 : vp_in (i3 i) (gj_L E) := (i3_in (by omega) (by omega)).mpr (by omega)
    have v1 : vp_in (i3 i + i3 1) (gj_L E) := by rw [i3_add]; exact (i3_in (by omega) (by omega)).mpr (by omega)
    have v2 : vp_in (i3 i + i3 2) (gj_L E) := by rw [i3_add]; exact (i3_in (by omega) (by omega)).mpr (by omega)
    have v3 : vp_in (i3 i + i3 3) (gj_L E) := by rw [i3_add]; exact (i3_in (by omega) (by omega)).mpr (by omega)
    have v4 : vp_in (i3 i + i3 4) (gj_L E) := by rw [i3_add]; exact (i3_in (by omega) (by omega)).mpr (by omega)
    have v5 : vp_in (i3 i + i3 5) (gj_L E) := by rw [i3_add]; exact (i3_in (by omega) (by omega)).mpr (by omega)
    exact ⟨v0, fun _ => ⟨v1, v2, v3, v4, v5, pr_feed h nxt _ _ _ _ _⟩,
      fun _ => ⟨v1, pr_plate h nxt _⟩,
      fun _ => ⟨v1, pr_orders h nxt _⟩,
      fun _ => ⟨v1, v2, pr_put h nxt _ _⟩,
      fun _ => ⟨v1, pr_take h nxt _⟩,
      fun _ => ⟨v1, v2, pr_tread h nxt _ _⟩,
      fun _ => ⟨v1, v2, pr_centre h nxt _ _⟩,
      fun _ => pr_turn h nxt,
      fun _ => ⟨v1, v2, pr_past h nxt _ _⟩,
      fun _ => ⟨v1, pr_loads h nxt _⟩,
      fun _ => ⟨v1, pr_load h nxt _⟩,
      fun _ => ⟨v1, pr_count h nxt _⟩,
      fun _ => ⟨v1, v2, pr_corner h nxt _ _⟩,
      fun _ => ⟨v1, v2, pr_edge h nxt _ _⟩,
      fun _ => ⟨v1, v2, pr_place h nxt _ _⟩,
      fun _ => ⟨v1, v2, pr_inside h nxt _ _⟩,
      fun _ => ⟨v1, v2, pr_finger h nxt _ _⟩,
      fun _ => ⟨v1, v2, pr_wrench h nxt _ _⟩,
      fun _ => ⟨v1, pr_free h nxt _⟩,
      fun _ => ⟨v1, v2, pr_frees h nxt _ _⟩,
      fun _ => ⟨v1, v2, v3, pr_held h nxt _ _ _⟩,
      fun _ => ⟨v1, v2, v3, v4, pr_effort h nxt _ _ _ _⟩,
      fun _ => ⟨v1, v2, v3, v4, v5, pr_holder h nxt _ _ _ _ _⟩,
      fun _ => ⟨v1, pr_weak h nxt _⟩,
      fun _ => ⟨v1, pr_proof h nxt _⟩,
      fun _ => ⟨v1, pr_safe h nxt _⟩,
      fun _ => ⟨v1, pr_best h nxt _⟩,
      fun _ => ⟨v1, pr_two h nxt _⟩,
      fun _ => ⟨v1, v2, pr_slide h nxt _ _⟩,
      fun _ => ⟨v1, pr_rough hE2 h nxt _⟩,
      fun _ => ⟨v1, v2, pr_opposite h nxt _ _⟩,
      fun _ => ⟨v1, v2, v3, pr_weight h nxt _ _ _⟩,
      fun _ => ⟨v1, pr_tilt hE1 h nxt _⟩,
      fun _ => ⟨v1, v2, pr_storm h nxt _ _⟩,
      fun _ => ⟨v1, pr_seed h nxt _⟩,
      fun _ => pr_keep h nxt,
      fun _ => pr_undo h nxt,
      fun _ => ⟨v1, pr_check h nxt _⟩,
      fun _ => nxt F K T ik tp SI SJ h⟩
end LawLoop
