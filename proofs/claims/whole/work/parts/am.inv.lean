/-! am: what stays true of the file -/
section Inv
variable {F G : Nat → Int}
theorem Wa.ap (h : Wa F) (g : Ap F G) (hW : Wc F) : Wa G := by
  obtain ⟨e1, e2⟩ := g.x hW
  have e : ∀ i, ar G i = ar F i := by
    intro i
    induction i with
    | zero => rfl
    | succ i ih =>
      show ar G i + cx G i * cy G (i + 1) - cx G (i + 1) * cy G i = ar F i + cx F i * cy F (i + 1) - cx F (i + 1) * cy F i
      rw [ih, e1, e2]
  unfold Wa
  rw [e, g.n]; exact h
/-- the file stands -/
def IV (F : Nat → Int) : Prop := WF F ∧ Wa F
theorem ntd_ap {w : Int} (h : WF F) : Ap F (ntd F w) := fun k hk => nt_lo h.2.2.2.2.1.1 (by omega)
theorem IV.put (h : IV F) (e k : Int) : IV (putR F e k).2 := by
  refine ⟨h.1.putR e k, ?_⟩
  unfold putR
  split
  · split
    · split
      · exact h.2
      · next c _ c6 =>
        have g : Ap F (putF F e k) := fun j hj => by unfold putF; rw [fu_n (by omega), fu_n (by omega), fu_n (by omega)]
        have w := h.1.put c c6
        exact (h.2.ap g h.1.1.1).ap (ntd_ap w) w.1.1
    · exact h.2
  · exact h.2
theorem IV.take (h : IV F) (i : Int) : IV (takeR F i).2 := by
  refine ⟨h.1.takeR i, ?_⟩
  unfold takeR
  split
  · next c =>
    have g : Ap F (dropF F i.toNat) := fun j hj => by unfold dropF; rw [if_neg (by omega), if_neg (by omega), if_neg (by omega)]
    have w := h.1.drop (i := i.toNat) (by omega)
    exact (h.2.ap g h.1.1.1).ap (ntd_ap w) w.1.1
  · exact h.2
theorem IV.tread (h : IV F) (m q : Int) : IV (treadR F m q).2 := by
  refine ⟨h.1.treadR m q, ?_⟩
  unfold treadR
  split
  · next c =>
    have g : Ap F (fu (fu F 30 m) 31 q) := fun j hj => by rw [fu_n (by omega), fu_n (by omega)]
    have w : WF (fu (fu F 30 m) 31 q) := h.1.set (by omega)
    exact (h.2.ap g h.1.1.1).ap (ntd_ap w) w.1.1
  · exact h.2
theorem IV.centre (h : IV F) (x y : Int) : IV (centreR F x y).2 := by
  refine ⟨h.1.centreR x y, ?_⟩
  unfold centreR
  split
  · next c =>
    have g : Ap F (fu (fu F 32 x) 33 y) := fun j hj => by rw [fu_n (by omega), fu_n (by omega)]
    have w : WF (fu (fu F 32 x) 33 y) := h.1.set (by omega)
    exact (h.2.ap g h.1.1.1).ap (ntd_ap w) w.1.1
  · exact h.2
theorem ar_turn (hW : Wc F) : ∀ i, ar (turnF F) i = ar F i + 9 * (cx F i - cx F 0) := by
  intro i
  induction i with
  | zero => show (0 : Int) = 0 + 9 * (cx F 0 - cx F 0); omega
  | succ i ih =>
    show ar (turnF F) i + cx (turnF F) i * cy (turnF F) (i + 1) - cx (turnF F) (i + 1) * cy (turnF F) i = ar F i + cx F i * cy F (i + 1) - cx F (i + 1) * cy F i + 9 * (cx F (i + 1) - cx F 0)
    rw [ih, ((turn_x hW).1 i).1, ((turn_x hW).1 i).2, ((turn_x hW).1 (i + 1)).1, ((turn_x hW).1 (i + 1)).2, Int.sub_mul, Int.sub_mul, Int.mul_comm (cy F i) (cx F (i + 1)), Int.mul_comm (cy F (i + 1)) (cx F i)]
    omega
theorem IV.turn (h : IV F) : IV (turnR F).2 := by
  have w := h.1.turn
  refine ⟨h.1.turnR, ?_⟩
  have wt : Wa (turnF F) := by
    have hW := h.1.1.1
    unfold Wa
    rw [(turn_x hW).2, ar_turn hW]
    have e : cx F (nC F) = cx F 0 := by unfold cx; rw [Nat.mod_self, Nat.zero_mod]
    rw [e]
    have := h.2
    unfold Wa at this; omega
  exact wt.ap (ntd_ap w) w.1.1
theorem IV.ds (h : IV F) (v : V3) : IV (dsR F v).2 := by
  unfold dsR
  split
  · exact h.put _ _
  · split
    · exact h.take _
    · split
      · exact h.tread _ _
      · exact h.centre _ _
theorem IV.run (t : Nat → V3) : ∀ (f k : Nat) {F : Nat → Int}, IV F → IV (runO t f k F).2 := by
  intro f
  induction f with
  | zero => intro k F h; exact h
  | succ f ih =>
    intro k F h
    unfold runO
    split
    · exact ih (k + 1) (h.ds _)
    · exact h.ds _
theorem IV.orders (h : IV F) (T : Nat → Int) (tp x : Int) : IV (ordersR T F tp x).2 := by
  unfold ordersR
  split
  · unfold orE
    split
    · exact h
    · exact IV.run _ _ _ h
  · exact h
theorem IV.fr (h : IV F) (e : ∀ k, k < 34 → G k = F k) (e2 : ∀ k, 35 ≤ k → k < 116 → G k = F k) (hx : Wx G) : IV G := by
  have g : Ap F G := fun k hk => e k (by omega)
  refine ⟨?_, h.2.ap g h.1.1.1⟩
  obtain ⟨⟨h1, h2, h3, h4, h5, -⟩, -⟩ := h
  refine ⟨g.p h1, ?_, ?_, ?_, ?_, hx⟩
  · unfold Wt; rw [e 30 (by omega), e 31 (by omega), e 32 (by omega), e 33 (by omega)]; exact h2
  · obtain ⟨p1, p2, p3⟩ := h3
    refine ⟨by rw [e 17 (by omega)]; exact p1, by rw [e 17 (by omega)]; exact p2, fun i hi => ?_⟩
    rw [e 17 (by omega)] at hi
    rw [e _ (by omega), e _ (by omega), g.n, (g.s h1.1).1]; exact p3 i hi
  · obtain ⟨p1, p2, p3⟩ := h4
    refine ⟨by rw [e 17 (by omega)]; exact p1, by rw [e 17 (by omega)]; exact p2, fun i hi => ?_⟩
    rw [e _ (by omega), e _ (by omega)]; exact p3 i hi
  · obtain ⟨p1, p2, p3⟩ := h5
    refine ⟨by rw [e2 35 (by omega) (by omega)]; exact p1, by rw [e2 35 (by omega) (by omega)]; exact p2, fun j hj => ?_⟩
    rw [e2 35 (by omega) (by omega)] at hj
    rw [e2 _ (by omega) (by omega), e2 _ (by omega) (by omega), e2 _ (by omega) (by omega), e2 _ (by omega) (by omega)]; exact p3 j hj
theorem IV.seed (h : IV F) (x : Int) : IV (seedR F x).2 := by
  unfold seedR
  split
  · next c =>
    obtain ⟨a1, a2, a3, a4, a5⟩ := h.1.2.2.2.2.2
    refine h.fr (fun k hk => fu_n (by omega)) (fun k k1 k2 => fu_n (by omega)) ?_
    unfold Wx
    dsimp only
    rw [fu_s, fu_n (by omega)]
    refine ⟨c.1, c.2, a3, a4, fun k hk => ?_⟩
    rw [fu_n (by omega)]; exact a5 k hk
  · exact h
theorem nms_k {T : Nat → Int} {n p q : Nat} {v : Int} (hp : p ≤ n) (h : nms T n 3 p = .inr (v, q)) : q ≤ n ∧ v.natAbs ≤ 999 := by
  unfold nms at h
  split at h
  · next z =>
    have lt := hr_lt (show 0 ≤ hr T n p by omega)
    cases hm : nm T n 3 (p + 1) with
    | inl e => rw [hm] at h; cases h
    | inr w =>
      obtain ⟨w1, w2⟩ := w
      rw [hm] at h
      injection h with h
      injection h with h1 h2
      have := nm_kb (by omega) (by decide) hm
      omega
  · have := nm_kb hp (by decide) h
    omega
theorem cm_k {T : Nat → Int} {n p q : Nat} {v : Int} (hp : p ≤ n) (h : cm T n p = .inr (v, q)) : q ≤ n ∧ v.natAbs ≤ 999 := by
  unfold cm at h
  split at h
  · next z =>
    have lt := hr_lt (show 0 ≤ hr T n p by omega)
    exact nms_k (by omega) h
  · cases h
theorem ldP_k {T : Nat → Int} {n c p q : Nat} {v : V3} (hp : p ≤ n) (h : ldP T n c p = .inr (v, q)) : q ≤ n ∧ Lb v ∧ c ≠ 6 := by
  unfold ldP at h
  by_cases c6 : c = 6
  · rw [if_pos c6] at h; cases h
  rw [if_neg c6] at h
  cases h1 : nms T n 3 p with
  | inl e => rw [h1] at h; cases h
  | inr w1 =>
    obtain ⟨x, q1⟩ := w1
    rw [h1] at h
    dsimp only at h
    have k1 := nms_k hp h1
    cases h2 : cm T n q1 with
    | inl e => rw [h2] at h; cases h
    | inr w2 =>
      obtain ⟨y, q2⟩ := w2
      rw [h2] at h
      dsimp only at h
      have k2 := cm_k k1.1 h2
      cases h3 : cm T n q2 with
      | inl e => rw [h3] at h; cases h
      | inr w3 =>
        obtain ⟨z, q3⟩ := w3
        rw [h3] at h
        dsimp only at h
        have k3 := cm_k k2.1 h3
        injection h with h
        injection h with e1 e2
        subst e1; subst e2
        exact ⟨k3.1, ⟨k1.2, k2.2, k3.2⟩, c6⟩
theorem rdL_k {T : Nat → Int} {n : Nat} : ∀ (f c p : Nat) (t : Nat → V3) (c2 : Nat) (t2 : Nat → V3), c + f = 6 → p ≤ n → (∀ j, j < c → Lb (t j)) → rdC (ldP T n) T n f c p t = .inr (c2, t2) → c2 ≤ 6 ∧ ∀ j, j < c2 → Lb (t2 j) := by
  intro f
  induction f with
  | zero =>
    intro c p t c2 t2 hc hp hb h
    have e2 : ldP T n c p = .inl (-4000 - p) := if_pos (by omega)
    rw [rdC_l e2] at h; cases h
  | succ f ih =>
    intro c p t c2 t2 hc hp hb h
    cases hl : ldP T n c p with
    | inl e => rw [rdC_l hl] at h; cases h
    | inr w =>
      obtain ⟨v, q⟩ := w
      obtain ⟨k1, k2, k3⟩ := ldP_k hp hl
      rw [rdC_r hl] at h
      have hb2 : ∀ j, j < c + 1 → Lb (tu t c v j) := fun j hj => by
        by_cases e : j = c
        · subst e; rw [tu_s]; exact k2
        · rw [tu_n e]; exact hb j (by omega)
      by_cases qn : n ≤ q
      · rw [rdT_e qn] at h
        injection h with h
        injection h with h1 h2
        subst h1; subst h2
        exact ⟨by omega, hb2⟩
      · by_cases w : hr T n q = 59
        · rw [rdT_g (by omega) w] at h
          exact ih (c + 1) (q + 1) (tu t c v) c2 t2 (by omega) (by omega) hb2 h
        · rw [rdT_b (by omega) w] at h; cases h
theorem IV.loads (h : IV F) (T : Nat → Int) (tp x : Int) : IV (loadsR T F tp x).2 := by
  unfold loadsR
  split
  · rw [rd_C]
    cases hr0 : rdC (ldP T x.toNat) T x.toNat 6 0 0 (fun _ => (0, 0, 0)) with
    | inl e => exact h
    | inr w =>
      obtain ⟨c, t⟩ := w
      obtain ⟨c6, hb⟩ := rdL_k 6 0 0 _ c t (by omega) (by omega) (fun j hj => absurd hj (Nat.not_lt_zero j)) hr0
      show IV (ldF F c (3 * c) t)
      obtain ⟨a1, a2, a3, a4, a5⟩ := h.1.2.2.2.2.2
      refine h.fr (fun k hk => ?_) (fun k k1 k2 => ?_) ?_
      · unfold ldF; rw [if_neg (by omega), if_neg (by omega)]
      · unfold ldF; rw [if_neg (by omega), if_neg (by omega)]
      · have e34 : ldF F c (3 * c) t 34 = F 34 := by unfold ldF; rw [if_neg (by omega), if_neg (by omega)]
        have e116 : ldF F c (3 * c) t 116 = c := if_pos rfl
        unfold Wx
        rw [e34, e116]
        refine ⟨a1, a2, by omega, by omega, fun k hk => ?_⟩
        unfold ldF
        rw [if_neg (by omega)]
        split
        · next z =>
          rw [show 117 + k - 117 = k by omega]
          obtain ⟨b1, b2, b3⟩ := hb (k / 3) (by omega)
          unfold l3
          split
          · omega
          · split <;> omega
        · exact a5 k hk
  · exact h
theorem crn_c {T : Nat → Int} {n c p q : Nat} {v : V3} (hc : c ≤ 8) (h : crnP T n c p = .inr (v, q)) : c < 8 ∧ 0 ≤ v.1 ∧ v.1 ≤ 9 ∧ 0 ≤ v.2.1 ∧ v.2.1 ≤ 9 := by
  by_cases d : dg T n p
  · by_cases c8 : c = 8
    · unfold crnP at h
      rw [if_pos ⟨c8, d⟩] at h; cases h
    · have c9 : c < 8 := by omega
      by_cases w : hr T n (p + 1) = 44
      · by_cases d2 : dg T n (p + 1 + 1)
        · rw [crn_4 c9 d w d2] at h
          injection h with h
          injection h with h1 h2
          subst h1
          exact ⟨c9, by dsimp only; omega, by dsimp only; omega, by dsimp only; omega, by dsimp only; omega⟩
        · rw [crn_3 c9 d w d2] at h; cases h
      · rw [crn_2 c9 d w] at h; cases h
  · unfold crnP at h
    rw [if_neg (fun z => d z.2), nm1_n d] at h; cases h
theorem rdP_k {T : Nat → Int} {n : Nat} : ∀ (f c p : Nat) (t : Nat → V3) (c2 : Nat) (t2 : Nat → V3), c + f = 8 → Cb t c → rdC (crnP T n) T n f c p t = .inr (c2, t2) → 1 ≤ c2 ∧ c2 ≤ 8 ∧ Cb t2 c2 := by
  intro f
  induction f with
  | zero =>
    intro c p t c2 t2 hc hb h
    cases hl : crnP T n c p with
    | inl e => rw [rdC_l hl] at h; cases h
    | inr w =>
      obtain ⟨v, q⟩ := w
      have := (crn_c (by omega) hl).1
      omega
  | succ f ih =>
    intro c p t c2 t2 hc hb h
    cases hl : crnP T n c p with
    | inl e => rw [rdC_l hl] at h; cases h
    | inr w =>
      obtain ⟨v, q⟩ := w
      obtain ⟨k0, k1⟩ := crn_c (by omega) hl
      rw [rdC_r hl] at h
      have hb2 : Cb (tu t c v) (c + 1) := fun j hj => by
        by_cases e : j = c
        · subst e; rw [tu_s]; exact k1
        · rw [tu_n e]; exact hb j (by omega)
      by_cases qn : n ≤ q
      · rw [rdT_e qn] at h
        injection h with h
        injection h with h1 h2
        subst h1; subst h2
        exact ⟨by omega, by omega, hb2⟩
      · by_cases w : hr T n q = 59
        · rw [rdT_g (by omega) w] at h
          exact ih (c + 1) (q + 1) (tu t c v) c2 t2 (by omega) hb2 h
        · rw [rdT_b (by omega) w] at h; cases h
theorem IV.plate (h : IV F) (T : Nat → Int) (tp x : Int) : IV (plateR T F tp x).2 := by
  unfold plateR
  split
  · rw [rd_C]
    cases hr0 : rdC (crnP T x.toNat) T x.toNat 8 0 0 (fun _ => (0, 0, 0)) with
    | inl e => exact h
    | inr w =>
      obtain ⟨c, t⟩ := w
      obtain ⟨c1, c8, hb⟩ := rdP_k 8 0 0 _ c t (by omega) (fun j hj => absurd hj (Nat.not_lt_zero j)) hr0
      unfold plE
      dsimp only
      by_cases q : plt (layF F c t)
      · rw [if_pos q]; exact h.1.lay c1 c8 hb q
      · rw [if_neg q]; exact h
  · exact h
end Inv
