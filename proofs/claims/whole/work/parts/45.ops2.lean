/-! 45: put, take, tread, centre, turn -/
def putF (F : Nat → Int) (e k : Int) : Nat → Int := fu (fu (fu F (18 + nf F) e) (24 + nf F) k) 17 (F 17 + 1)
noncomputable def putR (F : Nat → Int) (e k : Int) : Int × (Nat → Int) := if 0 ≤ e ∧ e < nC F ∧ 1 ≤ k ∧ k < stp F e.toNat then (if fgA F e k = -1 then (if F 17 = 6 then (-3, F) else (F 17, ntd (putF F e k) 0)) else (-2, F)) else (-1, F)
def dropF (F : Nat → Int) (i : Nat) : Nat → Int := fun j => if j = 17 then F 17 - 1 else if 18 + i ≤ j ∧ j < 17 + nf F then F (j + 1) else if 24 + i ≤ j ∧ j < 23 + nf F then F (j + 1) else F j
noncomputable def takeR (F : Nat → Int) (i : Int) : Int × (Nat → Int) := if 0 ≤ i ∧ i < F 17 then (F 17 - 1, ntd (dropF F i.toNat) 1) else (-1, F)
noncomputable def treadR (F : Nat → Int) (m q : Int) : Int × (Nat → Int) := if 0 ≤ m ∧ m ≤ 3 ∧ 1 ≤ q ∧ q ≤ 3 then (0, ntd (fu (fu F 30 m) 31 q) 2) else (-1, F)
noncomputable def centreR (F : Nat → Int) (x y : Int) : Int × (Nat → Int) := if 0 ≤ x ∧ x ≤ 9 ∧ 0 ≤ y ∧ y ≤ 9 then (0, ntd (fu (fu F 32 x) 33 y) 3) else (-1, F)
/-- so many corners turned -/
def trn (F : Nat → Int) (n : Nat) : Nat → Int := fun j => if 1 ≤ j ∧ j < 1 + n then 9 - F (j + 8) else if 9 ≤ j ∧ j < 9 + n then F (j - 8) else F j
def turnF (F : Nat → Int) : Nat → Int := fu (fu (trn F (nC F)) 32 (9 - F 33)) 33 (F 32)
noncomputable def turnR (F : Nat → Int) : Int × (Nat → Int) := (bz (firmF (turnF F)), ntd (turnF F) 4)
theorem Wh.c {F G : Nat → Int} (h : Wh F) (e : ∀ k, 35 ≤ k → G k = F k) : Wh G := by
  unfold Wh at h ⊢
  rw [e 35 (by decide)]
  refine ⟨h.1, h.2.1, fun j hj => ?_⟩
  rw [e _ (by omega), e _ (by omega), e _ (by omega), e _ (by omega)]
  exact h.2.2 j hj
theorem Wx.c {F G : Nat → Int} (h : Wx F) (e : ∀ k, 34 ≤ k → G k = F k) : Wx G := by
  unfold Wx at h ⊢
  rw [e 34 (by decide), e 116 (by decide)]
  refine ⟨h.1, h.2.1, h.2.2.1, h.2.2.2.1, fun k hk => ?_⟩
  rw [e _ (by omega)]; exact h.2.2.2.2 k hk
theorem WF.put {F : Nat → Int} (h : WF F) {e k : Int} (c : 0 ≤ e ∧ e < nC F ∧ 1 ≤ k ∧ k < stp F e.toNat) (c6 : F 17 ≠ 6) : WF (putF F e k) := by
  obtain ⟨h1, h2, h3, h4, h5, h6⟩ := h
  have n0 := h3.1; have n1 := h3.2.1
  have en : F 17 = nf F := by unfold nf; omega
  obtain ⟨m1, m2, m3⟩ := h1.1.n
  have sb := h1.1.s e.toNat
  have g : Ap F (putF F e k) := fun j hj => by unfold putF; rw [fu_n (by omega), fu_n (by omega), fu_n (by omega)]
  have u : ∀ j, 30 ≤ j → putF F e k j = F j := fun j hj => by unfold putF; rw [fu_n (by omega), fu_n (by omega), fu_n (by omega)]
  have e17 : putF F e k 17 = F 17 + 1 := fu_s
  have eE : ∀ i, i < 6 → putF F e k (18 + i) = if i = nf F then e else F (18 + i) := by
    intro i hi
    unfold putF
    by_cases q : i = nf F
    · rw [fu_n (by omega), fu_n (by omega), if_pos q, ← q, fu_s]
    · rw [fu_n (by omega), fu_n (by omega), fu_n (by omega), if_neg q]
  have eK : ∀ i, i < 6 → putF F e k (24 + i) = if i = nf F then k else F (24 + i) := by
    intro i hi
    unfold putF
    by_cases q : i = nf F
    · rw [fu_n (by omega), if_pos q, ← q, fu_s]
    · rw [fu_n (by omega), fu_n (by omega), fu_n (by omega), if_neg q]
  refine ⟨g.p h1, ?_, ⟨by omega, by omega, fun i hi => ?_⟩, ⟨by omega, by omega, fun i hi => ?_⟩, h5.c (fun j hj => u j (by omega)), h6.c (fun j hj => u j (by omega))⟩
  · unfold Wt; rw [u 30 (by decide), u 31 (by decide), u 32 (by decide), u 33 (by decide)]; exact h2
  · rw [e17] at hi
    rw [eE i (by omega), eK i (by omega), g.n, (g.s h1.1).1]
    by_cases q : i = nf F
    · simp only [if_pos q]; omega
    · simp only [if_neg q]; exact h3.2.2 i (by omega)
  · rw [eE i hi, eK i hi]
    have := h4.2.2 i hi
    split <;> omega
theorem WF.drop {F : Nat → Int} (h : WF F) {i : Nat} (c : (i : Int) < F 17) : WF (dropF F i) := by
  obtain ⟨h1, h2, h3, h4, h5, h6⟩ := h
  have n0 := h3.1; have n1 := h3.2.1
  have en : F 17 = nf F := by unfold nf; omega
  have g : Ap F (dropF F i) := fun j hj => by unfold dropF; rw [if_neg (by omega), if_neg (by omega), if_neg (by omega)]
  have u : ∀ j, 30 ≤ j → dropF F i j = F j := fun j hj => by unfold dropF; rw [if_neg (by omega), if_neg (by omega), if_neg (by omega)]
  have e17 : dropF F i 17 = F 17 - 1 := by unfold dropF; rw [if_pos rfl]
  have eE : ∀ j, j < 6 → ∃ l, (dropF F i (18 + j) = F (18 + l) ∧ dropF F i (24 + j) = F (24 + l)) ∧ l < 6 ∧ (j + 1 < nf F → l < nf F) := by
    intro j hj
    by_cases q : i ≤ j ∧ j + 1 < nf F
    · refine ⟨j + 1, ⟨?_, ?_⟩, by omega, by omega⟩
      · unfold dropF; rw [if_neg (by omega), if_pos (by omega)]; rfl
      · unfold dropF; rw [if_neg (by omega), if_neg (by omega), if_pos (by omega)]; rfl
    · refine ⟨j, ⟨?_, ?_⟩, by omega, by omega⟩
      · unfold dropF; rw [if_neg (by omega), if_neg (by omega), if_neg (by omega)]
      · unfold dropF; rw [if_neg (by omega), if_neg (by omega), if_neg (by omega)]
  refine ⟨g.p h1, ?_, ⟨by omega, by omega, fun j hj => ?_⟩, ⟨by omega, by omega, fun j hj => ?_⟩, h5.c (fun j hj => u j (by omega)), h6.c (fun j hj => u j (by omega))⟩
  · unfold Wt; rw [u 30 (by decide), u 31 (by decide), u 32 (by decide), u 33 (by decide)]; exact h2
  · rw [e17] at hj
    obtain ⟨l, ⟨l1, l2⟩, l3, l4⟩ := eE j (by omega)
    rw [l1, l2, g.n, (g.s h1.1).1]
    exact h3.2.2 l (by omega)
  · obtain ⟨l, ⟨l1, l2⟩, l3, l4⟩ := eE j hj
    rw [l1, l2]; exact h4.2.2 l l3
theorem WF.set {F : Nat → Int} (h : WF F) {a b : Nat} {x y : Int} (c : (a = 30 ∧ b = 31 ∧ 0 ≤ x ∧ x ≤ 3 ∧ 1 ≤ y ∧ y ≤ 3) ∨ (a = 32 ∧ b = 33 ∧ 0 ≤ x ∧ x ≤ 9 ∧ 0 ≤ y ∧ y ≤ 9)) : WF (fu (fu F a x) b y) := by
  obtain ⟨h1, h2, h3, h4, h5, h6⟩ := h
  have l : ∀ j, j < 30 → fu (fu F a x) b y j = F j := fun j hj => by rw [fu_n (by omega), fu_n (by omega)]
  have u : ∀ j, 34 ≤ j → fu (fu F a x) b y j = F j := fun j hj => by rw [fu_n (by omega), fu_n (by omega)]
  have g : Ap F (fu (fu F a x) b y) := fun j hj => l j (by omega)
  refine ⟨g.p h1, ?_, ?_, ?_, h5.c (fun j hj => u j (by omega)), h6.c (fun j hj => u j (by omega))⟩
  · obtain ⟨t1, t2, t3, t4, t5, t6, t7, t8⟩ := h2
    rcases c with ⟨rfl, rfl, c⟩ | ⟨rfl, rfl, c⟩
    · unfold Wt; rw [fu_s, fu_n (k := 31) (by decide), fu_s, fu_n (k := 31) (by decide), fu_n (k := 30) (by decide), fu_n (k := 31) (by decide), fu_n (k := 30) (by decide)]; omega
    · unfold Wt; rw [fu_s, fu_n (k := 33) (by decide), fu_n (k := 32) (by decide), fu_n (k := 33) (by decide), fu_n (k := 32) (by decide), fu_n (k := 33) (by decide), fu_s]; omega
  · obtain ⟨p1, p2, p3⟩ := h3
    refine ⟨by rw [l 17 (by decide)]; exact p1, by rw [l 17 (by decide)]; exact p2, fun i hi => ?_⟩
    rw [l 17 (by decide)] at hi
    rw [l _ (by omega), l _ (by omega), g.n, (g.s h1.1).1]; exact p3 i hi
  · obtain ⟨p1, p2, p3⟩ := h4
    refine ⟨by rw [l 17 (by decide)]; exact p1, by rw [l 17 (by decide)]; exact p2, fun i hi => ?_⟩
    rw [l _ (by omega), l _ (by omega)]; exact p3 i hi
theorem turn_x {F : Nat → Int} (h : Wc F) : (∀ i, cx (turnF F) i = 9 - cy F i ∧ cy (turnF F) i = cx F i) ∧ nC (turnF F) = nC F := by
  obtain ⟨m1, m2, m3⟩ := h.n
  have n : nC (turnF F) = nC F := by
    unfold nC turnF; rw [fu_n (by decide), fu_n (by decide)]; unfold trn; rw [if_neg (by omega), if_neg (by omega)]
  refine ⟨fun i => ?_, n⟩
  have := Nat.mod_lt i m1
  unfold cx cy
  rw [n]
  constructor
  · unfold turnF; rw [fu_n (by omega), fu_n (by omega)]; unfold trn; rw [if_pos (by omega)]; congr 2; omega
  · unfold turnF; rw [fu_n (by omega), fu_n (by omega)]; unfold trn; rw [if_neg (by omega), if_pos (by omega)]; congr 1; omega
theorem turn_s {F : Nat → Int} (h : Wc F) : stp (turnF F) = stp F := by
  funext e
  unfold stp
  rw [((turn_x h).1 e).1, ((turn_x h).1 e).2, ((turn_x h).1 (e + 1)).1, ((turn_x h).1 (e + 1)).2]
  rw [show 9 - cy F (e + 1) - (9 - cy F e) = -(cy F (e + 1) - cy F e) by omega, Int.neg_gcd, Int.gcd_comm]
theorem WF.turn {F : Nat → Int} (h : WF F) : WF (turnF F) := by
  obtain ⟨h1, h2, h3, h4, h5, h6⟩ := h
  obtain ⟨m1, m2, m3⟩ := h1.1.n
  have t : ∀ j, 17 ≤ j → trn F (nC F) j = F j := fun j hj => by unfold trn; rw [if_neg (by omega), if_neg (by omega)]
  have u : ∀ j, 17 ≤ j → j ≠ 32 → j ≠ 33 → turnF F j = F j := fun j hj a b => by unfold turnF; rw [fu_n b, fu_n a]; exact t j hj
  have lo : ∀ j, j < 17 → turnF F j = trn F (nC F) j := fun j hj => by unfold turnF; rw [fu_n (by omega), fu_n (by omega)]
  have hc := h1.1.2.2
  refine ⟨⟨⟨?_, ?_, fun i hi => ?_⟩, ?_, fun e => ?_⟩, ?_, ?_, ?_, h5.c (fun j hj => u j (by omega) (by omega) (by omega)), h6.c (fun j hj => u j (by omega) (by omega) (by omega))⟩
  · rw [lo 0 (by decide)]; unfold trn; rw [if_neg (by omega), if_neg (by omega)]; omega
  · rw [lo 0 (by decide)]; unfold trn; rw [if_neg (by omega), if_neg (by omega)]; omega
  · have c := hc i hi
    rw [lo _ (by omega), lo _ (by omega)]
    unfold trn
    by_cases q : i < nC F
    · rw [if_pos (by omega), if_neg (by omega), if_pos (by omega), show 1 + i + 8 = 9 + i by omega, show 9 + i - 8 = 1 + i by omega]; omega
    · rw [if_neg (by omega), if_neg (by omega), if_neg (by omega), if_neg (by omega)]; omega
  · rw [(turn_x h1.1).2]; exact h1.2.1
  · rw [turn_s h1.1]; exact h1.2.2 e
  · obtain ⟨t1, t2, t3, t4, t5, t6, t7, t8⟩ := h2
    have e33 : turnF F 33 = F 32 := fu_s
    have e32 : turnF F 32 = 9 - F 33 := by unfold turnF; rw [fu_n (by decide), fu_s]
    unfold Wt; rw [u 30 (by decide) (by decide) (by decide), u 31 (by decide) (by decide) (by decide), e32, e33]; omega
  · obtain ⟨p1, p2, p3⟩ := h3
    refine ⟨by rw [u 17 (by decide) (by decide) (by decide)]; exact p1, by rw [u 17 (by decide) (by decide) (by decide)]; exact p2, fun i hi => ?_⟩
    rw [u 17 (by decide) (by decide) (by decide)] at hi
    rw [u _ (by omega) (by omega) (by omega), u _ (by omega) (by omega) (by omega), (turn_x h1.1).2, turn_s h1.1]; exact p3 i hi
  · obtain ⟨p1, p2, p3⟩ := h4
    refine ⟨by rw [u 17 (by decide) (by decide) (by decide)]; exact p1, by rw [u 17 (by decide) (by decide) (by decide)]; exact p2, fun i hi => ?_⟩
    rw [u _ (by omega) (by omega) (by omega), u _ (by omega) (by omega) (by omega)]; exact p3 i hi
theorem WF.putR {F : Nat → Int} (h : WF F) (e k : Int) : WF (putR F e k).2 := by
  unfold Jvm.Pilot.CGraspJudgeLaw_law_r1084_915a35.putR
  split
  · split
    · split
      · exact h
      · exact (h.put ‹_› ‹_›).note (by decide)
    · exact h
  · exact h
theorem WF.takeR {F : Nat → Int} (h : WF F) (i : Int) : WF (takeR F i).2 := by
  unfold Jvm.Pilot.CGraspJudgeLaw_law_r1084_915a35.takeR
  split
  · exact (h.drop (by omega)).note (by decide)
  · exact h
theorem WF.treadR {F : Nat → Int} (h : WF F) (m q : Int) : WF (treadR F m q).2 := by
  unfold Jvm.Pilot.CGraspJudgeLaw_law_r1084_915a35.treadR
  split
  · exact (h.set (by omega)).note (by decide)
  · exact h
theorem WF.centreR {F : Nat → Int} (h : WF F) (x y : Int) : WF (centreR F x y).2 := by
  unfold Jvm.Pilot.CGraspJudgeLaw_law_r1084_915a35.centreR
  split
  · exact (h.set (by omega)).note (by decide)
  · exact h
theorem WF.turnR {F : Nat → Int} (h : WF F) : WF (turnR F).2 := (h.turn).note (by decide)
