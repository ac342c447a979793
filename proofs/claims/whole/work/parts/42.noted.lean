/-! 42: what is noted in the reference's file -/
def fu (F : Nat → Int) (k : Nat) (v : Int) : Nat → Int := fun j => if j = k then v else F j
theorem fu_s {F : Nat → Int} {k : Nat} {v : Int} : fu F k v k = v := if_pos rfl
theorem fu_n {F : Nat → Int} {k j : Nat} {v : Int} (h : j ≠ k) : fu F k v j = F j := if_neg h
theorem RF.u {F : Nat → Int} {SI : gj_I} (h : RF F SI) (k : Nat) (v : Int) {x : Int32} (hx : x = i3 v) : RF (fu F k v) (gj_u2 SI 82 k x) := by
  intro j hj
  by_cases hk : j = k
  · subst hk; rw [u2_s, fu_s, hx]
  · rw [u2_n (by omega), fu_n hk]; exact h j hj
theorem RF.o {F : Nat → Int} {SI : gj_I} (h : RF F SI) {o k : Nat} {x : Int32} (ho : o ≠ 82) : RF F (gj_u2 SI o k x) := fun j hj => by rw [u2_n (by omega)]; exact h j hj
/-- the same plate, fingers, tread and centre -/
def Ag (F G : Nat → Int) : Prop := ∀ k, k < 34 → G k = F k
section Agree
variable {F G : Nat → Int}
theorem Ag.n (h : Ag F G) : nC G = nC F := by unfold nC; rw [h 0 (by decide)]
theorem Ag.c (h : Ag F G) (hW : Wc F) : Wc G := by
  obtain ⟨h1, h2, h3⟩ := hW
  refine ⟨by rw [h 0 (by decide)]; exact h1, by rw [h 0 (by decide)]; exact h2, fun i hi => ?_⟩
  rw [h _ (by omega), h _ (by omega)]; exact h3 i hi
theorem Ag.x (h : Ag F G) (hW : Wc F) : cx G = cx F ∧ cy G = cy F := by
  obtain ⟨n1, n2, n3⟩ := hW.n
  constructor
  · funext i
    have := Nat.mod_lt i n1
    unfold cx; rw [h.n, h _ (by omega)]
  · funext i
    have := Nat.mod_lt i n1
    unfold cy; rw [h.n, h _ (by omega)]
theorem Ag.s (h : Ag F G) (hW : Wc F) : stp G = stp F ∧ ax G = ax F ∧ ay G = ay F ∧ px G = px F ∧ py G = py F := by
  have h1 : stp G = stp F := by funext e; unfold stp; rw [(h.x hW).1, (h.x hW).2]
  have h2 : ax G = ax F := by funext e; unfold ax; rw [(h.x hW).1, h1]
  have h3 : ay G = ay F := by funext e; unfold ay; rw [(h.x hW).2, h1]
  refine ⟨h1, h2, h3, ?_, ?_⟩
  · funext e k; unfold px; rw [(h.x hW).1, h2]
  · funext e k; unfold py; rw [(h.x hW).2, h3]
theorem Ag.p (h : Ag F G) (hW : Wp F) : Wp G := ⟨h.c hW.1, by rw [h.n]; exact hW.2.1, fun e => by rw [(h.s hW.1).1]; exact hW.2.2 e⟩
theorem Ag.t (h : Ag F G) (hT : Wt F) : Wt G := by
  unfold Wt; rw [h 30 (by decide), h 31 (by decide), h 32 (by decide), h 33 (by decide)]; exact hT
theorem Ag.f (h : Ag F G) (hW : Wc F) (hN : Wn F) : Wn G := by
  obtain ⟨h1, h2, h3⟩ := hN
  refine ⟨by rw [h 17 (by decide)]; exact h1, by rw [h 17 (by decide)]; exact h2, fun i hi => ?_⟩
  rw [h 17 (by decide)] at hi
  rw [h _ (by omega), h _ (by omega), h.n, (h.s hW).1]
  exact h3 i hi
theorem Ag.eNf (h : Ag F G) : nf G = nf F := by unfold nf; rw [h 17 (by decide)]
theorem Ag.eFc (h : Ag F G) : fc G = fc F := by unfold fc; rw [h 30 (by decide)]
theorem Ag.eW (h : Ag F G) (hW : Wc F) (ct : Nat → Nat × Int) : Wl G ct = Wl F ct := by
  funext j
  unfold Wl wf wr
  rw [h.eFc, h 30 (by decide), h 31 (by decide), h 32 (by decide), h 33 (by decide), (h.s hW).2.1, (h.s hW).2.2.1, (h.s hW).2.2.2.1, (h.s hW).2.2.2.2]
theorem wb_congr {W W' : Nat → V3} {n : Nat} (h : ∀ j, j < n → W j = W' j) {s : Nat} : (R2 W n s ↔ R2 W' n s) ∧ (R3 W n s ↔ R3 W' n s) ∧ (firm W n s ↔ firm W' n s) := by
  have key : ∀ {W W' : Nat → V3}, (∀ j, j < n → W j = W' j) → (R2 W n s → R2 W' n s) ∧ (R3 W n s → R3 W' n s) ∧ (firm W n s → firm W' n s) := by
    intro W W' h
    have h3 : R3 W n s → R3 W' n s := by
      rintro ⟨i, j, k, a, b, c, d, e, f⟩
      exact ⟨i, j, k, a, b, c, d, by rw [← h i b.1, ← h j c.1]; exact e, by rw [← h i b.1, ← h j c.1, ← h k d.1]; exact f⟩
    refine ⟨?_, h3, ?_⟩
    · rintro ⟨i, j, a, b, c, d⟩
      exact ⟨i, j, a, b, c, by rw [← h i b.1, ← h j c.1]; exact d⟩
    · rintro ⟨a, b⟩
      refine ⟨h3 a, fun i j hij hi hj hz => ?_⟩
      rw [← h i hi.1, ← h j hj.1] at hz
      obtain ⟨⟨k, k1, k2⟩, l, l1, l2⟩ := b i j hij hi hj hz
      exact ⟨⟨k, k1, by rw [← h i hi.1, ← h j hj.1, ← h k k1.1]; exact k2⟩, l, l1, by rw [← h i hi.1, ← h j hj.1, ← h l l1.1]; exact l2⟩
  have a := key h
  have b := key (fun j hj => (h j hj).symm)
  exact ⟨⟨a.1, b.1⟩, ⟨a.2.1, b.2.1⟩, ⟨a.2.2, b.2.2⟩⟩
theorem Ag.eCt (h : Ag F G) (hN : Wn F) : ∀ j, j < (F 17).toNat → ctF G j = ctF F j := by
  intro j hj
  have : (F 17).toNat ≤ 6 := by have := hN.2.1; omega
  unfold ctF; rw [h _ (by omega), h _ (by omega)]
end Agree
theorem Wl_ct {F : Nat → Int} {c d : Nat → Nat × Int} {n : Nat} (h : ∀ i, i < n → c i = d i) : ∀ j, j < n * fc F → Wl F c j = Wl F d j := by
  intro j hj
  have hf := fc_b F
  have : j / fc F < n := (Nat.div_lt_iff_lt_mul (by omega)).mpr hj
  unfold Wl; rw [h _ this]
theorem Ag.eFirm {F G : Nat → Int} (h : Ag F G) (hW : Wc F) (hN : Wn F) : (firmF G ↔ firmF F) ∧ ∀ r, rkI (Wl G (ctF G)) (nf G * fc G) (fullS (nf G * fc G)) r ↔ rkI (Wl F (ctF F)) (nf F * fc F) (fullS (nf F * fc F)) r := by
  have e : ∀ j, j < nf F * fc F → Wl G (ctF G) j = Wl F (ctF F) j := by
    intro j hj
    rw [h.eW hW]
    exact Wl_ct (fun i hi => h.eCt hN i hi) j hj
  have w := wb_congr e (s := fullS (nf F * fc F))
  refine ⟨?_, fun r => ?_⟩
  · unfold firmF; rw [h.eNf, h.eFc]; exact w.2.2
  · unfold rkI; rw [h.eNf, h.eFc, w.1, w.2.1]
/-- how many are past, once one more has room -/
def npt (F : Nat → Int) : Int := if F 35 = 20 then 19 else F 35
def gpt (F : Nat → Int) : Nat → Int := fun j => if F 35 = 20 ∧ 36 ≤ j ∧ j < 112 then F (j + 4) else F j
/-- the file with one more noted: what, firm (1, 0), rank -/
def nt (F : Nat → Int) (w b r : Int) : Nat → Int := fun j =>
  if j = 35 then npt F + 1 else if (j : Int) = 36 + 4 * npt F then w else if (j : Int) = 36 + 4 * npt F + 1 then F 17 else if (j : Int) = 36 + 4 * npt F + 2 then b else if (j : Int) = 36 + 4 * npt F + 3 then r else gpt F j
/-- what is noted of a grasp: whether firm, its rank -/
def ntI (F : Nat → Int) (b r : Int) : Prop := ((b = 1 ∧ firmF F) ∨ (b = 0 ∧ ¬ firmF F)) ∧ rkI (Wl F (ctF F)) (nf F * fc F) (fullS (nf F * fc F)) r ∧ 0 ≤ r ∧ r ≤ 3
