/-! BOTH SIDES AND THE SAME WORLD -/
/-- a shelf: what it holds, kind, figure, sort, size, elements -/
abbrev mSh : Type := Nat × Nat × Nat × Nat × Nat × (Nat → Int32)
abbrev mG : Type := mX × Option mX × (Nat → mSh)
def shOk (h : mSh) : Prop := h.1 ≤ 2 ∧ (h.1 = 1 → h.2.1 < 8 ∧ h.2.2.1 ≤ 9) ∧ h.2.2.2.1 ≤ 2 ∧ h.2.2.2.2.1 ≤ 100
def cSh (σ : xS) (d : Nat) (h : mSh) : Prop := shOk h ∧ rI σ 11 0 d = nI h.1 ∧ (h.1 = 1 → ∃ q, rP σ 12 0 d = some q ∧ cOk σ q h.2.1 h.2.2.1) ∧ rI σ 14 d 1 = nI h.2.2.2.1 ∧ rI σ 14 d 2 = nI h.2.2.2.2.1 ∧ ∀ j, j < 100 → rI σ 15 d j = h.2.2.2.2.2 j
def mShl (σ : xS) (d : Nat) (h : mSh) : Prop := shOk h ∧ rI σ 22 0 d = nI h.1 ∧ (h.1 = 1 → rI σ 26 0 d = nI h.2.1 ∧ rI σ 27 0 d = nI h.2.2.1) ∧ rI σ 23 0 d = nI h.2.2.2.1 ∧ rI σ 24 0 d = nI h.2.2.2.2.1 ∧ ∀ j, j < 100 → rI σ 25 0 (100 * d + j) = h.2.2.2.2.2 j
def oN (o : Option mX) : Nat := match o with
  | none => 0
  | some _ => 1
def CI (σ : xS) (S : mG) : Prop := CL σ 0 S.1 ∧ rI σ 0 0 3 = nI (oN S.2.1) ∧ (∀ Y, S.2.1 = some Y → CL σ 2 Y) ∧ ∀ d, d < 8 → cSh σ d (S.2.2 d)
def MI (σ : xS) (S : mG) : Prop := ML (rI σ 18 0) (xaR S.1) S.1 ∧ rI σ 17 0 10 = nI (oN S.2.1) ∧ (∀ Y, S.2.1 = some Y → ML (rI σ 19 0) (xaR Y) Y) ∧ ∀ d, d < 8 → mShl σ d (S.2.2 d)
/-- the class leaves the reference's regions alone -/
def kC (n : Nat) (σ σ' : xS) : Prop := (∀ r i k, 17 ≤ r → rI σ' r i k = rI σ r i k ∧ rL σ' r i k = rL σ r i k ∧ rP σ' r i k = rP σ r i k) ∧ cN σ' ≤ cN σ + n ∧ cS σ' ≤ cS σ + 8 * n
def Smd (r _ _ : Nat) : Prop := 17 ≤ r ∧ r ≤ 34
def kM (σ σ' : xS) : Prop := xF Smd σ σ'
theorem CI_kM {σ σ' : xS} {S : mG} (h : CI σ S) (k : kM σ σ') : CI σ' S := by
  obtain ⟨a, b, c, e⟩ := h
  refine ⟨CL_F a k (fun r k hr => by unfold Smd; omega) (fun j k => by unfold Smd; omega), ?_, fun Y hY => CL_F (c Y hY) k (fun r k hr => by unfold Smd; omega) (fun j k => by unfold Smd; omega), fun d hd => ?_⟩
  · rw [k.1 0 0 3 (by unfold Smd; omega)]; exact b
  · obtain ⟨e1, e2, e3, e4, e5, e6⟩ := e d hd
    refine ⟨e1, ?_, fun h1 => ?_, ?_, ?_, fun j hj => ?_⟩
    · rw [k.1 11 0 d (by unfold Smd; omega)]; exact e2
    · obtain ⟨q, q1, q2⟩ := e3 h1
      exact ⟨q, by rw [k.2.2.1 12 0 d (by unfold Smd; omega)]; exact q1, cOk_w q2 k.2.2.2.1 (xF_I k (fun k => by unfold Smd; omega))⟩
    · rw [k.1 14 d 1 (by unfold Smd; omega)]; exact e4
    · rw [k.1 14 d 2 (by unfold Smd; omega)]; exact e5
    · rw [k.1 15 d j (by unfold Smd; omega)]; exact e6 j hj
theorem MI_kC {σ σ' : xS} {S : mG} {n : Nat} (h : MI σ S) (k : kC n σ σ') : MI σ' S := by
  obtain ⟨a, b, c, e⟩ := h
  have hI : ∀ r i, 17 ≤ r → rI σ' r i = rI σ r i := fun r i hr => funext fun k' => (k.1 r i k' hr).1
  unfold MI mShl
  rw [hI 18 0 (by omega), hI 17 0 (by omega), hI 19 0 (by omega), hI 22 0 (by omega), hI 23 0 (by omega), hI 24 0 (by omega), hI 25 0 (by omega), hI 26 0 (by omega), hI 27 0 (by omega)]
  exact ⟨a, b, c, e⟩
/-- what the class changes besides its lands and shelves -/
def Scr (r j k : Nat) : Prop := r = 6 ∨ r = 7 ∨ r = 8 ∨ r = 9 ∨ r = 10 ∨ ((r = 1 ∨ r = 2 ∨ r = 3 ∨ r = 4 ∨ r = 5) ∧ j = 1) ∨ (r = 0 ∧ k = 8)
theorem CI_Scr {σ σ' : xS} {S : mG} (h : CI σ S) (k : xF Scr σ σ') : CI σ' S := by
  obtain ⟨a, b, c, e⟩ := h
  refine ⟨CL_F a k (fun r k hr => by unfold Scr; omega) (fun j k => by unfold Scr; omega), ?_, fun Y hY => CL_F (c Y hY) k (fun r k hr => by unfold Scr; omega) (fun j k => by unfold Scr; omega), fun d hd => ?_⟩
  · rw [k.1 0 0 3 (by unfold Scr; omega)]; exact b
  · obtain ⟨e1, e2, e3, e4, e5, e6⟩ := e d hd
    refine ⟨e1, ?_, fun h1 => ?_, ?_, ?_, fun j hj => ?_⟩
    · rw [k.1 11 0 d (by unfold Scr; omega)]; exact e2
    · obtain ⟨q, q1, q2⟩ := e3 h1
      exact ⟨q, by rw [k.2.2.1 12 0 d (by unfold Scr; omega)]; exact q1, cOk_w q2 k.2.2.2.1 (xF_I k (fun k => by unfold Scr; omega))⟩
    · rw [k.1 14 d 1 (by unfold Scr; omega)]; exact e4
    · rw [k.1 14 d 2 (by unfold Scr; omega)]; exact e5
    · rw [k.1 15 d j (by unfold Scr; omega)]; exact e6 j hj
theorem kC_F {S : Nat → Nat → Nat → Prop} {σ σ' : xS} {n : Nat} (k : xF S σ σ') (h : ∀ r j k, S r j k → r ≤ 16) : kC n σ σ' :=
  ⟨fun r i k' hr => ⟨k.1 r i k' (fun s => by have := h _ _ _ s; omega), k.2.1 r i k' (fun s => by have := h _ _ _ s; omega), k.2.2.1 r i k' (fun s => by have := h _ _ _ s; omega)⟩, by rw [k.2.2.2.2.1]; omega, by rw [k.2.2.2.2.2]; omega⟩
theorem kC_refl {n : Nat} (σ : xS) : kC n σ σ := ⟨fun _ _ _ _ => ⟨rfl, rfl, rfl⟩, Nat.le_add_right _ _, Nat.le_add_right _ _⟩
theorem kC_trans {n m : Nat} {σ σ' σ'' : xS} (h : kC n σ σ') (g : kC m σ' σ'') : kC (n + m) σ σ'' :=
  ⟨fun r i k hr => ⟨(g.1 r i k hr).1.trans (h.1 r i k hr).1, (g.1 r i k hr).2.1.trans (h.1 r i k hr).2.1, (g.1 r i k hr).2.2.trans (h.1 r i k hr).2.2⟩, by have := h.2.1; have := g.2.1; omega, by have := h.2.2; have := g.2.2; omega⟩
theorem kC_le {n m : Nat} {σ σ' : xS} (h : kC n σ σ') (g : n ≤ m) : kC m σ σ' := ⟨h.1, by have := h.2.1; omega, by have := h.2.2; omega⟩
/-- both answer the same and come to the same world -/
def Duo (D : Nat) (cc cm : xS → xC) (S : mG) : Prop := ∃ w S', (∀ σ, CI σ S → ∃ σ', run D (cc σ) = some ((w, 0, none), σ') ∧ CI σ' S' ∧ kC 200 σ σ') ∧ (∀ σ, MI σ S → ∃ σ', run D (cm σ) = some ((w, 0, none), σ') ∧ MI σ' S' ∧ kM σ σ')
theorem Scr_16 (r j k : Nat) (h : Scr r j k) : r ≤ 16 := by unfold Scr at h; omega
theorem kM_20 {σ σ' : xS} (h : xF S20 σ σ') : kM σ σ' := xF_le h (fun r j k s => by unfold S20 at s; unfold Smd; omega)
theorem MI_20 {σ σ' : xS} {S : mG} (h : MI σ S) (k : xF S20 σ σ') : MI σ' S := by
  obtain ⟨a, b, c, e⟩ := h
  unfold MI mShl
  rw [xF_I k (r := 18) (i := 0) (fun k => by unfold S20; omega), k.1 17 0 10 (by unfold S20; omega), xF_I k (r := 19) (i := 0) (fun k => by unfold S20; omega), xF_I k (r := 22) (i := 0) (fun k => by unfold S20; omega), xF_I k (r := 23) (i := 0) (fun k => by unfold S20; omega), xF_I k (r := 24) (i := 0) (fun k => by unfold S20; omega), xF_I k (r := 25) (i := 0) (fun k => by unfold S20; omega), xF_I k (r := 26) (i := 0) (fun k => by unfold S20; omega), xF_I k (r := 27) (i := 0) (fun k => by unfold S20; omega)]
  exact ⟨a, b, c, e⟩
def asked (X : mX) (c g a b : Int32) : Prop := inb c (xaC X) ∧ inb g 4 ∧ inb a (xaP X) ∧ inb b (xaP X) ∧ ¬ a = b
theorem asked_of {X : mX} {c g a b : Int32} (hX : WX (xaR X) X) (h : asked X c g a b) : ∃ c' g' a' b', c = nI c' ∧ g = nI g' ∧ a = nI a' ∧ b = nI b' ∧ c' < xaC X ∧ g' < 4 ∧ a' < 6 ∧ b' < 6 ∧ ¬ a' = b' := by
  have h1 := hX.2.1
  have h2 := hX.2.2.2.1
  obtain ⟨c', hc, e1⟩ := inb_of h.1 (by omega)
  obtain ⟨g', hg, e2⟩ := inb_of h.2.1 (by omega)
  obtain ⟨a', ha, e3⟩ := inb_of h.2.2.1 (by omega)
  obtain ⟨b', hb, e4⟩ := inb_of h.2.2.2.1 (by omega)
  exact ⟨c', g', a', b', e1, e2, e3, e4, hc, hg, by omega, by omega, fun e => h.2.2.2.2 (by rw [e3, e4, e])⟩
theorem M36 (d : Nat) (σ : xS) (c g a b : Int32) {n : Nat} {X : mX} (h : ML (rI σ 18 0) n X) : run (d + 4) (xentry 36 [.inr (.inr (17, (some 0))), .inl c, .inl g, .inl a, .inl b] σ) = some ((bI (asked X c g a b), 0, none), σ) := by
  rw [B36_0, M5 _ _ _ h]
  simp (disch := omega) only [n_cl, n_lt, n_le, n_eq, n_lt0, n_0lt, n_le0, n_eq0, n_gneq, n_ngeq, n_ng0, n_nglt, n_glt, n_gle, n_ltg, n_leg, n_gg, n_ge0, n_add, n_mul, n_rem, n_shl1, n_and, n_or, n_bit, n_not, n_not', n_B1, n_B0, n_BB, obind, xite_T, xite_F, xite_not, xite_same, oI_s, oI_n, Bool.false_eq_true, reduceCtorEq, eq_self, Classical.not_not, bI_T, bI_Fa, bI_0, bI_n0, bI_x, xb_0, xb_1, xite_bI, xite_bI', not_true_eq_false, not_false_eq_true, Nat.zero_add, Nat.add_zero, Nat.mul_zero, Nat.mul_one, Nat.one_mul, reduceIte, Nat.reduceEqDiff, Nat.reduceAdd, Nat.reduceMul, Nat.reduceSub, Nat.reduceLT, Nat.reduceLeDiff, Nat.reducePow, ite_true, ite_false, if_true, if_false, and_true, true_and, false_and, and_false, or_false, false_or, true_or, or_true, ne_eq, ]
  by_cases h1 : inb c (xaC X)
  · rw [xite_t h1, M6]
    simp (disch := omega) only [n_cl, n_lt, n_le, n_eq, n_lt0, n_0lt, n_le0, n_eq0, n_gneq, n_ngeq, n_ng0, n_nglt, n_glt, n_gle, n_ltg, n_leg, n_gg, n_ge0, n_add, n_mul, n_rem, n_shl1, n_and, n_or, n_bit, n_not, n_not', n_B1, n_B0, n_BB, obind, xite_T, xite_F, xite_not, xite_same, oI_s, oI_n, Bool.false_eq_true, reduceCtorEq, eq_self, Classical.not_not, bI_T, bI_Fa, bI_0, bI_n0, bI_x, xb_0, xb_1, xite_bI, xite_bI', not_true_eq_false, not_false_eq_true, Nat.zero_add, Nat.add_zero, Nat.mul_zero, Nat.mul_one, Nat.one_mul, reduceIte, Nat.reduceEqDiff, Nat.reduceAdd, Nat.reduceMul, Nat.reduceSub, Nat.reduceLT, Nat.reduceLeDiff, Nat.reducePow, ite_true, ite_false, if_true, if_false, and_true, true_and, false_and, and_false, or_false, false_or, true_or, or_true, ne_eq, ]
    by_cases h2 : inb g 4
    · rw [xite_t h2, M7 _ _ _ _ h]
      simp (disch := omega) only [n_cl, n_lt, n_le, n_eq, n_lt0, n_0lt, n_le0, n_eq0, n_gneq, n_ngeq, n_ng0, n_nglt, n_glt, n_gle, n_ltg, n_leg, n_gg, n_ge0, n_add, n_mul, n_rem, n_shl1, n_and, n_or, n_bit, n_not, n_not', n_B1, n_B0, n_BB, obind, xite_T, xite_F, xite_not, xite_same, oI_s, oI_n, Bool.false_eq_true, reduceCtorEq, eq_self, Classical.not_not, bI_T, bI_Fa, bI_0, bI_n0, bI_x, xb_0, xb_1, xite_bI, xite_bI', not_true_eq_false, not_false_eq_true, Nat.zero_add, Nat.add_zero, Nat.mul_zero, Nat.mul_one, Nat.one_mul, reduceIte, Nat.reduceEqDiff, Nat.reduceAdd, Nat.reduceMul, Nat.reduceSub, Nat.reduceLT, Nat.reduceLeDiff, Nat.reducePow, ite_true, ite_false, if_true, if_false, and_true, true_and, false_and, and_false, or_false, false_or, true_or, or_true, ne_eq, ]
      congr 3
      unfold asked
      simp (disch := omega) only [n_cl, n_lt, n_le, n_eq, n_lt0, n_0lt, n_le0, n_eq0, n_gneq, n_ngeq, n_ng0, n_nglt, n_glt, n_gle, n_ltg, n_leg, n_gg, n_ge0, n_add, n_mul, n_rem, n_shl1, n_and, n_or, n_bit, n_not, n_not', n_B1, n_B0, n_BB, obind, xite_T, xite_F, xite_not, xite_same, oI_s, oI_n, Bool.false_eq_true, reduceCtorEq, eq_self, Classical.not_not, bI_T, bI_Fa, bI_0, bI_n0, bI_x, xb_0, xb_1, xite_bI, xite_bI', not_true_eq_false, not_false_eq_true, Nat.zero_add, Nat.add_zero, Nat.mul_zero, Nat.mul_one, Nat.one_mul, reduceIte, Nat.reduceEqDiff, Nat.reduceAdd, Nat.reduceMul, Nat.reduceSub, Nat.reduceLT, Nat.reduceLeDiff, Nat.reducePow, ite_true, ite_false, if_true, if_false, and_true, true_and, false_and, and_false, or_false, false_or, true_or, or_true, ne_eq, h1, h2]
    · rw [xite_f h2, bI_f (fun h => h2 h.2.1)]
  · rw [xite_f h1, bI_f (fun h => h1 h.1)]
theorem C170 (d : Nat) (σ : xS) (i : Nat) (c g a b : Int32) {X : mX} (h : CL σ i X) : run (d + 4) (xentry 170 [.inr (.inr (1, (some i))), .inl c, .inl g, .inl a, .inl b] σ) = some ((bI (asked X c g a b), 0, none), σ) := by
  rw [B170_0]
  by_cases h1 : inb c (xaC X)
  · have h6 := h.1.2.2.2.1
    obtain ⟨c', hc, e⟩ := inb_of h1 (by omega)
    subst e
    obtain ⟨q, eq, _⟩ := h.2.2.2.2.2.2 c' hc
    rw [C95_t _ _ h hc, eq]
    simp (disch := omega) only [n_cl, n_lt, n_le, n_eq, n_lt0, n_0lt, n_le0, n_eq0, n_gneq, n_ngeq, n_ng0, n_nglt, n_glt, n_gle, n_ltg, n_leg, n_gg, n_ge0, n_add, n_mul, n_rem, n_shl1, n_and, n_or, n_bit, n_not, n_not', n_B1, n_B0, n_BB, obind, xite_T, xite_F, xite_not, xite_same, oI_s, oI_n, Bool.false_eq_true, reduceCtorEq, eq_self, Classical.not_not, bI_T, bI_Fa, bI_0, bI_n0, bI_x, xb_0, xb_1, xite_bI, xite_bI', not_true_eq_false, not_false_eq_true, Nat.zero_add, Nat.add_zero, Nat.mul_zero, Nat.mul_one, Nat.one_mul, reduceIte, Nat.reduceEqDiff, Nat.reduceAdd, Nat.reduceMul, Nat.reduceSub, Nat.reduceLT, Nat.reduceLeDiff, Nat.reducePow, ite_true, ite_false, if_true, if_false, and_true, true_and, false_and, and_false, or_false, false_or, true_or, or_true, ne_eq, C166]
    by_cases h2 : inb g 4
    · rw [xite_t h2, C93 _ _ _ _ h]
      simp (disch := omega) only [n_cl, n_lt, n_le, n_eq, n_lt0, n_0lt, n_le0, n_eq0, n_gneq, n_ngeq, n_ng0, n_nglt, n_glt, n_gle, n_ltg, n_leg, n_gg, n_ge0, n_add, n_mul, n_rem, n_shl1, n_and, n_or, n_bit, n_not, n_not', n_B1, n_B0, n_BB, obind, xite_T, xite_F, xite_not, xite_same, oI_s, oI_n, Bool.false_eq_true, reduceCtorEq, eq_self, Classical.not_not, bI_T, bI_Fa, bI_0, bI_n0, bI_x, xb_0, xb_1, xite_bI, xite_bI', not_true_eq_false, not_false_eq_true, Nat.zero_add, Nat.add_zero, Nat.mul_zero, Nat.mul_one, Nat.one_mul, reduceIte, Nat.reduceEqDiff, Nat.reduceAdd, Nat.reduceMul, Nat.reduceSub, Nat.reduceLT, Nat.reduceLeDiff, Nat.reducePow, ite_true, ite_false, if_true, if_false, and_true, true_and, false_and, and_false, or_false, false_or, true_or, or_true, ne_eq, ]
      congr 3
      unfold asked
      simp (disch := omega) only [n_cl, n_lt, n_le, n_eq, n_lt0, n_0lt, n_le0, n_eq0, n_gneq, n_ngeq, n_ng0, n_nglt, n_glt, n_gle, n_ltg, n_leg, n_gg, n_ge0, n_add, n_mul, n_rem, n_shl1, n_and, n_or, n_bit, n_not, n_not', n_B1, n_B0, n_BB, obind, xite_T, xite_F, xite_not, xite_same, oI_s, oI_n, Bool.false_eq_true, reduceCtorEq, eq_self, Classical.not_not, bI_T, bI_Fa, bI_0, bI_n0, bI_x, xb_0, xb_1, xite_bI, xite_bI', not_true_eq_false, not_false_eq_true, Nat.zero_add, Nat.add_zero, Nat.mul_zero, Nat.mul_one, Nat.one_mul, reduceIte, Nat.reduceEqDiff, Nat.reduceAdd, Nat.reduceMul, Nat.reduceSub, Nat.reduceLT, Nat.reduceLeDiff, Nat.reducePow, ite_true, ite_false, if_true, if_false, and_true, true_and, false_and, and_false, or_false, false_or, true_or, or_true, ne_eq, h1, h2]
    · rw [xite_f h2, bI_f (fun h => h2 h.2.1)]
  · rw [C95_f _ _ h h1, bI_f (fun h => h1 h.1)]
    simp (disch := omega) only [n_cl, n_lt, n_le, n_eq, n_lt0, n_0lt, n_le0, n_eq0, n_gneq, n_ngeq, n_ng0, n_nglt, n_glt, n_gle, n_ltg, n_leg, n_gg, n_ge0, n_add, n_mul, n_rem, n_shl1, n_and, n_or, n_bit, n_not, n_not', n_B1, n_B0, n_BB, obind, xite_T, xite_F, xite_not, xite_same, oI_s, oI_n, Bool.false_eq_true, reduceCtorEq, eq_self, Classical.not_not, bI_T, bI_Fa, bI_0, bI_n0, bI_x, xb_0, xb_1, xite_bI, xite_bI', not_true_eq_false, not_false_eq_true, Nat.zero_add, Nat.add_zero, Nat.mul_zero, Nat.mul_one, Nat.one_mul, reduceIte, Nat.reduceEqDiff, Nat.reduceAdd, Nat.reduceMul, Nat.reduceSub, Nat.reduceLT, Nat.reduceLeDiff, Nat.reducePow, ite_true, ite_false, if_true, if_false, and_true, true_and, false_and, and_false, or_false, false_or, true_or, or_true, ne_eq, ]
