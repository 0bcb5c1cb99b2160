/-! THE REFERENCE'S SMALL METHODS -/
theorem oI_s {k q : Nat} : oI k (some q) = nI q := rfl
theorem oI_n {k : Nat} : oI k none = -nI k := rfl
theorem M1 (d : Nat) (σ : xS) (a b c : Int64) : run (d + 1) (xentry 1 [.inr (.inl a), .inr (.inl b), .inr (.inl c)] σ) = some ((bI (b.toInt ≤ a.toInt ∧ a.toInt ≤ c.toInt), 0, none), σ) := by
  rw [B1_0]
  simp only [n_cmp1, n_cmp2, xb_0, xb_1]
  by_cases h1 : a.toInt < b.toInt
  · rw [xite_t h1, bI_f (by omega)]
  · rw [xite_f h1]
    by_cases h2 : c.toInt < a.toInt
    · rw [xite_t h2, bI_f (by omega)]
    · rw [xite_f h2, bI_t (by omega)]
theorem M1r (d : Nat) (σ : xS) (v : Int32) (b : Int32) (n : Nat) (hb : b.toInt = (n : Int) - 1) : run (d + 1) (xentry 1 [.inr (.inl v.toInt64), .inr (.inl (lN 0)), .inr (.inl b.toInt64)] σ) = some ((bI (inb v n), 0, none), σ) := by
  rw [M1, n_i2l, n_i2l, n_lNt (by omega), hb]
  congr 4
  exact propext ⟨fun h => ⟨by have := h.1; omega, by have := h.2; omega⟩, fun h => ⟨by have := h.1; omega, by have := h.2; omega⟩⟩
theorem M1c (d : Nat) (σ : xS) (v : Int32) (m : Nat) (hm : m < 2147483647) : run (d + 1) (xentry 1 [.inr (.inl v.toInt64), .inr (.inl (lN 0)), .inr (.inl (lN m))] σ) = some ((bI (inb v (m + 1)), 0, none), σ) := by
  rw [M1, n_i2l, n_lNt (by omega), n_lNt (by omega)]
  congr 4
  exact propext ⟨fun h => ⟨by have := h.1; omega, by have := h.2; omega⟩, fun h => ⟨by have := h.1; omega, by have := h.2; omega⟩⟩
theorem n_pred {n : Nat} (h : n < 2147483648) : (nI n - nI 1).toInt = (n : Int) - 1 := by
  by_cases h0 : n = 0
  · subst h0; decide
  · rw [n_sub (by omega), n_toInt (by omega)]; omega
theorem M2 (d : Nat) (σ : xS) (v : Int32) : run (d + 2) (xentry 2 [.inl v] σ) = some ((bI (inb v 8), 0, none), σ) := by
  rw [B2_0, M1c _ _ _ 7 (by omega)]
  simp (disch := omega) only [n_cl, n_lt, n_le, n_eq, n_lt0, n_0lt, n_le0, n_eq0, n_gneq, n_ngeq, n_ng0, n_nglt, n_glt, n_gle, n_ltg, n_leg, n_gg, n_ge0, n_add, n_mul, n_rem, n_shl1, n_and, n_or, n_bit, n_not, n_not', n_B1, n_B0, n_BB, obind, xite_T, xite_F, xite_not, xite_same, oI_s, oI_n, Bool.false_eq_true, reduceCtorEq, eq_self, Classical.not_not, bI_T, bI_Fa, bI_0, bI_n0, bI_x, xb_0, xb_1, xite_bI, xite_bI', not_true_eq_false, not_false_eq_true, Nat.zero_add, Nat.add_zero, Nat.mul_zero, Nat.mul_one, Nat.one_mul, reduceIte, Nat.reduceEqDiff, Nat.reduceAdd, Nat.reduceMul, Nat.reduceSub, Nat.reduceLT, Nat.reduceLeDiff, Nat.reducePow, ite_true, ite_false, if_true, if_false, and_true, true_and, false_and, and_false, or_false, false_or, true_or, or_true, ne_eq, xite_t, xite_f, ]
theorem M6 (d : Nat) (σ : xS) (v : Int32) : run (d + 2) (xentry 6 [.inl v] σ) = some ((bI (inb v 4), 0, none), σ) := by
  rw [B6_0, M1c _ _ _ 3 (by omega)]
  simp (disch := omega) only [n_cl, n_lt, n_le, n_eq, n_lt0, n_0lt, n_le0, n_eq0, n_gneq, n_ngeq, n_ng0, n_nglt, n_glt, n_gle, n_ltg, n_leg, n_gg, n_ge0, n_add, n_mul, n_rem, n_shl1, n_and, n_or, n_bit, n_not, n_not', n_B1, n_B0, n_BB, obind, xite_T, xite_F, xite_not, xite_same, oI_s, oI_n, Bool.false_eq_true, reduceCtorEq, eq_self, Classical.not_not, bI_T, bI_Fa, bI_0, bI_n0, bI_x, xb_0, xb_1, xite_bI, xite_bI', not_true_eq_false, not_false_eq_true, Nat.zero_add, Nat.add_zero, Nat.mul_zero, Nat.mul_one, Nat.one_mul, reduceIte, Nat.reduceEqDiff, Nat.reduceAdd, Nat.reduceMul, Nat.reduceSub, Nat.reduceLT, Nat.reduceLeDiff, Nat.reducePow, ite_true, ite_false, if_true, if_false, and_true, true_and, false_and, and_false, or_false, false_or, true_or, or_true, ne_eq, xite_t, xite_f, ]
theorem M3 (d : Nat) (σ : xS) (v : Int32) {n : Nat} {X : mX} (h : ML (rI σ 18 0) n X) : run (d + 2) (xentry 3 [.inr (.inr (17, some 0)), .inl v] σ) = some ((bI (inb v (xaP X)), 0, none), σ) := by
  have hp : xaP X ≤ 6 := h.1.2.1
  have h0 := h.2.1
  rw [B3_0]
  simp (disch := omega) only [n_cl, n_lt, n_le, n_eq, n_lt0, n_0lt, n_le0, n_eq0, n_gneq, n_ngeq, n_ng0, n_nglt, n_glt, n_gle, n_ltg, n_leg, n_gg, n_ge0, n_add, n_mul, n_rem, n_shl1, n_and, n_or, n_bit, n_not, n_not', n_B1, n_B0, n_BB, obind, xite_T, xite_F, xite_not, xite_same, oI_s, oI_n, Bool.false_eq_true, reduceCtorEq, eq_self, Classical.not_not, bI_T, bI_Fa, bI_0, bI_n0, bI_x, xb_0, xb_1, xite_bI, xite_bI', not_true_eq_false, not_false_eq_true, Nat.zero_add, Nat.add_zero, Nat.mul_zero, Nat.mul_one, Nat.one_mul, reduceIte, Nat.reduceEqDiff, Nat.reduceAdd, Nat.reduceMul, Nat.reduceSub, Nat.reduceLT, Nat.reduceLeDiff, Nat.reducePow, ite_true, ite_false, if_true, if_false, and_true, true_and, false_and, and_false, or_false, false_or, true_or, or_true, ne_eq, xite_t, xite_f, h0]
  rw [M1r d σ v _ (xaP X) (n_pred (by omega))]
  simp (disch := omega) only [n_cl, n_lt, n_le, n_eq, n_lt0, n_0lt, n_le0, n_eq0, n_gneq, n_ngeq, n_ng0, n_nglt, n_glt, n_gle, n_ltg, n_leg, n_gg, n_ge0, n_add, n_mul, n_rem, n_shl1, n_and, n_or, n_bit, n_not, n_not', n_B1, n_B0, n_BB, obind, xite_T, xite_F, xite_not, xite_same, oI_s, oI_n, Bool.false_eq_true, reduceCtorEq, eq_self, Classical.not_not, bI_T, bI_Fa, bI_0, bI_n0, bI_x, xb_0, xb_1, xite_bI, xite_bI', not_true_eq_false, not_false_eq_true, Nat.zero_add, Nat.add_zero, Nat.mul_zero, Nat.mul_one, Nat.one_mul, reduceIte, Nat.reduceEqDiff, Nat.reduceAdd, Nat.reduceMul, Nat.reduceSub, Nat.reduceLT, Nat.reduceLeDiff, Nat.reducePow, ite_true, ite_false, if_true, if_false, and_true, true_and, false_and, and_false, or_false, false_or, true_or, or_true, ne_eq, xite_t, xite_f, ]
theorem M4 (d : Nat) (σ : xS) (v : Int32) {n : Nat} {X : mX} (h : ML (rI σ 18 0) n X) : run (d + 2) (xentry 4 [.inr (.inr (17, some 0)), .inl v] σ) = some ((bI (inb v (xaR X)), 0, none), σ) := by
  have hp : xaR X ≤ 9 := h.1.2.2.1
  have h0 := h.2.2.1
  rw [B4_0]
  simp (disch := omega) only [n_cl, n_lt, n_le, n_eq, n_lt0, n_0lt, n_le0, n_eq0, n_gneq, n_ngeq, n_ng0, n_nglt, n_glt, n_gle, n_ltg, n_leg, n_gg, n_ge0, n_add, n_mul, n_rem, n_shl1, n_and, n_or, n_bit, n_not, n_not', n_B1, n_B0, n_BB, obind, xite_T, xite_F, xite_not, xite_same, oI_s, oI_n, Bool.false_eq_true, reduceCtorEq, eq_self, Classical.not_not, bI_T, bI_Fa, bI_0, bI_n0, bI_x, xb_0, xb_1, xite_bI, xite_bI', not_true_eq_false, not_false_eq_true, Nat.zero_add, Nat.add_zero, Nat.mul_zero, Nat.mul_one, Nat.one_mul, reduceIte, Nat.reduceEqDiff, Nat.reduceAdd, Nat.reduceMul, Nat.reduceSub, Nat.reduceLT, Nat.reduceLeDiff, Nat.reducePow, ite_true, ite_false, if_true, if_false, and_true, true_and, false_and, and_false, or_false, false_or, true_or, or_true, ne_eq, xite_t, xite_f, h0]
  rw [M1r d σ v _ (xaR X) (n_pred (by omega))]
  simp (disch := omega) only [n_cl, n_lt, n_le, n_eq, n_lt0, n_0lt, n_le0, n_eq0, n_gneq, n_ngeq, n_ng0, n_nglt, n_glt, n_gle, n_ltg, n_leg, n_gg, n_ge0, n_add, n_mul, n_rem, n_shl1, n_and, n_or, n_bit, n_not, n_not', n_B1, n_B0, n_BB, obind, xite_T, xite_F, xite_not, xite_same, oI_s, oI_n, Bool.false_eq_true, reduceCtorEq, eq_self, Classical.not_not, bI_T, bI_Fa, bI_0, bI_n0, bI_x, xb_0, xb_1, xite_bI, xite_bI', not_true_eq_false, not_false_eq_true, Nat.zero_add, Nat.add_zero, Nat.mul_zero, Nat.mul_one, Nat.one_mul, reduceIte, Nat.reduceEqDiff, Nat.reduceAdd, Nat.reduceMul, Nat.reduceSub, Nat.reduceLT, Nat.reduceLeDiff, Nat.reducePow, ite_true, ite_false, if_true, if_false, and_true, true_and, false_and, and_false, or_false, false_or, true_or, or_true, ne_eq, xite_t, xite_f, ]
theorem M5 (d : Nat) (σ : xS) (v : Int32) {n : Nat} {X : mX} (h : ML (rI σ 18 0) n X) : run (d + 2) (xentry 5 [.inr (.inr (17, some 0)), .inl v] σ) = some ((bI (inb v (xaC X)), 0, none), σ) := by
  have hp : xaC X ≤ 6 := h.1.2.2.2.1
  have h0 := h.2.2.2.1
  rw [B5_0]
  simp (disch := omega) only [n_cl, n_lt, n_le, n_eq, n_lt0, n_0lt, n_le0, n_eq0, n_gneq, n_ngeq, n_ng0, n_nglt, n_glt, n_gle, n_ltg, n_leg, n_gg, n_ge0, n_add, n_mul, n_rem, n_shl1, n_and, n_or, n_bit, n_not, n_not', n_B1, n_B0, n_BB, obind, xite_T, xite_F, xite_not, xite_same, oI_s, oI_n, Bool.false_eq_true, reduceCtorEq, eq_self, Classical.not_not, bI_T, bI_Fa, bI_0, bI_n0, bI_x, xb_0, xb_1, xite_bI, xite_bI', not_true_eq_false, not_false_eq_true, Nat.zero_add, Nat.add_zero, Nat.mul_zero, Nat.mul_one, Nat.one_mul, reduceIte, Nat.reduceEqDiff, Nat.reduceAdd, Nat.reduceMul, Nat.reduceSub, Nat.reduceLT, Nat.reduceLeDiff, Nat.reducePow, ite_true, ite_false, if_true, if_false, and_true, true_and, false_and, and_false, or_false, false_or, true_or, or_true, ne_eq, xite_t, xite_f, h0]
  rw [M1r d σ v _ (xaC X) (n_pred (by omega))]
  simp (disch := omega) only [n_cl, n_lt, n_le, n_eq, n_lt0, n_0lt, n_le0, n_eq0, n_gneq, n_ngeq, n_ng0, n_nglt, n_glt, n_gle, n_ltg, n_leg, n_gg, n_ge0, n_add, n_mul, n_rem, n_shl1, n_and, n_or, n_bit, n_not, n_not', n_B1, n_B0, n_BB, obind, xite_T, xite_F, xite_not, xite_same, oI_s, oI_n, Bool.false_eq_true, reduceCtorEq, eq_self, Classical.not_not, bI_T, bI_Fa, bI_0, bI_n0, bI_x, xb_0, xb_1, xite_bI, xite_bI', not_true_eq_false, not_false_eq_true, Nat.zero_add, Nat.add_zero, Nat.mul_zero, Nat.mul_one, Nat.one_mul, reduceIte, Nat.reduceEqDiff, Nat.reduceAdd, Nat.reduceMul, Nat.reduceSub, Nat.reduceLT, Nat.reduceLeDiff, Nat.reducePow, ite_true, ite_false, if_true, if_false, and_true, true_and, false_and, and_false, or_false, false_or, true_or, or_true, ne_eq, xite_t, xite_f, ]
theorem M7 (d : Nat) (σ : xS) (a b : Int32) {n : Nat} {X : mX} (h : ML (rI σ 18 0) n X) : run (d + 3) (xentry 7 [.inr (.inr (17, some 0)), .inl a, .inl b] σ) = some ((bI (inb a (xaP X) ∧ inb b (xaP X) ∧ ¬ a = b), 0, none), σ) := by
  rw [B7_0, M3 d σ a h]
  simp (disch := omega) only [n_cl, n_lt, n_le, n_eq, n_lt0, n_0lt, n_le0, n_eq0, n_gneq, n_ngeq, n_ng0, n_nglt, n_glt, n_gle, n_ltg, n_leg, n_gg, n_ge0, n_add, n_mul, n_rem, n_shl1, n_and, n_or, n_bit, n_not, n_not', n_B1, n_B0, n_BB, obind, xite_T, xite_F, xite_not, xite_same, oI_s, oI_n, Bool.false_eq_true, reduceCtorEq, eq_self, Classical.not_not, bI_T, bI_Fa, bI_0, bI_n0, bI_x, xb_0, xb_1, xite_bI, xite_bI', not_true_eq_false, not_false_eq_true, Nat.zero_add, Nat.add_zero, Nat.mul_zero, Nat.mul_one, Nat.one_mul, reduceIte, Nat.reduceEqDiff, Nat.reduceAdd, Nat.reduceMul, Nat.reduceSub, Nat.reduceLT, Nat.reduceLeDiff, Nat.reducePow, ite_true, ite_false, if_true, if_false, and_true, true_and, false_and, and_false, or_false, false_or, true_or, or_true, ne_eq, ]
  by_cases h1 : inb a (xaP X)
  · rw [xite_t h1, M3 d σ b h]
    simp (disch := omega) only [n_cl, n_lt, n_le, n_eq, n_lt0, n_0lt, n_le0, n_eq0, n_gneq, n_ngeq, n_ng0, n_nglt, n_glt, n_gle, n_ltg, n_leg, n_gg, n_ge0, n_add, n_mul, n_rem, n_shl1, n_and, n_or, n_bit, n_not, n_not', n_B1, n_B0, n_BB, obind, xite_T, xite_F, xite_not, xite_same, oI_s, oI_n, Bool.false_eq_true, reduceCtorEq, eq_self, Classical.not_not, bI_T, bI_Fa, bI_0, bI_n0, bI_x, xb_0, xb_1, xite_bI, xite_bI', not_true_eq_false, not_false_eq_true, Nat.zero_add, Nat.add_zero, Nat.mul_zero, Nat.mul_one, Nat.one_mul, reduceIte, Nat.reduceEqDiff, Nat.reduceAdd, Nat.reduceMul, Nat.reduceSub, Nat.reduceLT, Nat.reduceLeDiff, Nat.reducePow, ite_true, ite_false, if_true, if_false, and_true, true_and, false_and, and_false, or_false, false_or, true_or, or_true, ne_eq, ]
    by_cases h2 : inb b (xaP X)
    · rw [xite_t h2]
      simp (disch := omega) only [n_cl, n_lt, n_le, n_eq, n_lt0, n_0lt, n_le0, n_eq0, n_gneq, n_ngeq, n_ng0, n_nglt, n_glt, n_gle, n_ltg, n_leg, n_gg, n_ge0, n_add, n_mul, n_rem, n_shl1, n_and, n_or, n_bit, n_not, n_not', n_B1, n_B0, n_BB, obind, xite_T, xite_F, xite_not, xite_same, oI_s, oI_n, Bool.false_eq_true, reduceCtorEq, eq_self, Classical.not_not, bI_T, bI_Fa, bI_0, bI_n0, bI_x, xb_0, xb_1, xite_bI, xite_bI', not_true_eq_false, not_false_eq_true, Nat.zero_add, Nat.add_zero, Nat.mul_zero, Nat.mul_one, Nat.one_mul, reduceIte, Nat.reduceEqDiff, Nat.reduceAdd, Nat.reduceMul, Nat.reduceSub, Nat.reduceLT, Nat.reduceLeDiff, Nat.reducePow, ite_true, ite_false, if_true, if_false, and_true, true_and, false_and, and_false, or_false, false_or, true_or, or_true, ne_eq, h1, h2]
    · rw [xite_f h2, bI_f (fun h => h2 h.2.1)]
  · rw [xite_f h1, bI_f (fun h => h1 h.1)]
theorem M8 (d : Nat) (σ : xS) {r k : Nat} (hr : r < 13) (hk : k < 4) (hd : 3 + 4 * r + k < 55) : run (d + 1) (xentry 8 [.inr (.inr (17, some 0)), .inl (nI r), .inl (nI k)] σ) = some ((rI σ 18 0 (3 + 4 * r + k), 0, none), σ) := by
  rw [B8_0]
  simp (disch := omega) only [n_cl, n_lt, n_le, n_eq, n_lt0, n_0lt, n_le0, n_eq0, n_gneq, n_ngeq, n_ng0, n_nglt, n_glt, n_gle, n_ltg, n_leg, n_gg, n_ge0, n_add, n_mul, n_rem, n_shl1, n_and, n_or, n_bit, n_not, n_not', n_B1, n_B0, n_BB, obind, xite_T, xite_F, xite_not, xite_same, oI_s, oI_n, Bool.false_eq_true, reduceCtorEq, eq_self, Classical.not_not, bI_T, bI_Fa, bI_0, bI_n0, bI_x, xb_0, xb_1, xite_bI, xite_bI', not_true_eq_false, not_false_eq_true, Nat.zero_add, Nat.add_zero, Nat.mul_zero, Nat.mul_one, Nat.one_mul, reduceIte, Nat.reduceEqDiff, Nat.reduceAdd, Nat.reduceMul, Nat.reduceSub, Nat.reduceLT, Nat.reduceLeDiff, Nat.reducePow, ite_true, ite_false, if_true, if_false, and_true, true_and, false_and, and_false, or_false, false_or, true_or, or_true, ne_eq, xite_t, xite_f, ]
theorem M8_0 (d : Nat) (σ : xS) {n r : Nat} {X : mX} (h : ML (rI σ 18 0) n X) (hr : r < n) : run (d + 1) (xentry 8 [.inr (.inr (17, some 0)), .inl (nI r), .inl (nI 0)] σ) = some ((nI (xaF X r), 0, none), σ) := by
  have hn := h.1.2.2.2.2.1
  rw [M8 d σ (by omega) (by omega) (by omega), Nat.add_zero, (h.2.2.2.2.1 r hr).1]
theorem M8_1 (d : Nat) (σ : xS) {n r : Nat} {X : mX} (h : ML (rI σ 18 0) n X) (hr : r < n) : run (d + 1) (xentry 8 [.inr (.inr (17, some 0)), .inl (nI r), .inl (nI 1)] σ) = some ((nI (xaT X r), 0, none), σ) := by
  have hn := h.1.2.2.2.2.1
  rw [M8 d σ (by omega) (by omega) (by omega), (h.2.2.2.2.1 r hr).2.1]
theorem M8_2 (d : Nat) (σ : xS) {n r : Nat} {X : mX} (h : ML (rI σ 18 0) n X) (hr : r < n) : run (d + 1) (xentry 8 [.inr (.inr (17, some 0)), .inl (nI r), .inl (nI 2)] σ) = some ((nI (xaM X r), 0, none), σ) := by
  have hn := h.1.2.2.2.2.1
  rw [M8 d σ (by omega) (by omega) (by omega), (h.2.2.2.2.1 r hr).2.2.1]
theorem M8_3 (d : Nat) (σ : xS) {n r : Nat} {X : mX} (h : ML (rI σ 18 0) n X) (hr : r < n) : run (d + 1) (xentry 8 [.inr (.inr (17, some 0)), .inl (nI r), .inl (nI 3)] σ) = some ((nI (xaN X r), 0, none), σ) := by
  have hn := h.1.2.2.2.2.1
  rw [M8 d σ (by omega) (by omega) (by omega), (h.2.2.2.2.1 r hr).2.2.2]
theorem M9 (d : Nat) (σ : xS) {r k : Nat} (v : Int32) (hr : r < 13) (hk : k < 4) (hd : 3 + 4 * r + k < 55) : run (d + 1) (xentry 9 [.inr (.inr (17, some 0)), .inl (nI r), .inl (nI k), .inl v] σ) = some ((0, 0, none), wI σ 18 0 (3 + 4 * r + k) v) := by
  rw [B9_0]
  simp (disch := omega) only [n_cl, n_lt, n_le, n_eq, n_lt0, n_0lt, n_le0, n_eq0, n_gneq, n_ngeq, n_ng0, n_nglt, n_glt, n_gle, n_ltg, n_leg, n_gg, n_ge0, n_add, n_mul, n_rem, n_shl1, n_and, n_or, n_bit, n_not, n_not', n_B1, n_B0, n_BB, obind, xite_T, xite_F, xite_not, xite_same, oI_s, oI_n, Bool.false_eq_true, reduceCtorEq, eq_self, Classical.not_not, bI_T, bI_Fa, bI_0, bI_n0, bI_x, xb_0, xb_1, xite_bI, xite_bI', not_true_eq_false, not_false_eq_true, Nat.zero_add, Nat.add_zero, Nat.mul_zero, Nat.mul_one, Nat.one_mul, reduceIte, Nat.reduceEqDiff, Nat.reduceAdd, Nat.reduceMul, Nat.reduceSub, Nat.reduceLT, Nat.reduceLeDiff, Nat.reducePow, ite_true, ite_false, if_true, if_false, and_true, true_and, false_and, and_false, or_false, false_or, true_or, or_true, ne_eq, xite_t, xite_f, ]
theorem M10 (d : Nat) (σ : xS) {n c : Nat} {X : mX} (h : ML (rI σ 18 0) n X) (hc : c < xaC X) : run (d + 1) (xentry 10 [.inr (.inr (17, some 0)), .inl (nI c)] σ) = some ((nI (xaK X c), 0, none), σ) := by
  have hn := h.1.2.2.2.1
  have e := (h.2.2.2.2.2 c hc).1
  rw [B10_0]
  simp (disch := omega) only [n_cl, n_lt, n_le, n_eq, n_lt0, n_0lt, n_le0, n_eq0, n_gneq, n_ngeq, n_ng0, n_nglt, n_glt, n_gle, n_ltg, n_leg, n_gg, n_ge0, n_add, n_mul, n_rem, n_shl1, n_and, n_or, n_bit, n_not, n_not', n_B1, n_B0, n_BB, obind, xite_T, xite_F, xite_not, xite_same, oI_s, oI_n, Bool.false_eq_true, reduceCtorEq, eq_self, Classical.not_not, bI_T, bI_Fa, bI_0, bI_n0, bI_x, xb_0, xb_1, xite_bI, xite_bI', not_true_eq_false, not_false_eq_true, Nat.zero_add, Nat.add_zero, Nat.mul_zero, Nat.mul_one, Nat.one_mul, reduceIte, Nat.reduceEqDiff, Nat.reduceAdd, Nat.reduceMul, Nat.reduceSub, Nat.reduceLT, Nat.reduceLeDiff, Nat.reducePow, ite_true, ite_false, if_true, if_false, and_true, true_and, false_and, and_false, or_false, false_or, true_or, or_true, ne_eq, xite_t, xite_f, e]
theorem M11 (d : Nat) (σ : xS) {n c : Nat} {X : mX} (h : ML (rI σ 18 0) n X) (hc : c < xaC X) : run (d + 1) (xentry 11 [.inr (.inr (17, some 0)), .inl (nI c)] σ) = some ((nI (xaG X c), 0, none), σ) := by
  have hn := h.1.2.2.2.1
  have e := (h.2.2.2.2.2 c hc).2
  rw [B11_0]
  simp (disch := omega) only [n_cl, n_lt, n_le, n_eq, n_lt0, n_0lt, n_le0, n_eq0, n_gneq, n_ngeq, n_ng0, n_nglt, n_glt, n_gle, n_ltg, n_leg, n_gg, n_ge0, n_add, n_mul, n_rem, n_shl1, n_and, n_or, n_bit, n_not, n_not', n_B1, n_B0, n_BB, obind, xite_T, xite_F, xite_not, xite_same, oI_s, oI_n, Bool.false_eq_true, reduceCtorEq, eq_self, Classical.not_not, bI_T, bI_Fa, bI_0, bI_n0, bI_x, xb_0, xb_1, xite_bI, xite_bI', not_true_eq_false, not_false_eq_true, Nat.zero_add, Nat.add_zero, Nat.mul_zero, Nat.mul_one, Nat.one_mul, reduceIte, Nat.reduceEqDiff, Nat.reduceAdd, Nat.reduceMul, Nat.reduceSub, Nat.reduceLT, Nat.reduceLeDiff, Nat.reducePow, ite_true, ite_false, if_true, if_false, and_true, true_and, false_and, and_false, or_false, false_or, true_or, or_true, ne_eq, xite_t, xite_f, e]
theorem M15i (d : Nat) (σ : xS) : ∀ (k a n : Nat), a < 2 ^ k → k ≤ 30 → run (d + 1) (15, 4, [none, some (.inl (nI n)), some (.inl (nI a))], [], σ) = some ((nI (n + popf k a), 0, none), σ) := by
  intro k
  induction k with
  | zero =>
    intro a n ha hk
    have h0 : a = 0 := by omega
    subst h0
    rw [B15_4]
    simp (disch := omega) only [n_cl, n_lt, n_le, n_eq, n_lt0, n_0lt, n_le0, n_eq0, n_gneq, n_ngeq, n_ng0, n_nglt, n_glt, n_gle, n_ltg, n_leg, n_gg, n_ge0, n_add, n_mul, n_rem, n_shl1, n_and, n_or, n_bit, n_not, n_not', n_B1, n_B0, n_BB, obind, xite_T, xite_F, xite_not, xite_same, oI_s, oI_n, Bool.false_eq_true, reduceCtorEq, eq_self, Classical.not_not, bI_T, bI_Fa, bI_0, bI_n0, bI_x, xb_0, xb_1, xite_bI, xite_bI', not_true_eq_false, not_false_eq_true, Nat.zero_add, Nat.add_zero, Nat.mul_zero, Nat.mul_one, Nat.one_mul, reduceIte, Nat.reduceEqDiff, Nat.reduceAdd, Nat.reduceMul, Nat.reduceSub, Nat.reduceLT, Nat.reduceLeDiff, Nat.reducePow, ite_true, ite_false, if_true, if_false, and_true, true_and, false_and, and_false, or_false, false_or, true_or, or_true, ne_eq, xite_t, xite_f, ]
    rfl
  | succ k ih =>
    intro a n ha hk
    have h30 : (2 : Nat) ^ (k + 1) ≤ 2 ^ 30 := Nat.pow_le_pow_right (by omega) hk
    have hlt : a < 2147483648 := by omega
    rw [B15_4]
    by_cases h0 : a = 0
    · subst h0
      simp (disch := omega) only [n_cl, n_lt, n_le, n_eq, n_lt0, n_0lt, n_le0, n_eq0, n_gneq, n_ngeq, n_ng0, n_nglt, n_glt, n_gle, n_ltg, n_leg, n_gg, n_ge0, n_add, n_mul, n_rem, n_shl1, n_and, n_or, n_bit, n_not, n_not', n_B1, n_B0, n_BB, obind, xite_T, xite_F, xite_not, xite_same, oI_s, oI_n, Bool.false_eq_true, reduceCtorEq, eq_self, Classical.not_not, bI_T, bI_Fa, bI_0, bI_n0, bI_x, xb_0, xb_1, xite_bI, xite_bI', not_true_eq_false, not_false_eq_true, Nat.zero_add, Nat.add_zero, Nat.mul_zero, Nat.mul_one, Nat.one_mul, reduceIte, Nat.reduceEqDiff, Nat.reduceAdd, Nat.reduceMul, Nat.reduceSub, Nat.reduceLT, Nat.reduceLeDiff, Nat.reducePow, ite_true, ite_false, if_true, if_false, and_true, true_and, false_and, and_false, or_false, false_or, true_or, or_true, ne_eq, xite_t, xite_f, ]
      have e : ∀ j, popf j 0 = 0 := by
        intro j
        induction j with
        | zero => rfl
        | succ j ij => show 0 % 2 + popf j (0 / 2) = 0; rw [Nat.zero_div, ij]
      rw [e, Nat.add_zero]
    · have e1 : nI a >>> (nI 1 &&& 31) = nI (a / 2) := by rw [n_shr hlt (by omega)]
      have e2 : nI a &&& nI 1 = nI (a % 2) := by rw [n_and, Nat.and_one_is_mod]
      rw [e1, e2]
      simp (disch := omega) only [n_cl, n_lt, n_le, n_eq, n_lt0, n_0lt, n_le0, n_eq0, n_gneq, n_ngeq, n_ng0, n_nglt, n_glt, n_gle, n_ltg, n_leg, n_gg, n_ge0, n_add, n_mul, n_rem, n_shl1, n_and, n_or, n_bit, n_not, n_not', n_B1, n_B0, n_BB, obind, xite_T, xite_F, xite_not, xite_same, oI_s, oI_n, Bool.false_eq_true, reduceCtorEq, eq_self, Classical.not_not, bI_T, bI_Fa, bI_0, bI_n0, bI_x, xb_0, xb_1, xite_bI, xite_bI', not_true_eq_false, not_false_eq_true, Nat.zero_add, Nat.add_zero, Nat.mul_zero, Nat.mul_one, Nat.one_mul, reduceIte, Nat.reduceEqDiff, Nat.reduceAdd, Nat.reduceMul, Nat.reduceSub, Nat.reduceLT, Nat.reduceLeDiff, Nat.reducePow, ite_true, ite_false, if_true, if_false, and_true, true_and, false_and, and_false, or_false, false_or, true_or, or_true, ne_eq, xite_t, xite_f, ]
      rw [ih (a / 2) (n + a % 2) (by rw [Nat.pow_succ] at ha; omega) (by omega)]
      show _ = some ((nI (n + (a % 2 + popf k (a / 2))), 0, none), σ)
      rw [Nat.add_assoc]
theorem M15 (d : Nat) (σ : xS) {a : Nat} (h : a < 64) : run (d + 1) (xentry 15 [.inl (nI a)] σ) = some ((nI (popf 6 a), 0, none), σ) := by
  rw [B15_0, M15i d σ 6 a 0 h (by omega), Nat.zero_add]
theorem M16 (d : Nat) (σ : xS) {n r p : Nat} {X : mX} (h : ML (rI σ 18 0) n X) (hr : r < n) (hp : p < 6) : run (d + 2) (xentry 16 [.inr (.inr (17, some 0)), .inl (nI r), .inl (nI p)] σ) = some ((oI 4 (oth X r p), 0, none), σ) := by
  have hb := h.1.2.2.2.2.2.1 r hr
  have hP := h.1.2.1
  rw [B16_0, M8_0 _ _ h hr, obind]
  simp (disch := omega) only [n_cl, n_lt, n_le, n_eq, n_lt0, n_0lt, n_le0, n_eq0, n_gneq, n_ngeq, n_ng0, n_nglt, n_glt, n_gle, n_ltg, n_leg, n_gg, n_ge0, n_add, n_mul, n_rem, n_shl1, n_and, n_or, n_bit, n_not, n_not', n_B1, n_B0, n_BB, obind, xite_T, xite_F, xite_not, xite_same, oI_s, oI_n, Bool.false_eq_true, reduceCtorEq, eq_self, Classical.not_not, bI_T, bI_Fa, bI_0, bI_n0, bI_x, xb_0, xb_1, xite_bI, xite_bI', not_true_eq_false, not_false_eq_true, Nat.zero_add, Nat.add_zero, Nat.mul_zero, Nat.mul_one, Nat.one_mul, reduceIte, Nat.reduceEqDiff, Nat.reduceAdd, Nat.reduceMul, Nat.reduceSub, Nat.reduceLT, Nat.reduceLeDiff, Nat.reducePow, ite_true, ite_false, if_true, if_false, and_true, true_and, false_and, and_false, or_false, false_or, true_or, or_true, ne_eq, M8_1 _ _ h hr, M8_0 _ _ h hr]
  unfold oth
  by_cases h1 : xaF X r = p
  · rw [xite_t h1, if_pos h1]; rfl
  · rw [xite_f h1, if_neg h1]
    by_cases h2 : xaT X r = p
    · rw [xite_t h2, if_pos h2]; rfl
    · rw [xite_f h2, if_neg h2]; rfl
theorem M17 (d : Nat) (σ : xS) {n r g : Nat} {X : mX} (h : ML (rI σ 18 0) n X) (hr : r < n) (hg : g < 4) : run (d + 2) (xentry 17 [.inr (.inr (17, some 0)), .inl (nI r), .inl (nI g)] σ) = some ((bI (fre X g r = true), 0, none), σ) := by
  have hb := h.1.2.2.2.2.2.1 r hr
  rw [B17_0, M8_3 _ _ h hr]
  simp (disch := omega) only [n_cl, n_lt, n_le, n_eq, n_lt0, n_0lt, n_le0, n_eq0, n_gneq, n_ngeq, n_ng0, n_nglt, n_glt, n_gle, n_ltg, n_leg, n_gg, n_ge0, n_add, n_mul, n_rem, n_shl1, n_and, n_or, n_bit, n_not, n_not', n_B1, n_B0, n_BB, obind, xite_T, xite_F, xite_not, xite_same, oI_s, oI_n, Bool.false_eq_true, reduceCtorEq, eq_self, Classical.not_not, bI_T, bI_Fa, bI_0, bI_n0, bI_x, xb_0, xb_1, xite_bI, xite_bI', not_true_eq_false, not_false_eq_true, Nat.zero_add, Nat.add_zero, Nat.mul_zero, Nat.mul_one, Nat.one_mul, reduceIte, Nat.reduceEqDiff, Nat.reduceAdd, Nat.reduceMul, Nat.reduceSub, Nat.reduceLT, Nat.reduceLeDiff, Nat.reducePow, ite_true, ite_false, if_true, if_false, and_true, true_and, false_and, and_false, or_false, false_or, true_or, or_true, ne_eq, xite_t, xite_f, ]
  rw [fre_t]
theorem M18c (d : Nat) (σ : xS) {k g : Nat} (hk : k < 8) (hg : g < 4) : run (d + 1) (18, 49, [none, some (.inl (nI k)), none, none, none, none, none], [.inl (nI g)], σ) = some ((nI (2 ^ g ||| (if k = 6 then 2 ^ ((g + 1) % 4) else 0)), 0, none), σ) := by
  rw [B18_49]
  by_cases h : k = 6
  · subst h
    simp (disch := omega) only [n_cl, n_lt, n_le, n_eq, n_lt0, n_0lt, n_le0, n_eq0, n_gneq, n_ngeq, n_ng0, n_nglt, n_glt, n_gle, n_ltg, n_leg, n_gg, n_ge0, n_add, n_mul, n_rem, n_shl1, n_and, n_or, n_bit, n_not, n_not', n_B1, n_B0, n_BB, obind, xite_T, xite_F, xite_not, xite_same, oI_s, oI_n, Bool.false_eq_true, reduceCtorEq, eq_self, Classical.not_not, bI_T, bI_Fa, bI_0, bI_n0, bI_x, xb_0, xb_1, xite_bI, xite_bI', not_true_eq_false, not_false_eq_true, Nat.zero_add, Nat.add_zero, Nat.mul_zero, Nat.mul_one, Nat.one_mul, reduceIte, Nat.reduceEqDiff, Nat.reduceAdd, Nat.reduceMul, Nat.reduceSub, Nat.reduceLT, Nat.reduceLeDiff, Nat.reducePow, ite_true, ite_false, if_true, if_false, and_true, true_and, false_and, and_false, or_false, false_or, true_or, or_true, ne_eq, xite_t, xite_f, ]
  · rw [if_neg h]
    simp (disch := omega) only [n_cl, n_lt, n_le, n_eq, n_lt0, n_0lt, n_le0, n_eq0, n_gneq, n_ngeq, n_ng0, n_nglt, n_glt, n_gle, n_ltg, n_leg, n_gg, n_ge0, n_add, n_mul, n_rem, n_shl1, n_and, n_or, n_bit, n_not, n_not', n_B1, n_B0, n_BB, obind, xite_T, xite_F, xite_not, xite_same, oI_s, oI_n, Bool.false_eq_true, reduceCtorEq, eq_self, Classical.not_not, bI_T, bI_Fa, bI_0, bI_n0, bI_x, xb_0, xb_1, xite_bI, xite_bI', not_true_eq_false, not_false_eq_true, Nat.zero_add, Nat.add_zero, Nat.mul_zero, Nat.mul_one, Nat.one_mul, reduceIte, Nat.reduceEqDiff, Nat.reduceAdd, Nat.reduceMul, Nat.reduceSub, Nat.reduceLT, Nat.reduceLeDiff, Nat.reducePow, ite_true, ite_false, if_true, if_false, and_true, true_and, false_and, and_false, or_false, false_or, true_or, or_true, ne_eq, xite_t, xite_f, ]
theorem M18 (d : Nat) (σ : xS) {n k f g been : Nat} {X : mX} (h : ML (rI σ 18 0) n X) (hk : k < 8) (hf : f ≤ 9) (hg : g < 4) (hb : been < 64) : run (d + 1) (xentry 18 [.inr (.inr (17, some 0)), .inl (nI k), .inl (nI f), .inl (nI g), .inl (nI been)] σ) = some ((nI (ldm (xaP X) k f g been), 0, none), σ) := by
  have hp : xaP X ≤ 6 := h.1.2.1
  have hp2 : 2 ≤ xaP X := h.1.1
  have h0 := h.2.1
  have hm : f % xaP X < 6 := Nat.lt_of_lt_of_le (Nat.mod_lt _ (by omega)) hp
  have e1 : run (d + 1) (18, 11, [some (.inr (.inr (17, (some 0)))), some (.inl (nI k)), some (.inl (nI f)), some (.inl (nI g)), some (.inl (nI been)), none, none], [], σ) = some ((nI (2 ^ (if been.testBit (f % xaP X) = true then (g + 1) % 4 else g) ||| (if k = 6 then 2 ^ (((if been.testBit (f % xaP X) = true then (g + 1) % 4 else g) + 1) % 4) else 0)), 0, none), σ) := by
    rw [B18_11]
    simp (disch := omega) only [n_cl, n_lt, n_le, n_eq, n_lt0, n_0lt, n_le0, n_eq0, n_gneq, n_ngeq, n_ng0, n_nglt, n_glt, n_gle, n_ltg, n_leg, n_gg, n_ge0, n_add, n_mul, n_rem, n_shl1, n_and, n_or, n_bit, n_not, n_not', n_B1, n_B0, n_BB, obind, xite_T, xite_F, xite_not, xite_same, oI_s, oI_n, Bool.false_eq_true, reduceCtorEq, eq_self, Classical.not_not, bI_T, bI_Fa, bI_0, bI_n0, bI_x, xb_0, xb_1, xite_bI, xite_bI', not_true_eq_false, not_false_eq_true, Nat.zero_add, Nat.add_zero, Nat.mul_zero, Nat.mul_one, Nat.one_mul, reduceIte, Nat.reduceEqDiff, Nat.reduceAdd, Nat.reduceMul, Nat.reduceSub, Nat.reduceLT, Nat.reduceLeDiff, Nat.reducePow, ite_true, ite_false, if_true, if_false, and_true, true_and, false_and, and_false, or_false, false_or, true_or, or_true, ne_eq, xite_t, xite_f, h0]
    by_cases hb : been.testBit (f % xaP X) = true
    · rw [xite_t hb, if_pos hb, M18c d σ hk (by omega)]
    · rw [xite_f hb, if_neg hb, M18c d σ hk hg]
  rw [B18_0, e1]
  simp (disch := omega) only [n_cl, n_lt, n_le, n_eq, n_lt0, n_0lt, n_le0, n_eq0, n_gneq, n_ngeq, n_ng0, n_nglt, n_glt, n_gle, n_ltg, n_leg, n_gg, n_ge0, n_add, n_mul, n_rem, n_shl1, n_and, n_or, n_bit, n_not, n_not', n_B1, n_B0, n_BB, obind, xite_T, xite_F, xite_not, xite_same, oI_s, oI_n, Bool.false_eq_true, reduceCtorEq, eq_self, Classical.not_not, bI_T, bI_Fa, bI_0, bI_n0, bI_x, xb_0, xb_1, xite_bI, xite_bI', not_true_eq_false, not_false_eq_true, Nat.zero_add, Nat.add_zero, Nat.mul_zero, Nat.mul_one, Nat.one_mul, reduceIte, Nat.reduceEqDiff, Nat.reduceAdd, Nat.reduceMul, Nat.reduceSub, Nat.reduceLT, Nat.reduceLeDiff, Nat.reducePow, ite_true, ite_false, if_true, if_false, and_true, true_and, false_and, and_false, or_false, false_or, true_or, or_true, ne_eq, xite_t, xite_f, M18c d σ hk hg]
  unfold ldm ldg
  by_cases h3 : k = 3
  · subst h3
    simp (disch := omega) only [n_cl, n_lt, n_le, n_eq, n_lt0, n_0lt, n_le0, n_eq0, n_gneq, n_ngeq, n_ng0, n_nglt, n_glt, n_gle, n_ltg, n_leg, n_gg, n_ge0, n_add, n_mul, n_rem, n_shl1, n_and, n_or, n_bit, n_not, n_not', n_B1, n_B0, n_BB, obind, xite_T, xite_F, xite_not, xite_same, oI_s, oI_n, Bool.false_eq_true, reduceCtorEq, eq_self, Classical.not_not, bI_T, bI_Fa, bI_0, bI_n0, bI_x, xb_0, xb_1, xite_bI, xite_bI', not_true_eq_false, not_false_eq_true, Nat.zero_add, Nat.add_zero, Nat.mul_zero, Nat.mul_one, Nat.one_mul, reduceIte, Nat.reduceEqDiff, Nat.reduceAdd, Nat.reduceMul, Nat.reduceSub, Nat.reduceLT, Nat.reduceLeDiff, Nat.reducePow, ite_true, ite_false, if_true, if_false, and_true, true_and, false_and, and_false, or_false, false_or, true_or, or_true, ne_eq, xite_t, xite_f, ]
  · by_cases h6 : k = 6
    · subst h6
      simp (disch := omega) only [n_cl, n_lt, n_le, n_eq, n_lt0, n_0lt, n_le0, n_eq0, n_gneq, n_ngeq, n_ng0, n_nglt, n_glt, n_gle, n_ltg, n_leg, n_gg, n_ge0, n_add, n_mul, n_rem, n_shl1, n_and, n_or, n_bit, n_not, n_not', n_B1, n_B0, n_BB, obind, xite_T, xite_F, xite_not, xite_same, oI_s, oI_n, Bool.false_eq_true, reduceCtorEq, eq_self, Classical.not_not, bI_T, bI_Fa, bI_0, bI_n0, bI_x, xb_0, xb_1, xite_bI, xite_bI', not_true_eq_false, not_false_eq_true, Nat.zero_add, Nat.add_zero, Nat.mul_zero, Nat.mul_one, Nat.one_mul, reduceIte, Nat.reduceEqDiff, Nat.reduceAdd, Nat.reduceMul, Nat.reduceSub, Nat.reduceLT, Nat.reduceLeDiff, Nat.reducePow, ite_true, ite_false, if_true, if_false, and_true, true_and, false_and, and_false, or_false, false_or, true_or, or_true, ne_eq, xite_t, xite_f, ]
    · simp (disch := omega) only [n_cl, n_lt, n_le, n_eq, n_lt0, n_0lt, n_le0, n_eq0, n_gneq, n_ngeq, n_ng0, n_nglt, n_glt, n_gle, n_ltg, n_leg, n_gg, n_ge0, n_add, n_mul, n_rem, n_shl1, n_and, n_or, n_bit, n_not, n_not', n_B1, n_B0, n_BB, obind, xite_T, xite_F, xite_not, xite_same, oI_s, oI_n, Bool.false_eq_true, reduceCtorEq, eq_self, Classical.not_not, bI_T, bI_Fa, bI_0, bI_n0, bI_x, xb_0, xb_1, xite_bI, xite_bI', not_true_eq_false, not_false_eq_true, Nat.zero_add, Nat.add_zero, Nat.mul_zero, Nat.mul_one, Nat.one_mul, reduceIte, Nat.reduceEqDiff, Nat.reduceAdd, Nat.reduceMul, Nat.reduceSub, Nat.reduceLT, Nat.reduceLeDiff, Nat.reducePow, ite_true, ite_false, if_true, if_false, and_true, true_and, false_and, and_false, or_false, false_or, true_or, or_true, ne_eq, xite_t, xite_f, h3, h6]
theorem M19 (d : Nat) (σ : xS) {n k f r : Nat} {X : mX} (h : ML (rI σ 18 0) n X) (hk : k < 8) (hf : f ≤ 9) (hr : r < n) : run (d + 2) (xentry 19 [.inr (.inr (17, some 0)), .inl (nI k), .inl (nI f), .inl (nI r)] σ) = some ((nI (wtm k f r (xaM X r) (xaN X r)), 0, none), σ) := by
  have hn := h.1.2.2.2.2.1
  have hb := h.1.2.2.2.2.2.1 r hr
  have hp : ∀ a, a < 16 → popf 6 a ≤ 4 := by decide
  have hp := hp _ hb.2.2.2.2.2
  rw [B19_0]
  simp (disch := omega) only [n_cl, n_lt, n_le, n_eq, n_lt0, n_0lt, n_le0, n_eq0, n_gneq, n_ngeq, n_ng0, n_nglt, n_glt, n_gle, n_ltg, n_leg, n_gg, n_ge0, n_add, n_mul, n_rem, n_shl1, n_and, n_or, n_bit, n_not, n_not', n_B1, n_B0, n_BB, obind, xite_T, xite_F, xite_not, xite_same, oI_s, oI_n, Bool.false_eq_true, reduceCtorEq, eq_self, Classical.not_not, bI_T, bI_Fa, bI_0, bI_n0, bI_x, xb_0, xb_1, xite_bI, xite_bI', not_true_eq_false, not_false_eq_true, Nat.zero_add, Nat.add_zero, Nat.mul_zero, Nat.mul_one, Nat.one_mul, reduceIte, Nat.reduceEqDiff, Nat.reduceAdd, Nat.reduceMul, Nat.reduceSub, Nat.reduceLT, Nat.reduceLeDiff, Nat.reducePow, ite_true, ite_false, if_true, if_false, and_true, true_and, false_and, and_false, or_false, false_or, true_or, or_true, ne_eq, xite_t, xite_f, M8_2 _ _ h hr, M8_3 _ _ h hr, M15]
  rw [n_sub (by omega)]
  unfold wtm
  have hc : k = 0 ∨ k = 1 ∨ k = 2 ∨ k = 3 ∨ k = 4 ∨ k = 5 ∨ k = 6 ∨ k = 7 := by omega
  rcases hc with e | e | e | e | e | e | e | e <;> subst e <;> simp (disch := omega) only [n_cl, n_lt, n_le, n_eq, n_lt0, n_0lt, n_le0, n_eq0, n_gneq, n_ngeq, n_ng0, n_nglt, n_glt, n_gle, n_ltg, n_leg, n_gg, n_ge0, n_add, n_mul, n_rem, n_shl1, n_and, n_or, n_bit, n_not, n_not', n_B1, n_B0, n_BB, obind, xite_T, xite_F, xite_not, xite_same, oI_s, oI_n, Bool.false_eq_true, reduceCtorEq, eq_self, Classical.not_not, bI_T, bI_Fa, bI_0, bI_n0, bI_x, xb_0, xb_1, xite_bI, xite_bI', not_true_eq_false, not_false_eq_true, Nat.zero_add, Nat.add_zero, Nat.mul_zero, Nat.mul_one, Nat.one_mul, reduceIte, Nat.reduceEqDiff, Nat.reduceAdd, Nat.reduceMul, Nat.reduceSub, Nat.reduceLT, Nat.reduceLeDiff, Nat.reducePow, ite_true, ite_false, if_true, if_false, and_true, true_and, false_and, and_false, or_false, false_or, true_or, or_true, ne_eq, xite_t, xite_f, ]
  by_cases hrf : r = f
  · rw [xite_t hrf, if_pos hrf]
  · rw [xite_f hrf, if_neg hrf]
