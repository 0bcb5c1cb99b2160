/-! TOSS, ELEMENT, THE LOOP -/
theorem CI_wN {σ : xS} {S : mG} {a b : Nat} (h : CI σ S) : CI (wN σ a b) S := h
theorem MI_wN {σ : xS} {S : mG} {a b : Nat} (h : MI σ S) : MI (wN σ a b) S := h
theorem lt8 {v : Int32} (h : ¬ inb v 8) : v < 0 ∨ 8 ≤ v := by
  by_cases c : v < 0
  · exact Or.inl c
  · refine Or.inr ?_
    obtain ⟨k, hk, e⟩ := nI_of c
    subst e
    rw [inb_nI (by omega)] at h
    show nI 8 ≤ nI k
    rw [n_le (by omega) (by omega)]
    omega
theorem nlt8 {k : Nat} (h : k < 8) : ¬ (nI k < 0 ∨ 8 ≤ nI k) := by
  intro q
  rcases q with q | q
  · rw [n_lt0 (by omega)] at q; exact q
  · have q : nI 8 ≤ nI k := q
    rw [n_le (by omega) (by omega)] at q
    omega
theorem K_1519 (d : Nat) {f : Nat → Int32} {L i : Nat} {σ : xS} {S : mG} (h : LI f σ S) (hL : f 3072 = nI L) (hL2 : L ≤ 3072) (hi : i + 6 ≤ L) : K_to d 1519 f i σ := by
  have f36 := h.2.2
  have f36' : rI (wN σ 1 8) 36 0 = f := f36
  have key : run (d + 60) (xentry 76 [.inr (.inr (17, (some 0))), .inl (f (i + 1))] (wN σ 1 8)) = some ((xToss σ (f (i + 1)), 0, none), wN σ 1 8) := by
    by_cases h1 : inb (f (i + 1)) 8
    · obtain ⟨e, he, ee⟩ := inb_of h1 (by omega)
      rw [ee]
      have hc := h.1.2.2.2 e he
      have hm : mShl (wN σ 1 8) e (S.2.2 e) := h.2.1.2.2.2 e he
      have hx2 := hc.1.1
      unfold xToss
      rw [if_neg (nlt8 he), n_cl (by omega), hc.2.1, B76_0, M33 _ _ hm he]
      have c3 : (S.2.2 e).1 = 0 ∨ (S.2.2 e).1 = 1 ∨ (S.2.2 e).1 = 2 := by omega
      rcases c3 with c | c | c
      · rw [c]
        unfold crI
        rw [c, xite_t rfl, if_pos (by decide), obind]
        show xite (-nI 11 = 0) _ _ = _
        rw [xite_f (by decide)]
        rfl
      · have hk := hc.1.2.1 c
        obtain ⟨q, q1, q2, q3, q4, q5⟩ := hc.2.2.1 c
        have m := hm.2.2.1 c
        rw [c, if_neg (by decide), if_neg (fun q => q (by decide)), q1]
        simp (disch := omega) only [n_cl, n_lt, n_le, n_eq, n_lt0, n_0lt, n_le0, n_eq0, n_gneq, n_ngeq, n_ng0, n_nglt, n_glt, n_gle, n_ltg, n_leg, n_gg, n_ge0, n_add, n_mul, n_rem, n_shl1, n_and, n_or, n_bit, n_not, n_not', n_B1, n_B0, n_BB, obind, xite_T, xite_F, xite_not, xite_same, oI_s, oI_n, Bool.false_eq_true, reduceCtorEq, eq_self, Classical.not_not, bI_T, bI_Fa, bI_0, bI_n0, bI_x, xb_0, xb_1, xite_bI, xite_bI', not_true_eq_false, not_false_eq_true, Nat.zero_add, Nat.add_zero, Nat.mul_zero, Nat.mul_one, Nat.one_mul, reduceIte, Nat.reduceEqDiff, Nat.reduceAdd, Nat.reduceMul, Nat.reduceSub, Nat.reduceLT, Nat.reduceLeDiff, Nat.reducePow, ite_true, ite_false, if_true, if_false, and_true, true_and, false_and, and_false, or_false, false_or, true_or, or_true, ne_eq, xite_t, xite_f, crI_0, c, m.1, m.2, B69_0]
        show _ = some ((if (rC σ).getD q 0 = 1 ∨ rI σ 16 q 1 = 0 then -15 else if (rC σ).getD q 0 = 8 then 100 + rI σ 16 q 1 else if (rC σ).getD q 0 = 4 then 200 + 2 * (5 + 2 * rI σ 16 q 1) else rI σ 16 q 1, 0, none), wN σ 1 8)
        rw [q3, q5]
        obtain ⟨hk1, hk2⟩ := hk
        revert hk1
        generalize (S.2.2 e).2.1 = k
        generalize (S.2.2 e).2.2.1 = g at hk2 ⊢
        intro hk1
        have e100 : (100 : Int32) + nI g = nI (100 + g) := n_add 100 g
        have e200 : (200 : Int32) + 2 * (5 + 2 * nI g) = nI (200 + (10 + 4 * g)) := by
          show nI 200 + nI 2 * (nI 5 + nI 2 * nI g) = _
          rw [n_mul, n_add, n_mul, n_add]
          congr 1
          omega
        have hc8 : k = 0 ∨ k = 1 ∨ k = 2 ∨ k = 3 ∨ k = 4 ∨ k = 5 ∨ k = 6 ∨ k = 7 := by omega
        by_cases hg : g = 0
        · have hg0 : nI g = 0 := by rw [hg]; rfl
          rw [if_pos (Or.inr hg0)]
          rcases hc8 with e | e | e | e | e | e | e | e <;> subst e <;> simp (disch := omega) only [n_cl, n_lt, n_le, n_eq, n_lt0, n_0lt, n_le0, n_eq0, n_gneq, n_ngeq, n_ng0, n_nglt, n_glt, n_gle, n_ltg, n_leg, n_gg, n_ge0, n_add, n_mul, n_rem, n_shl1, n_and, n_or, n_bit, n_not, n_not', n_B1, n_B0, n_BB, obind, xite_T, xite_F, xite_not, xite_same, oI_s, oI_n, Bool.false_eq_true, reduceCtorEq, eq_self, Classical.not_not, bI_T, bI_Fa, bI_0, bI_n0, bI_x, xb_0, xb_1, xite_bI, xite_bI', not_true_eq_false, not_false_eq_true, Nat.zero_add, Nat.add_zero, Nat.mul_zero, Nat.mul_one, Nat.one_mul, reduceIte, Nat.reduceEqDiff, Nat.reduceAdd, Nat.reduceMul, Nat.reduceSub, Nat.reduceLT, Nat.reduceLeDiff, Nat.reducePow, ite_true, ite_false, if_true, if_false, and_true, true_and, false_and, and_false, or_false, false_or, true_or, or_true, ne_eq, xite_t, xite_f, hg] <;> rfl
        · have hg0 : ¬ nI g = 0 := by rw [n_eq0 (by omega)]; exact hg
          rcases hc8 with e | e | e | e | e | e | e | e <;> subst e
          · rw [if_neg (fun q => q.elim (by decide) hg0), if_neg (by decide), if_neg (by decide)]
            simp (disch := omega) only [n_cl, n_lt, n_le, n_eq, n_lt0, n_0lt, n_le0, n_eq0, n_gneq, n_ngeq, n_ng0, n_nglt, n_glt, n_gle, n_ltg, n_leg, n_gg, n_ge0, n_add, n_mul, n_rem, n_shl1, n_and, n_or, n_bit, n_not, n_not', n_B1, n_B0, n_BB, obind, xite_T, xite_F, xite_not, xite_same, oI_s, oI_n, Bool.false_eq_true, reduceCtorEq, eq_self, Classical.not_not, bI_T, bI_Fa, bI_0, bI_n0, bI_x, xb_0, xb_1, xite_bI, xite_bI', not_true_eq_false, not_false_eq_true, Nat.zero_add, Nat.add_zero, Nat.mul_zero, Nat.mul_one, Nat.one_mul, reduceIte, Nat.reduceEqDiff, Nat.reduceAdd, Nat.reduceMul, Nat.reduceSub, Nat.reduceLT, Nat.reduceLeDiff, Nat.reducePow, ite_true, ite_false, if_true, if_false, and_true, true_and, false_and, and_false, or_false, false_or, true_or, or_true, ne_eq, xite_t, xite_f, hg]
          · rw [if_neg (fun q => q.elim (by decide) hg0), if_neg (by decide), if_neg (by decide)]
            simp (disch := omega) only [n_cl, n_lt, n_le, n_eq, n_lt0, n_0lt, n_le0, n_eq0, n_gneq, n_ngeq, n_ng0, n_nglt, n_glt, n_gle, n_ltg, n_leg, n_gg, n_ge0, n_add, n_mul, n_rem, n_shl1, n_and, n_or, n_bit, n_not, n_not', n_B1, n_B0, n_BB, obind, xite_T, xite_F, xite_not, xite_same, oI_s, oI_n, Bool.false_eq_true, reduceCtorEq, eq_self, Classical.not_not, bI_T, bI_Fa, bI_0, bI_n0, bI_x, xb_0, xb_1, xite_bI, xite_bI', not_true_eq_false, not_false_eq_true, Nat.zero_add, Nat.add_zero, Nat.mul_zero, Nat.mul_one, Nat.one_mul, reduceIte, Nat.reduceEqDiff, Nat.reduceAdd, Nat.reduceMul, Nat.reduceSub, Nat.reduceLT, Nat.reduceLeDiff, Nat.reducePow, ite_true, ite_false, if_true, if_false, and_true, true_and, false_and, and_false, or_false, false_or, true_or, or_true, ne_eq, xite_t, xite_f, hg]
          · rw [if_neg (fun q => q.elim (by decide) hg0), if_pos (by decide), e100]
            simp (disch := omega) only [n_cl, n_lt, n_le, n_eq, n_lt0, n_0lt, n_le0, n_eq0, n_gneq, n_ngeq, n_ng0, n_nglt, n_glt, n_gle, n_ltg, n_leg, n_gg, n_ge0, n_add, n_mul, n_rem, n_shl1, n_and, n_or, n_bit, n_not, n_not', n_B1, n_B0, n_BB, obind, xite_T, xite_F, xite_not, xite_same, oI_s, oI_n, Bool.false_eq_true, reduceCtorEq, eq_self, Classical.not_not, bI_T, bI_Fa, bI_0, bI_n0, bI_x, xb_0, xb_1, xite_bI, xite_bI', not_true_eq_false, not_false_eq_true, Nat.zero_add, Nat.add_zero, Nat.mul_zero, Nat.mul_one, Nat.one_mul, reduceIte, Nat.reduceEqDiff, Nat.reduceAdd, Nat.reduceMul, Nat.reduceSub, Nat.reduceLT, Nat.reduceLeDiff, Nat.reducePow, ite_true, ite_false, if_true, if_false, and_true, true_and, false_and, and_false, or_false, false_or, true_or, or_true, ne_eq, xite_t, xite_f, hg]
          · rw [if_neg (fun q => q.elim (by decide) hg0), if_neg (by decide), if_neg (by decide)]
            simp (disch := omega) only [n_cl, n_lt, n_le, n_eq, n_lt0, n_0lt, n_le0, n_eq0, n_gneq, n_ngeq, n_ng0, n_nglt, n_glt, n_gle, n_ltg, n_leg, n_gg, n_ge0, n_add, n_mul, n_rem, n_shl1, n_and, n_or, n_bit, n_not, n_not', n_B1, n_B0, n_BB, obind, xite_T, xite_F, xite_not, xite_same, oI_s, oI_n, Bool.false_eq_true, reduceCtorEq, eq_self, Classical.not_not, bI_T, bI_Fa, bI_0, bI_n0, bI_x, xb_0, xb_1, xite_bI, xite_bI', not_true_eq_false, not_false_eq_true, Nat.zero_add, Nat.add_zero, Nat.mul_zero, Nat.mul_one, Nat.one_mul, reduceIte, Nat.reduceEqDiff, Nat.reduceAdd, Nat.reduceMul, Nat.reduceSub, Nat.reduceLT, Nat.reduceLeDiff, Nat.reducePow, ite_true, ite_false, if_true, if_false, and_true, true_and, false_and, and_false, or_false, false_or, true_or, or_true, ne_eq, xite_t, xite_f, hg]
          · rw [if_neg (fun q => q.elim (by decide) hg0), if_neg (by decide), if_neg (by decide)]
            simp (disch := omega) only [n_cl, n_lt, n_le, n_eq, n_lt0, n_0lt, n_le0, n_eq0, n_gneq, n_ngeq, n_ng0, n_nglt, n_glt, n_gle, n_ltg, n_leg, n_gg, n_ge0, n_add, n_mul, n_rem, n_shl1, n_and, n_or, n_bit, n_not, n_not', n_B1, n_B0, n_BB, obind, xite_T, xite_F, xite_not, xite_same, oI_s, oI_n, Bool.false_eq_true, reduceCtorEq, eq_self, Classical.not_not, bI_T, bI_Fa, bI_0, bI_n0, bI_x, xb_0, xb_1, xite_bI, xite_bI', not_true_eq_false, not_false_eq_true, Nat.zero_add, Nat.add_zero, Nat.mul_zero, Nat.mul_one, Nat.one_mul, reduceIte, Nat.reduceEqDiff, Nat.reduceAdd, Nat.reduceMul, Nat.reduceSub, Nat.reduceLT, Nat.reduceLeDiff, Nat.reducePow, ite_true, ite_false, if_true, if_false, and_true, true_and, false_and, and_false, or_false, false_or, true_or, or_true, ne_eq, xite_t, xite_f, hg]
          · rw [if_pos (Or.inl (by decide))]
            simp (disch := omega) only [n_cl, n_lt, n_le, n_eq, n_lt0, n_0lt, n_le0, n_eq0, n_gneq, n_ngeq, n_ng0, n_nglt, n_glt, n_gle, n_ltg, n_leg, n_gg, n_ge0, n_add, n_mul, n_rem, n_shl1, n_and, n_or, n_bit, n_not, n_not', n_B1, n_B0, n_BB, obind, xite_T, xite_F, xite_not, xite_same, oI_s, oI_n, Bool.false_eq_true, reduceCtorEq, eq_self, Classical.not_not, bI_T, bI_Fa, bI_0, bI_n0, bI_x, xb_0, xb_1, xite_bI, xite_bI', not_true_eq_false, not_false_eq_true, Nat.zero_add, Nat.add_zero, Nat.mul_zero, Nat.mul_one, Nat.one_mul, reduceIte, Nat.reduceEqDiff, Nat.reduceAdd, Nat.reduceMul, Nat.reduceSub, Nat.reduceLT, Nat.reduceLeDiff, Nat.reducePow, ite_true, ite_false, if_true, if_false, and_true, true_and, false_and, and_false, or_false, false_or, true_or, or_true, ne_eq, xite_t, xite_f, hg]
            rfl
          · rw [if_neg (fun q => q.elim (by decide) hg0), if_neg (by decide), if_pos (by decide), e200]
            simp (disch := omega) only [n_cl, n_lt, n_le, n_eq, n_lt0, n_0lt, n_le0, n_eq0, n_gneq, n_ngeq, n_ng0, n_nglt, n_glt, n_gle, n_ltg, n_leg, n_gg, n_ge0, n_add, n_mul, n_rem, n_shl1, n_and, n_or, n_bit, n_not, n_not', n_B1, n_B0, n_BB, obind, xite_T, xite_F, xite_not, xite_same, oI_s, oI_n, Bool.false_eq_true, reduceCtorEq, eq_self, Classical.not_not, bI_T, bI_Fa, bI_0, bI_n0, bI_x, xb_0, xb_1, xite_bI, xite_bI', not_true_eq_false, not_false_eq_true, Nat.zero_add, Nat.add_zero, Nat.mul_zero, Nat.mul_one, Nat.one_mul, reduceIte, Nat.reduceEqDiff, Nat.reduceAdd, Nat.reduceMul, Nat.reduceSub, Nat.reduceLT, Nat.reduceLeDiff, Nat.reducePow, ite_true, ite_false, if_true, if_false, and_true, true_and, false_and, and_false, or_false, false_or, true_or, or_true, ne_eq, xite_t, xite_f, hg]
          · rw [if_neg (fun q => q.elim (by decide) hg0), if_neg (by decide), if_neg (by decide)]
            simp (disch := omega) only [n_cl, n_lt, n_le, n_eq, n_lt0, n_0lt, n_le0, n_eq0, n_gneq, n_ngeq, n_ng0, n_nglt, n_glt, n_gle, n_ltg, n_leg, n_gg, n_ge0, n_add, n_mul, n_rem, n_shl1, n_and, n_or, n_bit, n_not, n_not', n_B1, n_B0, n_BB, obind, xite_T, xite_F, xite_not, xite_same, oI_s, oI_n, Bool.false_eq_true, reduceCtorEq, eq_self, Classical.not_not, bI_T, bI_Fa, bI_0, bI_n0, bI_x, xb_0, xb_1, xite_bI, xite_bI', not_true_eq_false, not_false_eq_true, Nat.zero_add, Nat.add_zero, Nat.mul_zero, Nat.mul_one, Nat.one_mul, reduceIte, Nat.reduceEqDiff, Nat.reduceAdd, Nat.reduceMul, Nat.reduceSub, Nat.reduceLT, Nat.reduceLeDiff, Nat.reducePow, ite_true, ite_false, if_true, if_false, and_true, true_and, false_and, and_false, or_false, false_or, true_or, or_true, ne_eq, xite_t, xite_f, hg]
      · rw [c]
        unfold crI
        rw [c, xite_f (show ¬ 2 = 0 by omega), xite_f (show ¬ 2 = 1 by omega), if_neg (by decide), if_pos (by decide), obind]
        show xite (-nI 12 = 0) _ _ = _
        rw [xite_f (by decide)]
        rfl
    · unfold xToss
      rw [if_pos (lt8 h1), B76_0, M33_f _ _ h1]
      simp (disch := omega) only [n_cl, n_lt, n_le, n_eq, n_lt0, n_0lt, n_le0, n_eq0, n_gneq, n_ngeq, n_ng0, n_nglt, n_glt, n_gle, n_ltg, n_leg, n_gg, n_ge0, n_add, n_mul, n_rem, n_shl1, n_and, n_or, n_bit, n_not, n_not', n_B1, n_B0, n_BB, obind, xite_T, xite_F, xite_not, xite_same, oI_s, oI_n, Bool.false_eq_true, reduceCtorEq, eq_self, Classical.not_not, bI_T, bI_Fa, bI_0, bI_n0, bI_x, xb_0, xb_1, xite_bI, xite_bI', not_true_eq_false, not_false_eq_true, Nat.zero_add, Nat.add_zero, Nat.mul_zero, Nat.mul_one, Nat.one_mul, reduceIte, Nat.reduceEqDiff, Nat.reduceAdd, Nat.reduceMul, Nat.reduceSub, Nat.reduceLT, Nat.reduceLeDiff, Nat.reducePow, ite_true, ite_false, if_true, if_false, and_true, true_and, false_and, and_false, or_false, false_or, true_or, or_true, ne_eq, ]
      rfl
  refine ⟨wN σ 1 8, S, ?_, ⟨CI_wN h.1, MI_wN h.2.1, f36⟩, by show cN σ + 1 ≤ _; omega, by show cS σ + 8 ≤ _; omega⟩
  rw [B79_1519]
  simp (disch := omega) only [n_cl, n_lt, n_le, n_eq, n_lt0, n_0lt, n_le0, n_eq0, n_gneq, n_ngeq, n_ng0, n_nglt, n_glt, n_gle, n_ltg, n_leg, n_gg, n_ge0, n_add, n_mul, n_rem, n_shl1, n_and, n_or, n_bit, n_not, n_not', n_B1, n_B0, n_BB, obind, xite_T, xite_F, xite_not, xite_same, oI_s, oI_n, Bool.false_eq_true, reduceCtorEq, eq_self, Classical.not_not, bI_T, bI_Fa, bI_0, bI_n0, bI_x, xb_0, xb_1, xite_bI, xite_bI', not_true_eq_false, not_false_eq_true, Nat.zero_add, Nat.add_zero, Nat.mul_zero, Nat.mul_one, Nat.one_mul, reduceIte, Nat.reduceEqDiff, Nat.reduceAdd, Nat.reduceMul, Nat.reduceSub, Nat.reduceLT, Nat.reduceLeDiff, Nat.reducePow, ite_true, ite_false, if_true, if_false, and_true, true_and, false_and, and_false, or_false, false_or, true_or, or_true, ne_eq, xite_t, xite_f, f36, f36', hL, key]
  rw [B79_1544]
  simp (disch := omega) only [n_cl, n_lt, n_le, n_eq, n_lt0, n_0lt, n_le0, n_eq0, n_gneq, n_ngeq, n_ng0, n_nglt, n_glt, n_gle, n_ltg, n_leg, n_gg, n_ge0, n_add, n_mul, n_rem, n_shl1, n_and, n_or, n_bit, n_not, n_not', n_B1, n_B0, n_BB, obind, xite_T, xite_F, xite_not, xite_same, oI_s, oI_n, Bool.false_eq_true, reduceCtorEq, eq_self, Classical.not_not, bI_T, bI_Fa, bI_0, bI_n0, bI_x, xb_0, xb_1, xite_bI, xite_bI', not_true_eq_false, not_false_eq_true, Nat.zero_add, Nat.add_zero, Nat.mul_zero, Nat.mul_one, Nat.one_mul, reduceIte, Nat.reduceEqDiff, Nat.reduceAdd, Nat.reduceMul, Nat.reduceSub, Nat.reduceLT, Nat.reduceLeDiff, Nat.reducePow, ite_true, ite_false, if_true, if_false, and_true, true_and, false_and, and_false, or_false, false_or, true_or, or_true, ne_eq, xite_t, xite_f, ]
theorem M73_w {σ : xS} {S : mG} {f : Nat → Int32} {v : Int32} (h : LI f σ S) : LI f (wI σ 17 0 11 v) S ∧ cN (wI σ 17 0 11 v) = cN σ ∧ cS (wI σ 17 0 11 v) = cS σ := by
  have hF : xF (fun r _ k => r = 17 ∧ ¬ k = 10 ∨ r = 33 ∨ r = 34) σ (wI σ 17 0 11 v) := xF_wI (xF_refl σ) _ (Or.inl ⟨rfl, by omega⟩)
  obtain ⟨m1, m2⟩ := MI_44 h.2.1 hF
  exact ⟨⟨CI_kM h.1 m2, m1, by rw [xF_I hF (fun k => by omega)]; exact h.2.2⟩, rfl, rfl⟩
theorem K_1354 (d : Nat) {f : Nat → Int32} {L i : Nat} {σ : xS} {S : mG} (h : LI f σ S) (hL : f 3072 = nI L) (hL2 : L ≤ 3072) (hi : i + 6 ≤ L) : K_to d 1354 f i σ := by
  have f36 := h.2.2
  have fin1 : ∀ (x : Int32), ¬ x = 0 → (∀ s, rI (wN σ 1 8) 36 0 s = f s) → xElem σ (f (i + 1)) (f (i + 2)) = (x, wN σ 1 8) → run (d + 60) (xentry 73 [.inr (.inr (17, (some 0))), .inl (f (i + 1)), .inl (f (i + 2))] (wN σ 1 8)) = some ((0, lN 0, none), wI (wN σ 1 8) 17 0 11 x) → K_to d 1354 f i σ := by
    intro x hx h36 hE hR
    have h36 : rI (wN σ 1 8) 36 0 = f := funext h36
    have hLI : LI f (wN σ 1 8) S := ⟨CI_wN h.1, MI_wN h.2.1, h36⟩
    obtain ⟨q1, q2, q3⟩ := M73_w (v := x) hLI
    refine ⟨wI (wN σ 1 8) 17 0 11 x, S, ?_, q1, by rw [q2]; show cN σ + 1 ≤ _; omega, by rw [q3]; show cS σ + 8 ≤ _; omega⟩
    rw [B79_1354]
    simp (disch := omega) only [n_cl, n_lt, n_le, n_eq, n_lt0, n_0lt, n_le0, n_eq0, n_gneq, n_ngeq, n_ng0, n_nglt, n_glt, n_gle, n_ltg, n_leg, n_gg, n_ge0, n_add, n_mul, n_rem, n_shl1, n_and, n_or, n_bit, n_not, n_not', n_B1, n_B0, n_BB, obind, xite_T, xite_F, xite_not, xite_same, oI_s, oI_n, Bool.false_eq_true, reduceCtorEq, eq_self, Classical.not_not, bI_T, bI_Fa, bI_0, bI_n0, bI_x, xb_0, xb_1, xite_bI, xite_bI', not_true_eq_false, not_false_eq_true, Nat.zero_add, Nat.add_zero, Nat.mul_zero, Nat.mul_one, Nat.one_mul, reduceIte, Nat.reduceEqDiff, Nat.reduceAdd, Nat.reduceMul, Nat.reduceSub, Nat.reduceLT, Nat.reduceLeDiff, Nat.reducePow, ite_true, ite_false, if_true, if_false, and_true, true_and, false_and, and_false, or_false, false_or, true_or, or_true, ne_eq, xite_t, xite_f, f36, hL, hE, h36, hR, B0_0, w_Is, hx]
    rw [B79_1544]
    simp (disch := omega) only [n_cl, n_lt, n_le, n_eq, n_lt0, n_0lt, n_le0, n_eq0, n_gneq, n_ngeq, n_ng0, n_nglt, n_glt, n_gle, n_ltg, n_leg, n_gg, n_ge0, n_add, n_mul, n_rem, n_shl1, n_and, n_or, n_bit, n_not, n_not', n_B1, n_B0, n_BB, obind, xite_T, xite_F, xite_not, xite_same, oI_s, oI_n, Bool.false_eq_true, reduceCtorEq, eq_self, Classical.not_not, bI_T, bI_Fa, bI_0, bI_n0, bI_x, xb_0, xb_1, xite_bI, xite_bI', not_true_eq_false, not_false_eq_true, Nat.zero_add, Nat.add_zero, Nat.mul_zero, Nat.mul_one, Nat.one_mul, reduceIte, Nat.reduceEqDiff, Nat.reduceAdd, Nat.reduceMul, Nat.reduceSub, Nat.reduceLT, Nat.reduceLeDiff, Nat.reducePow, ite_true, ite_false, if_true, if_false, and_true, true_and, false_and, and_false, or_false, false_or, true_or, or_true, ne_eq, xite_t, xite_f, ]
  have h36 : ∀ s, rI (wN σ 1 8) 36 0 s = f s := fun s => congrFun f36 s
  by_cases h1 : inb (f (i + 1)) 8
  · obtain ⟨e, he, ee⟩ := inb_of h1 (by omega)
    have hc := h.1.2.2.2 e he
    have hm : mShl (wN σ 1 8) e (S.2.2 e) := h.2.1.2.2.2 e he
    have hz := hc.1.2.2.2
    have hx2 := hc.1.1
    by_cases c : (S.2.2 e).1 = 2 ∧ inb (f (i + 2)) (S.2.2 e).2.2.2.2.1
    · obtain ⟨k, hk, ek⟩ := inb_of c.2 (by omega)
      have hE : xElem σ (f (i + 1)) (f (i + 2)) = (0, wL (wN σ 1 8) 35 0 0 ((S.2.2 e).2.2.2.2.2 k).toInt64) := by
        unfold xElem
        rw [ee, ek, if_neg (nlt8 he), n_cl (by omega), n_cl (by omega), hc.2.1, c.1, hc.2.2.2.2.1, hc.2.2.2.2.2 k (by omega), if_neg]
        intro q
        rcases q with q | q | q | q
        · exact q rfl
        · rw [n_lt0 (by omega)] at q; exact q
        · rw [n_le (by omega) (by omega)] at q; omega
        · have q : nI 100 ≤ nI k := q
          rw [n_le (by omega) (by omega)] at q; omega
      have h36' : rI (wL (wN σ 1 8) 35 0 0 ((S.2.2 e).2.2.2.2.2 k).toInt64) 36 0 = f := f36
      have hw : kC 0 (wN σ 1 8) (wN σ 1 8) := kC_refl _
      have hLI : LI f (wL (wN σ 1 8) 35 0 0 ((S.2.2 e).2.2.2.2.2 k).toInt64) S := by
        refine ⟨?_, ?_, h36'⟩
        · have hF : xF (fun r _ _ => r = 35) (wN σ 1 8) (wL (wN σ 1 8) 35 0 0 ((S.2.2 e).2.2.2.2.2 k).toInt64) := xF_wL (xF_refl _) _ rfl
          obtain ⟨a, b, c', e'⟩ := CI_wN (a := 1) (b := 8) h.1
          exact ⟨CL_F a hF (fun r k hr => by omega) (fun j k => by omega), b, fun Y hY => CL_F (c' Y hY) hF (fun r k hr => by omega) (fun j k => by omega), fun d hd => cSh_G (e' d hd) (xH_F (n := 0) hF (fun j k => by omega)) (by omega) (by omega) (fun k => by omega) (fun k => by omega)⟩
        · exact MI_wN (a := 1) (b := 8) h.2.1
      obtain ⟨q1, q2, q3⟩ := M73_w (v := nI 0) hLI
      have hm2 : mShl (wL (wN σ 1 8) 35 0 0 ((S.2.2 e).2.2.2.2.2 k).toInt64) e (S.2.2 e) := hm
      have hR : run (d + 60) (xentry 73 [.inr (.inr (17, (some 0))), .inl (f (i + 1)), .inl (f (i + 2))] (wL (wN σ 1 8) 35 0 0 ((S.2.2 e).2.2.2.2.2 k).toInt64)) = some ((0, ((S.2.2 e).2.2.2.2.2 k).toInt64, none), wI (wL (wN σ 1 8) 35 0 0 ((S.2.2 e).2.2.2.2.2 k).toInt64) 17 0 11 (nI 0)) := by
        have hin : inb (nI k) (S.2.2 e).2.2.2.2.1 := by rw [← ek]; exact c.2
        have h2 := hm2.2.1
        have h5 := hm2.2.2.2.2.1
        have h6 := hm2.2.2.2.2.2 k (by omega)
        rw [c.1] at h2
        rw [ee, ek, B73_0, M2]
        simp (disch := omega) only [n_cl, n_lt, n_le, n_eq, n_lt0, n_0lt, n_le0, n_eq0, n_gneq, n_ngeq, n_ng0, n_nglt, n_glt, n_gle, n_ltg, n_leg, n_gg, n_ge0, n_add, n_mul, n_rem, n_shl1, n_and, n_or, n_bit, n_not, n_not', n_B1, n_B0, n_BB, obind, xite_T, xite_F, xite_not, xite_same, oI_s, oI_n, Bool.false_eq_true, reduceCtorEq, eq_self, Classical.not_not, bI_T, bI_Fa, bI_0, bI_n0, bI_x, xb_0, xb_1, xite_bI, xite_bI', not_true_eq_false, not_false_eq_true, Nat.zero_add, Nat.add_zero, Nat.mul_zero, Nat.mul_one, Nat.one_mul, reduceIte, Nat.reduceEqDiff, Nat.reduceAdd, Nat.reduceMul, Nat.reduceSub, Nat.reduceLT, Nat.reduceLeDiff, Nat.reducePow, ite_true, ite_false, if_true, if_false, and_true, true_and, false_and, and_false, or_false, false_or, true_or, or_true, ne_eq, xite_t, xite_f, inb_nI, he, h2, h5]
        rw [M1r _ _ _ _ _ (n_pred (by omega))]
        simp (disch := omega) only [n_cl, n_lt, n_le, n_eq, n_lt0, n_0lt, n_le0, n_eq0, n_gneq, n_ngeq, n_ng0, n_nglt, n_glt, n_gle, n_ltg, n_leg, n_gg, n_ge0, n_add, n_mul, n_rem, n_shl1, n_and, n_or, n_bit, n_not, n_not', n_B1, n_B0, n_BB, obind, xite_T, xite_F, xite_not, xite_same, oI_s, oI_n, Bool.false_eq_true, reduceCtorEq, eq_self, Classical.not_not, bI_T, bI_Fa, bI_0, bI_n0, bI_x, xb_0, xb_1, xite_bI, xite_bI', not_true_eq_false, not_false_eq_true, Nat.zero_add, Nat.add_zero, Nat.mul_zero, Nat.mul_one, Nat.one_mul, reduceIte, Nat.reduceEqDiff, Nat.reduceAdd, Nat.reduceMul, Nat.reduceSub, Nat.reduceLT, Nat.reduceLeDiff, Nat.reducePow, ite_true, ite_false, if_true, if_false, and_true, true_and, false_and, and_false, or_false, false_or, true_or, or_true, ne_eq, xite_t, xite_f, inb_nI, hk]
        rw [B73_45]
        simp (disch := omega) only [n_cl, n_lt, n_le, n_eq, n_lt0, n_0lt, n_le0, n_eq0, n_gneq, n_ngeq, n_ng0, n_nglt, n_glt, n_gle, n_ltg, n_leg, n_gg, n_ge0, n_add, n_mul, n_rem, n_shl1, n_and, n_or, n_bit, n_not, n_not', n_B1, n_B0, n_BB, obind, xite_T, xite_F, xite_not, xite_same, oI_s, oI_n, Bool.false_eq_true, reduceCtorEq, eq_self, Classical.not_not, bI_T, bI_Fa, bI_0, bI_n0, bI_x, xb_0, xb_1, xite_bI, xite_bI', not_true_eq_false, not_false_eq_true, Nat.zero_add, Nat.add_zero, Nat.mul_zero, Nat.mul_one, Nat.one_mul, reduceIte, Nat.reduceEqDiff, Nat.reduceAdd, Nat.reduceMul, Nat.reduceSub, Nat.reduceLT, Nat.reduceLeDiff, Nat.reducePow, ite_true, ite_false, if_true, if_false, and_true, true_and, false_and, and_false, or_false, false_or, true_or, or_true, ne_eq, xite_t, xite_f, w_Is, w_I2, w_Is, w_In, w_IL, w_IP, w_IC, w_LI, w_LP, w_LC, w_PI, w_PL, w_PC, h6]
      have hcmp : ∀ y : Int64, (lg_cmp y y = 0) = True := fun y => by
        unfold lg_cmp
        simp
      refine ⟨wI (wL (wN σ 1 8) 35 0 0 ((S.2.2 e).2.2.2.2.2 k).toInt64) 17 0 11 (nI 0), S, ?_, q1, by rw [q2]; show cN σ + 1 ≤ _; omega, by rw [q3]; show cS σ + 8 ≤ _; omega⟩
      have hL35 : rL (wL (wN σ 1 8) 35 0 0 ((S.2.2 e).2.2.2.2.2 k).toInt64) 35 0 0 = ((S.2.2 e).2.2.2.2.2 k).toInt64 := by
        rw [w_L1]; exact if_pos rfl
      rw [B79_1354]
      simp (disch := omega) only [n_cl, n_lt, n_le, n_eq, n_lt0, n_0lt, n_le0, n_eq0, n_gneq, n_ngeq, n_ng0, n_nglt, n_glt, n_gle, n_ltg, n_leg, n_gg, n_ge0, n_add, n_mul, n_rem, n_shl1, n_and, n_or, n_bit, n_not, n_not', n_B1, n_B0, n_BB, obind, xite_T, xite_F, xite_not, xite_same, oI_s, oI_n, Bool.false_eq_true, reduceCtorEq, eq_self, Classical.not_not, bI_T, bI_Fa, bI_0, bI_n0, bI_x, xb_0, xb_1, xite_bI, xite_bI', not_true_eq_false, not_false_eq_true, Nat.zero_add, Nat.add_zero, Nat.mul_zero, Nat.mul_one, Nat.one_mul, reduceIte, Nat.reduceEqDiff, Nat.reduceAdd, Nat.reduceMul, Nat.reduceSub, Nat.reduceLT, Nat.reduceLeDiff, Nat.reducePow, ite_true, ite_false, if_true, if_false, and_true, true_and, false_and, and_false, or_false, false_or, true_or, or_true, ne_eq, xite_t, xite_f, f36, hL, hE, h36', hR, B0_0, w_Is, w_IL, hL35, hcmp]
      rw [B79_1544]
      simp (disch := omega) only [n_cl, n_lt, n_le, n_eq, n_lt0, n_0lt, n_le0, n_eq0, n_gneq, n_ngeq, n_ng0, n_nglt, n_glt, n_gle, n_ltg, n_leg, n_gg, n_ge0, n_add, n_mul, n_rem, n_shl1, n_and, n_or, n_bit, n_not, n_not', n_B1, n_B0, n_BB, obind, xite_T, xite_F, xite_not, xite_same, oI_s, oI_n, Bool.false_eq_true, reduceCtorEq, eq_self, Classical.not_not, bI_T, bI_Fa, bI_0, bI_n0, bI_x, xb_0, xb_1, xite_bI, xite_bI', not_true_eq_false, not_false_eq_true, Nat.zero_add, Nat.add_zero, Nat.mul_zero, Nat.mul_one, Nat.one_mul, reduceIte, Nat.reduceEqDiff, Nat.reduceAdd, Nat.reduceMul, Nat.reduceSub, Nat.reduceLT, Nat.reduceLeDiff, Nat.reducePow, ite_true, ite_false, if_true, if_false, and_true, true_and, false_and, and_false, or_false, false_or, true_or, or_true, ne_eq, xite_t, xite_f, ]
    · refine fin1 2 (by decide) h36 ?_ ?_
      · unfold xElem
        rw [ee, if_neg (nlt8 he), n_cl (by omega), hc.2.1, if_pos]
        by_cases c2 : (S.2.2 e).1 = 2
        · have c3 : ¬ inb (f (i + 2)) (S.2.2 e).2.2.2.2.1 := fun q => c ⟨c2, q⟩
          by_cases c4 : f (i + 2) < 0
          · exact Or.inr (Or.inl c4)
          · obtain ⟨k, hk, ek⟩ := nI_of c4
            rw [ek, inb_nI (by omega)] at c3
            refine Or.inr (Or.inr (Or.inl ?_))
            rw [hc.2.2.2.2.1, ek, n_le (by omega) (by omega)]
            omega
        · refine Or.inl (fun q => c2 ?_)
          have q : nI (S.2.2 e).1 = nI 2 := q
          rw [n_eq (by omega) (by omega)] at q
          exact q
      · have h2 := hm.2.1
        have h5 := hm.2.2.2.2.1
        rw [ee, B73_0, M2]
        simp (disch := omega) only [n_cl, n_lt, n_le, n_eq, n_lt0, n_0lt, n_le0, n_eq0, n_gneq, n_ngeq, n_ng0, n_nglt, n_glt, n_gle, n_ltg, n_leg, n_gg, n_ge0, n_add, n_mul, n_rem, n_shl1, n_and, n_or, n_bit, n_not, n_not', n_B1, n_B0, n_BB, obind, xite_T, xite_F, xite_not, xite_same, oI_s, oI_n, Bool.false_eq_true, reduceCtorEq, eq_self, Classical.not_not, bI_T, bI_Fa, bI_0, bI_n0, bI_x, xb_0, xb_1, xite_bI, xite_bI', not_true_eq_false, not_false_eq_true, Nat.zero_add, Nat.add_zero, Nat.mul_zero, Nat.mul_one, Nat.one_mul, reduceIte, Nat.reduceEqDiff, Nat.reduceAdd, Nat.reduceMul, Nat.reduceSub, Nat.reduceLT, Nat.reduceLeDiff, Nat.reducePow, ite_true, ite_false, if_true, if_false, and_true, true_and, false_and, and_false, or_false, false_or, true_or, or_true, ne_eq, xite_t, xite_f, inb_nI, he, h2, h5]
        rw [M1r _ _ _ _ _ (n_pred (by omega))]
        have e2 : (2 : Int32) = nI 2 := rfl
        rw [e2]
        by_cases c2 : (S.2.2 e).1 = 2
        · have c3 : ¬ inb (f (i + 2)) (S.2.2 e).2.2.2.2.1 := fun q => c ⟨c2, q⟩
          simp (disch := omega) only [n_cl, n_lt, n_le, n_eq, n_lt0, n_0lt, n_le0, n_eq0, n_gneq, n_ngeq, n_ng0, n_nglt, n_glt, n_gle, n_ltg, n_leg, n_gg, n_ge0, n_add, n_mul, n_rem, n_shl1, n_and, n_or, n_bit, n_not, n_not', n_B1, n_B0, n_BB, obind, xite_T, xite_F, xite_not, xite_same, oI_s, oI_n, Bool.false_eq_true, reduceCtorEq, eq_self, Classical.not_not, bI_T, bI_Fa, bI_0, bI_n0, bI_x, xb_0, xb_1, xite_bI, xite_bI', not_true_eq_false, not_false_eq_true, Nat.zero_add, Nat.add_zero, Nat.mul_zero, Nat.mul_one, Nat.one_mul, reduceIte, Nat.reduceEqDiff, Nat.reduceAdd, Nat.reduceMul, Nat.reduceSub, Nat.reduceLT, Nat.reduceLeDiff, Nat.reducePow, ite_true, ite_false, if_true, if_false, and_true, true_and, false_and, and_false, or_false, false_or, true_or, or_true, ne_eq, xite_t, xite_f, c2, c3]
          rw [B73_45]
          simp (disch := omega) only [n_cl, n_lt, n_le, n_eq, n_lt0, n_0lt, n_le0, n_eq0, n_gneq, n_ngeq, n_ng0, n_nglt, n_glt, n_gle, n_ltg, n_leg, n_gg, n_ge0, n_add, n_mul, n_rem, n_shl1, n_and, n_or, n_bit, n_not, n_not', n_B1, n_B0, n_BB, obind, xite_T, xite_F, xite_not, xite_same, oI_s, oI_n, Bool.false_eq_true, reduceCtorEq, eq_self, Classical.not_not, bI_T, bI_Fa, bI_0, bI_n0, bI_x, xb_0, xb_1, xite_bI, xite_bI', not_true_eq_false, not_false_eq_true, Nat.zero_add, Nat.add_zero, Nat.mul_zero, Nat.mul_one, Nat.one_mul, reduceIte, Nat.reduceEqDiff, Nat.reduceAdd, Nat.reduceMul, Nat.reduceSub, Nat.reduceLT, Nat.reduceLeDiff, Nat.reducePow, ite_true, ite_false, if_true, if_false, and_true, true_and, false_and, and_false, or_false, false_or, true_or, or_true, ne_eq, xite_t, xite_f, w_Is]
        · simp (disch := omega) only [n_cl, n_lt, n_le, n_eq, n_lt0, n_0lt, n_le0, n_eq0, n_gneq, n_ngeq, n_ng0, n_nglt, n_glt, n_gle, n_ltg, n_leg, n_gg, n_ge0, n_add, n_mul, n_rem, n_shl1, n_and, n_or, n_bit, n_not, n_not', n_B1, n_B0, n_BB, obind, xite_T, xite_F, xite_not, xite_same, oI_s, oI_n, Bool.false_eq_true, reduceCtorEq, eq_self, Classical.not_not, bI_T, bI_Fa, bI_0, bI_n0, bI_x, xb_0, xb_1, xite_bI, xite_bI', not_true_eq_false, not_false_eq_true, Nat.zero_add, Nat.add_zero, Nat.mul_zero, Nat.mul_one, Nat.one_mul, reduceIte, Nat.reduceEqDiff, Nat.reduceAdd, Nat.reduceMul, Nat.reduceSub, Nat.reduceLT, Nat.reduceLeDiff, Nat.reducePow, ite_true, ite_false, if_true, if_false, and_true, true_and, false_and, and_false, or_false, false_or, true_or, or_true, ne_eq, xite_t, xite_f, c2]
          rw [B73_45]
          simp (disch := omega) only [n_cl, n_lt, n_le, n_eq, n_lt0, n_0lt, n_le0, n_eq0, n_gneq, n_ngeq, n_ng0, n_nglt, n_glt, n_gle, n_ltg, n_leg, n_gg, n_ge0, n_add, n_mul, n_rem, n_shl1, n_and, n_or, n_bit, n_not, n_not', n_B1, n_B0, n_BB, obind, xite_T, xite_F, xite_not, xite_same, oI_s, oI_n, Bool.false_eq_true, reduceCtorEq, eq_self, Classical.not_not, bI_T, bI_Fa, bI_0, bI_n0, bI_x, xb_0, xb_1, xite_bI, xite_bI', not_true_eq_false, not_false_eq_true, Nat.zero_add, Nat.add_zero, Nat.mul_zero, Nat.mul_one, Nat.one_mul, reduceIte, Nat.reduceEqDiff, Nat.reduceAdd, Nat.reduceMul, Nat.reduceSub, Nat.reduceLT, Nat.reduceLeDiff, Nat.reducePow, ite_true, ite_false, if_true, if_false, and_true, true_and, false_and, and_false, or_false, false_or, true_or, or_true, ne_eq, xite_t, xite_f, w_Is]
  · refine fin1 1 (by decide) h36 ?_ ?_
    · unfold xElem
      rw [if_pos (lt8 h1)]
    · have e1 : (1 : Int32) = nI 1 := rfl
      rw [B73_0, M2, e1]
      simp (disch := omega) only [n_cl, n_lt, n_le, n_eq, n_lt0, n_0lt, n_le0, n_eq0, n_gneq, n_ngeq, n_ng0, n_nglt, n_glt, n_gle, n_ltg, n_leg, n_gg, n_ge0, n_add, n_mul, n_rem, n_shl1, n_and, n_or, n_bit, n_not, n_not', n_B1, n_B0, n_BB, obind, xite_T, xite_F, xite_not, xite_same, oI_s, oI_n, Bool.false_eq_true, reduceCtorEq, eq_self, Classical.not_not, bI_T, bI_Fa, bI_0, bI_n0, bI_x, xb_0, xb_1, xite_bI, xite_bI', not_true_eq_false, not_false_eq_true, Nat.zero_add, Nat.add_zero, Nat.mul_zero, Nat.mul_one, Nat.one_mul, reduceIte, Nat.reduceEqDiff, Nat.reduceAdd, Nat.reduceMul, Nat.reduceSub, Nat.reduceLT, Nat.reduceLeDiff, Nat.reducePow, ite_true, ite_false, if_true, if_false, and_true, true_and, false_and, and_false, or_false, false_or, true_or, or_true, ne_eq, xite_t, xite_f, h1]
      rw [B73_45]
      simp (disch := omega) only [n_cl, n_lt, n_le, n_eq, n_lt0, n_0lt, n_le0, n_eq0, n_gneq, n_ngeq, n_ng0, n_nglt, n_glt, n_gle, n_ltg, n_leg, n_gg, n_ge0, n_add, n_mul, n_rem, n_shl1, n_and, n_or, n_bit, n_not, n_not', n_B1, n_B0, n_BB, obind, xite_T, xite_F, xite_not, xite_same, oI_s, oI_n, Bool.false_eq_true, reduceCtorEq, eq_self, Classical.not_not, bI_T, bI_Fa, bI_0, bI_n0, bI_x, xb_0, xb_1, xite_bI, xite_bI', not_true_eq_false, not_false_eq_true, Nat.zero_add, Nat.add_zero, Nat.mul_zero, Nat.mul_one, Nat.one_mul, reduceIte, Nat.reduceEqDiff, Nat.reduceAdd, Nat.reduceMul, Nat.reduceSub, Nat.reduceLT, Nat.reduceLeDiff, Nat.reducePow, ite_true, ite_false, if_true, if_false, and_true, true_and, false_and, and_false, or_false, false_or, true_or, or_true, ne_eq, xite_t, xite_f, w_Is]
