/-! PUT, COPY -/
theorem C124 (d : Nat) (σ : xS) {i n : Nat} (v : Int32) (hs : rI σ 14 i 2 = nI n) (hn : n ≤ 100) : run (d + 1) (xentry 124 [.inr (.inr (14, (some i))), .inl v] σ) = some ((bI (inb v n), 0, none), σ) := by
  rw [B124_0, hs]
  by_cases h : inb v n
  · obtain ⟨k, hk, e⟩ := inb_of h (by omega)
    subst e
    simp (disch := omega) only [n_cl, n_lt, n_le, n_eq, n_lt0, n_0lt, n_le0, n_eq0, n_gneq, n_ngeq, n_ng0, n_nglt, n_glt, n_gle, n_ltg, n_leg, n_gg, n_ge0, n_add, n_mul, n_rem, n_shl1, n_and, n_or, n_bit, n_not, n_not', n_B1, n_B0, n_BB, obind, xite_T, xite_F, xite_not, xite_same, oI_s, oI_n, Bool.false_eq_true, reduceCtorEq, eq_self, Classical.not_not, bI_T, bI_Fa, bI_0, bI_n0, bI_x, xb_0, xb_1, xite_bI, xite_bI', not_true_eq_false, not_false_eq_true, Nat.zero_add, Nat.add_zero, Nat.mul_zero, Nat.mul_one, Nat.one_mul, reduceIte, Nat.reduceEqDiff, Nat.reduceAdd, Nat.reduceMul, Nat.reduceSub, Nat.reduceLT, Nat.reduceLeDiff, Nat.reducePow, ite_true, ite_false, if_true, if_false, and_true, true_and, false_and, and_false, or_false, false_or, true_or, or_true, ne_eq, xite_t, xite_f, h]
  · rw [n_rng (by omega), xite_f h]
    simp (disch := omega) only [n_cl, n_lt, n_le, n_eq, n_lt0, n_0lt, n_le0, n_eq0, n_gneq, n_ngeq, n_ng0, n_nglt, n_glt, n_gle, n_ltg, n_leg, n_gg, n_ge0, n_add, n_mul, n_rem, n_shl1, n_and, n_or, n_bit, n_not, n_not', n_B1, n_B0, n_BB, obind, xite_T, xite_F, xite_not, xite_same, oI_s, oI_n, Bool.false_eq_true, reduceCtorEq, eq_self, Classical.not_not, bI_T, bI_Fa, bI_0, bI_n0, bI_x, xb_0, xb_1, xite_bI, xite_bI', not_true_eq_false, not_false_eq_true, Nat.zero_add, Nat.add_zero, Nat.mul_zero, Nat.mul_one, Nat.one_mul, reduceIte, Nat.reduceEqDiff, Nat.reduceAdd, Nat.reduceMul, Nat.reduceSub, Nat.reduceLT, Nat.reduceLeDiff, Nat.reducePow, ite_true, ite_false, if_true, if_false, and_true, true_and, false_and, and_false, or_false, false_or, true_or, or_true, ne_eq, h]
def nar (s : Nat) (v : Int32) : Int32 := if s = 0 then v.toInt8.toInt32 else if s = 1 then v.toInt16.toInt32 else v
theorem duo_put (d : Nat) (S : mG) (v i w : Int32) : Duo (d + 60) (fun σ => xentry 163 [.inr (.inr (0, (some 0))), .inl v, .inl i, .inl w] σ) (fun σ => xentry 72 [.inr (.inr (17, (some 0))), .inl v, .inl i, .inl w] σ) S := by
  by_cases h1 : inb v 8
  · obtain ⟨e, he, ee⟩ := inb_of h1 (by omega)
    subst ee
    by_cases h2 : (S.2.2 e).1 = 2
    · by_cases h3 : inb i (S.2.2 e).2.2.2.2.1
      · refine ⟨nI 0, (S.1, S.2.1, shU S.2.2 e ((S.2.2 e).1, (S.2.2 e).2.1, (S.2.2 e).2.2.1, (S.2.2 e).2.2.2.1, (S.2.2 e).2.2.2.2.1, fun j => if j = i.toNatClampNeg then nar (S.2.2 e).2.2.2.1 w else (S.2.2 e).2.2.2.2.2 j)), fun σ h => ⟨wI σ 15 e i.toNatClampNeg (nar (S.2.2 e).2.2.2.1 w), ?_, ?_, ?_⟩, fun σ h => ⟨wI σ 25 0 (100 * e + i.toNatClampNeg) (nar (S.2.2 e).2.2.2.1 w), ?_, ?_, ?_⟩⟩
        · obtain ⟨e1, e2, e3, e4, e5, e6⟩ := h.2.2.2 e he
          have hs := e1.2.2.1
          have hz := e1.2.2.2
          obtain ⟨k, hk, ek⟩ := inb_of h3 (by omega)
          subst ek
          show run (d + 60) (xentry 163 _ σ) = _
          rw [B163_0, C171 _ _ (h.2.2.2 e he) he (by omega)]
          simp (disch := omega) only [n_cl, n_lt, n_le, n_eq, n_lt0, n_0lt, n_le0, n_eq0, n_gneq, n_ngeq, n_ng0, n_nglt, n_glt, n_gle, n_ltg, n_leg, n_gg, n_ge0, n_add, n_mul, n_rem, n_shl1, n_and, n_or, n_bit, n_not, n_not', n_B1, n_B0, n_BB, obind, xite_T, xite_F, xite_not, xite_same, oI_s, oI_n, Bool.false_eq_true, reduceCtorEq, eq_self, Classical.not_not, bI_T, bI_Fa, bI_0, bI_n0, bI_x, xb_0, xb_1, xite_bI, xite_bI', not_true_eq_false, not_false_eq_true, Nat.zero_add, Nat.add_zero, Nat.mul_zero, Nat.mul_one, Nat.one_mul, reduceIte, Nat.reduceEqDiff, Nat.reduceAdd, Nat.reduceMul, Nat.reduceSub, Nat.reduceLT, Nat.reduceLeDiff, Nat.reducePow, ite_true, ite_false, if_true, if_false, and_true, true_and, false_and, and_false, or_false, false_or, true_or, or_true, ne_eq, rrI_0, h2]
          rw [xite_t (by simp)]
          simp (disch := omega) only [n_cl, n_lt, n_le, n_eq, n_lt0, n_0lt, n_le0, n_eq0, n_gneq, n_ngeq, n_ng0, n_nglt, n_glt, n_gle, n_ltg, n_leg, n_gg, n_ge0, n_add, n_mul, n_rem, n_shl1, n_and, n_or, n_bit, n_not, n_not', n_B1, n_B0, n_BB, obind, xite_T, xite_F, xite_not, xite_same, oI_s, oI_n, Bool.false_eq_true, reduceCtorEq, eq_self, Classical.not_not, bI_T, bI_Fa, bI_0, bI_n0, bI_x, xb_0, xb_1, xite_bI, xite_bI', not_true_eq_false, not_false_eq_true, Nat.zero_add, Nat.add_zero, Nat.mul_zero, Nat.mul_one, Nat.one_mul, reduceIte, Nat.reduceEqDiff, Nat.reduceAdd, Nat.reduceMul, Nat.reduceSub, Nat.reduceLT, Nat.reduceLeDiff, Nat.reducePow, ite_true, ite_false, if_true, if_false, and_true, true_and, false_and, and_false, or_false, false_or, true_or, or_true, ne_eq, xite_t, xite_f, B127_0, C124 _ _ _ e5 hz, h3, e4]
          unfold nar
          have hc : (S.2.2 e).2.2.2.1 = 0 ∨ (S.2.2 e).2.2.2.1 = 1 ∨ (S.2.2 e).2.2.2.1 = 2 := by omega
          rcases hc with hc | hc | hc <;> rw [hc] <;> simp (disch := omega) only [n_cl, n_lt, n_le, n_eq, n_lt0, n_0lt, n_le0, n_eq0, n_gneq, n_ngeq, n_ng0, n_nglt, n_glt, n_gle, n_ltg, n_leg, n_gg, n_ge0, n_add, n_mul, n_rem, n_shl1, n_and, n_or, n_bit, n_not, n_not', n_B1, n_B0, n_BB, obind, xite_T, xite_F, xite_not, xite_same, oI_s, oI_n, Bool.false_eq_true, reduceCtorEq, eq_self, Classical.not_not, bI_T, bI_Fa, bI_0, bI_n0, bI_x, xb_0, xb_1, xite_bI, xite_bI', not_true_eq_false, not_false_eq_true, Nat.zero_add, Nat.add_zero, Nat.mul_zero, Nat.mul_one, Nat.one_mul, reduceIte, Nat.reduceEqDiff, Nat.reduceAdd, Nat.reduceMul, Nat.reduceSub, Nat.reduceLT, Nat.reduceLeDiff, Nat.reducePow, ite_true, ite_false, if_true, if_false, and_true, true_and, false_and, and_false, or_false, false_or, true_or, or_true, ne_eq, xite_t, xite_f, ]
        · have hH : xH 0 (Ssh e) σ (wI σ 15 e i.toNatClampNeg (nar (S.2.2 e).2.2.2.1 w)) := xH_wI (xH_refl σ) _ (by unfold Ssh; omega) (by omega)
          obtain ⟨e1, e2, e3, e4, e5, e6⟩ := h.2.2.2 e he
          refine CI_sh h hH ⟨e1, ?_, fun h => ?_, ?_, ?_, fun j hj => ?_⟩
          · simp (disch := omega) only [n_cl, n_lt, n_le, n_eq, n_lt0, n_0lt, n_le0, n_eq0, n_gneq, n_ngeq, n_ng0, n_nglt, n_glt, n_gle, n_ltg, n_leg, n_gg, n_ge0, n_add, n_mul, n_rem, n_shl1, n_and, n_or, n_bit, n_not, n_not', n_B1, n_B0, n_BB, obind, xite_T, xite_F, xite_not, xite_same, oI_s, oI_n, Bool.false_eq_true, reduceCtorEq, eq_self, Classical.not_not, bI_T, bI_Fa, bI_0, bI_n0, bI_x, xb_0, xb_1, xite_bI, xite_bI', not_true_eq_false, not_false_eq_true, Nat.zero_add, Nat.add_zero, Nat.mul_zero, Nat.mul_one, Nat.one_mul, reduceIte, Nat.reduceEqDiff, Nat.reduceAdd, Nat.reduceMul, Nat.reduceSub, Nat.reduceLT, Nat.reduceLeDiff, Nat.reducePow, ite_true, ite_false, if_true, if_false, and_true, true_and, false_and, and_false, or_false, false_or, true_or, or_true, ne_eq, xite_t, xite_f, w_I2, w_Is, w_In, w_IL, w_IP, w_IC, w_LI, w_LP, w_LC, w_PI, w_PL, w_PC]; exact e2
          · have h : (S.2.2 e).1 = 1 := h
            omega
          · simp (disch := omega) only [n_cl, n_lt, n_le, n_eq, n_lt0, n_0lt, n_le0, n_eq0, n_gneq, n_ngeq, n_ng0, n_nglt, n_glt, n_gle, n_ltg, n_leg, n_gg, n_ge0, n_add, n_mul, n_rem, n_shl1, n_and, n_or, n_bit, n_not, n_not', n_B1, n_B0, n_BB, obind, xite_T, xite_F, xite_not, xite_same, oI_s, oI_n, Bool.false_eq_true, reduceCtorEq, eq_self, Classical.not_not, bI_T, bI_Fa, bI_0, bI_n0, bI_x, xb_0, xb_1, xite_bI, xite_bI', not_true_eq_false, not_false_eq_true, Nat.zero_add, Nat.add_zero, Nat.mul_zero, Nat.mul_one, Nat.one_mul, reduceIte, Nat.reduceEqDiff, Nat.reduceAdd, Nat.reduceMul, Nat.reduceSub, Nat.reduceLT, Nat.reduceLeDiff, Nat.reducePow, ite_true, ite_false, if_true, if_false, and_true, true_and, false_and, and_false, or_false, false_or, true_or, or_true, ne_eq, xite_t, xite_f, w_I2, w_Is, w_In, w_IL, w_IP, w_IC, w_LI, w_LP, w_LC, w_PI, w_PL, w_PC]; exact e4
          · simp (disch := omega) only [n_cl, n_lt, n_le, n_eq, n_lt0, n_0lt, n_le0, n_eq0, n_gneq, n_ngeq, n_ng0, n_nglt, n_glt, n_gle, n_ltg, n_leg, n_gg, n_ge0, n_add, n_mul, n_rem, n_shl1, n_and, n_or, n_bit, n_not, n_not', n_B1, n_B0, n_BB, obind, xite_T, xite_F, xite_not, xite_same, oI_s, oI_n, Bool.false_eq_true, reduceCtorEq, eq_self, Classical.not_not, bI_T, bI_Fa, bI_0, bI_n0, bI_x, xb_0, xb_1, xite_bI, xite_bI', not_true_eq_false, not_false_eq_true, Nat.zero_add, Nat.add_zero, Nat.mul_zero, Nat.mul_one, Nat.one_mul, reduceIte, Nat.reduceEqDiff, Nat.reduceAdd, Nat.reduceMul, Nat.reduceSub, Nat.reduceLT, Nat.reduceLeDiff, Nat.reducePow, ite_true, ite_false, if_true, if_false, and_true, true_and, false_and, and_false, or_false, false_or, true_or, or_true, ne_eq, xite_t, xite_f, w_I2, w_Is, w_In, w_IL, w_IP, w_IC, w_LI, w_LP, w_LC, w_PI, w_PL, w_PC]; exact e5
          · rw [w_I1]
            show (if j = i.toNatClampNeg then _ else _) = (if j = i.toNatClampNeg then _ else _)
            split
            · rfl
            · exact e6 j hj
        · exact kC_le (kC_G (xH_wI (S := Ssh e) (xH_refl σ) _ (by unfold Ssh; omega) (by omega)) (Ssh_16 e)) (by omega)
        · obtain ⟨e1, e2, e3, e4, e5, e6⟩ := h.2.2.2 e he
          have hs := e1.2.2.1
          have hz := e1.2.2.2
          obtain ⟨k, hk, ek⟩ := inb_of h3 (by omega)
          subst ek
          show run (d + 60) (xentry 72 _ σ) = _
          rw [B72_0, M29 (p := 0 = 1) _ _ (h.2.2.2 e he) he (Or.inr ⟨by omega, rfl⟩)]
          simp (disch := omega) only [n_cl, n_lt, n_le, n_eq, n_lt0, n_0lt, n_le0, n_eq0, n_gneq, n_ngeq, n_ng0, n_nglt, n_glt, n_gle, n_ltg, n_leg, n_gg, n_ge0, n_add, n_mul, n_rem, n_shl1, n_and, n_or, n_bit, n_not, n_not', n_B1, n_B0, n_BB, obind, xite_T, xite_F, xite_not, xite_same, oI_s, oI_n, Bool.false_eq_true, reduceCtorEq, eq_self, Classical.not_not, bI_T, bI_Fa, bI_0, bI_n0, bI_x, xb_0, xb_1, xite_bI, xite_bI', not_true_eq_false, not_false_eq_true, Nat.zero_add, Nat.add_zero, Nat.mul_zero, Nat.mul_one, Nat.one_mul, reduceIte, Nat.reduceEqDiff, Nat.reduceAdd, Nat.reduceMul, Nat.reduceSub, Nat.reduceLT, Nat.reduceLeDiff, Nat.reducePow, ite_true, ite_false, if_true, if_false, and_true, true_and, false_and, and_false, or_false, false_or, true_or, or_true, ne_eq, rrI_0, h2]
          rw [xite_t (by simp)]
          simp (disch := omega) only [n_cl, n_lt, n_le, n_eq, n_lt0, n_0lt, n_le0, n_eq0, n_gneq, n_ngeq, n_ng0, n_nglt, n_glt, n_gle, n_ltg, n_leg, n_gg, n_ge0, n_add, n_mul, n_rem, n_shl1, n_and, n_or, n_bit, n_not, n_not', n_B1, n_B0, n_BB, obind, xite_T, xite_F, xite_not, xite_same, oI_s, oI_n, Bool.false_eq_true, reduceCtorEq, eq_self, Classical.not_not, bI_T, bI_Fa, bI_0, bI_n0, bI_x, xb_0, xb_1, xite_bI, xite_bI', not_true_eq_false, not_false_eq_true, Nat.zero_add, Nat.add_zero, Nat.mul_zero, Nat.mul_one, Nat.one_mul, reduceIte, Nat.reduceEqDiff, Nat.reduceAdd, Nat.reduceMul, Nat.reduceSub, Nat.reduceLT, Nat.reduceLeDiff, Nat.reducePow, ite_true, ite_false, if_true, if_false, and_true, true_and, false_and, and_false, or_false, false_or, true_or, or_true, ne_eq, xite_t, xite_f, e5]
          rw [M1r _ _ _ _ _ (n_pred (by omega))]
          simp (disch := omega) only [n_cl, n_lt, n_le, n_eq, n_lt0, n_0lt, n_le0, n_eq0, n_gneq, n_ngeq, n_ng0, n_nglt, n_glt, n_gle, n_ltg, n_leg, n_gg, n_ge0, n_add, n_mul, n_rem, n_shl1, n_and, n_or, n_bit, n_not, n_not', n_B1, n_B0, n_BB, obind, xite_T, xite_F, xite_not, xite_same, oI_s, oI_n, Bool.false_eq_true, reduceCtorEq, eq_self, Classical.not_not, bI_T, bI_Fa, bI_0, bI_n0, bI_x, xb_0, xb_1, xite_bI, xite_bI', not_true_eq_false, not_false_eq_true, Nat.zero_add, Nat.add_zero, Nat.mul_zero, Nat.mul_one, Nat.one_mul, reduceIte, Nat.reduceEqDiff, Nat.reduceAdd, Nat.reduceMul, Nat.reduceSub, Nat.reduceLT, Nat.reduceLeDiff, Nat.reducePow, ite_true, ite_false, if_true, if_false, and_true, true_and, false_and, and_false, or_false, false_or, true_or, or_true, ne_eq, xite_t, xite_f, h3, e4]
          unfold nar
          have hc : (S.2.2 e).2.2.2.1 = 0 ∨ (S.2.2 e).2.2.2.1 = 1 ∨ (S.2.2 e).2.2.2.1 = 2 := by omega
          rcases hc with hc | hc | hc <;> rw [hc] <;> simp (disch := omega) only [n_cl, n_lt, n_le, n_eq, n_lt0, n_0lt, n_le0, n_eq0, n_gneq, n_ngeq, n_ng0, n_nglt, n_glt, n_gle, n_ltg, n_leg, n_gg, n_ge0, n_add, n_mul, n_rem, n_shl1, n_and, n_or, n_bit, n_not, n_not', n_B1, n_B0, n_BB, obind, xite_T, xite_F, xite_not, xite_same, oI_s, oI_n, Bool.false_eq_true, reduceCtorEq, eq_self, Classical.not_not, bI_T, bI_Fa, bI_0, bI_n0, bI_x, xb_0, xb_1, xite_bI, xite_bI', not_true_eq_false, not_false_eq_true, Nat.zero_add, Nat.add_zero, Nat.mul_zero, Nat.mul_one, Nat.one_mul, reduceIte, Nat.reduceEqDiff, Nat.reduceAdd, Nat.reduceMul, Nat.reduceSub, Nat.reduceLT, Nat.reduceLeDiff, Nat.reducePow, ite_true, ite_false, if_true, if_false, and_true, true_and, false_and, and_false, or_false, false_or, true_or, or_true, ne_eq, xite_t, xite_f, ]
        · obtain ⟨e1, e2, e3, e4, e5, e6⟩ := h.2.2.2 e he
          have hz := e1.2.2.2
          obtain ⟨k, hk, ek⟩ := inb_of h3 (by omega)
          have hk2 : i.toNatClampNeg = k := by rw [ek, n_cl (by omega)]
          have hF : xF (Smh e) σ (wI σ 25 0 (100 * e + i.toNatClampNeg) (nar (S.2.2 e).2.2.2.1 w)) := xF_wI (xF_refl σ) _ (by unfold Smh; omega)
          refine MI_sh h hF ⟨e1, ?_, fun h => ?_, ?_, ?_, fun j hj => ?_⟩
          · simp (disch := omega) only [n_cl, n_lt, n_le, n_eq, n_lt0, n_0lt, n_le0, n_eq0, n_gneq, n_ngeq, n_ng0, n_nglt, n_glt, n_gle, n_ltg, n_leg, n_gg, n_ge0, n_add, n_mul, n_rem, n_shl1, n_and, n_or, n_bit, n_not, n_not', n_B1, n_B0, n_BB, obind, xite_T, xite_F, xite_not, xite_same, oI_s, oI_n, Bool.false_eq_true, reduceCtorEq, eq_self, Classical.not_not, bI_T, bI_Fa, bI_0, bI_n0, bI_x, xb_0, xb_1, xite_bI, xite_bI', not_true_eq_false, not_false_eq_true, Nat.zero_add, Nat.add_zero, Nat.mul_zero, Nat.mul_one, Nat.one_mul, reduceIte, Nat.reduceEqDiff, Nat.reduceAdd, Nat.reduceMul, Nat.reduceSub, Nat.reduceLT, Nat.reduceLeDiff, Nat.reducePow, ite_true, ite_false, if_true, if_false, and_true, true_and, false_and, and_false, or_false, false_or, true_or, or_true, ne_eq, xite_t, xite_f, w_I2, w_Is, w_In, w_IL, w_IP, w_IC, w_LI, w_LP, w_LC, w_PI, w_PL, w_PC]; exact e2
          · have h : (S.2.2 e).1 = 1 := h
            omega
          · simp (disch := omega) only [n_cl, n_lt, n_le, n_eq, n_lt0, n_0lt, n_le0, n_eq0, n_gneq, n_ngeq, n_ng0, n_nglt, n_glt, n_gle, n_ltg, n_leg, n_gg, n_ge0, n_add, n_mul, n_rem, n_shl1, n_and, n_or, n_bit, n_not, n_not', n_B1, n_B0, n_BB, obind, xite_T, xite_F, xite_not, xite_same, oI_s, oI_n, Bool.false_eq_true, reduceCtorEq, eq_self, Classical.not_not, bI_T, bI_Fa, bI_0, bI_n0, bI_x, xb_0, xb_1, xite_bI, xite_bI', not_true_eq_false, not_false_eq_true, Nat.zero_add, Nat.add_zero, Nat.mul_zero, Nat.mul_one, Nat.one_mul, reduceIte, Nat.reduceEqDiff, Nat.reduceAdd, Nat.reduceMul, Nat.reduceSub, Nat.reduceLT, Nat.reduceLeDiff, Nat.reducePow, ite_true, ite_false, if_true, if_false, and_true, true_and, false_and, and_false, or_false, false_or, true_or, or_true, ne_eq, xite_t, xite_f, w_I2, w_Is, w_In, w_IL, w_IP, w_IC, w_LI, w_LP, w_LC, w_PI, w_PL, w_PC]; exact e4
          · simp (disch := omega) only [n_cl, n_lt, n_le, n_eq, n_lt0, n_0lt, n_le0, n_eq0, n_gneq, n_ngeq, n_ng0, n_nglt, n_glt, n_gle, n_ltg, n_leg, n_gg, n_ge0, n_add, n_mul, n_rem, n_shl1, n_and, n_or, n_bit, n_not, n_not', n_B1, n_B0, n_BB, obind, xite_T, xite_F, xite_not, xite_same, oI_s, oI_n, Bool.false_eq_true, reduceCtorEq, eq_self, Classical.not_not, bI_T, bI_Fa, bI_0, bI_n0, bI_x, xb_0, xb_1, xite_bI, xite_bI', not_true_eq_false, not_false_eq_true, Nat.zero_add, Nat.add_zero, Nat.mul_zero, Nat.mul_one, Nat.one_mul, reduceIte, Nat.reduceEqDiff, Nat.reduceAdd, Nat.reduceMul, Nat.reduceSub, Nat.reduceLT, Nat.reduceLeDiff, Nat.reducePow, ite_true, ite_false, if_true, if_false, and_true, true_and, false_and, and_false, or_false, false_or, true_or, or_true, ne_eq, xite_t, xite_f, w_I2, w_Is, w_In, w_IL, w_IP, w_IC, w_LI, w_LP, w_LC, w_PI, w_PL, w_PC]; exact e5
          · rw [w_I1]
            show (if 100 * e + j = 100 * e + i.toNatClampNeg then _ else _) = (if j = i.toNatClampNeg then _ else _)
            by_cases hj2 : j = i.toNatClampNeg
            · rw [if_pos (by omega), if_pos hj2]
            · rw [if_neg (by omega), if_neg hj2]
              exact e6 j hj
        · obtain ⟨e1, e2, e3, e4, e5, e6⟩ := h.2.2.2 e he
          have hz := e1.2.2.2
          obtain ⟨k, hk, ek⟩ := inb_of h3 (by omega)
          have hk2 : i.toNatClampNeg = k := by rw [ek, n_cl (by omega)]
          exact kM_sh (d := e) (xF_wI (xF_refl σ) _ (by unfold Smh; omega))
      · refine duo_bad (-nI 13) (fun σ h => ?_) (fun σ h => ?_)
        · obtain ⟨e1, e2, e3, e4, e5, e6⟩ := h.2.2.2 e he
          rw [B163_0, C171 _ _ (h.2.2.2 e he) he (by omega)]
          simp (disch := omega) only [n_cl, n_lt, n_le, n_eq, n_lt0, n_0lt, n_le0, n_eq0, n_gneq, n_ngeq, n_ng0, n_nglt, n_glt, n_gle, n_ltg, n_leg, n_gg, n_ge0, n_add, n_mul, n_rem, n_shl1, n_and, n_or, n_bit, n_not, n_not', n_B1, n_B0, n_BB, obind, xite_T, xite_F, xite_not, xite_same, oI_s, oI_n, Bool.false_eq_true, reduceCtorEq, eq_self, Classical.not_not, bI_T, bI_Fa, bI_0, bI_n0, bI_x, xb_0, xb_1, xite_bI, xite_bI', not_true_eq_false, not_false_eq_true, Nat.zero_add, Nat.add_zero, Nat.mul_zero, Nat.mul_one, Nat.one_mul, reduceIte, Nat.reduceEqDiff, Nat.reduceAdd, Nat.reduceMul, Nat.reduceSub, Nat.reduceLT, Nat.reduceLeDiff, Nat.reducePow, ite_true, ite_false, if_true, if_false, and_true, true_and, false_and, and_false, or_false, false_or, true_or, or_true, ne_eq, rrI_0, h2]
          rw [xite_t (by simp)]
          simp (disch := omega) only [n_cl, n_lt, n_le, n_eq, n_lt0, n_0lt, n_le0, n_eq0, n_gneq, n_ngeq, n_ng0, n_nglt, n_glt, n_gle, n_ltg, n_leg, n_gg, n_ge0, n_add, n_mul, n_rem, n_shl1, n_and, n_or, n_bit, n_not, n_not', n_B1, n_B0, n_BB, obind, xite_T, xite_F, xite_not, xite_same, oI_s, oI_n, Bool.false_eq_true, reduceCtorEq, eq_self, Classical.not_not, bI_T, bI_Fa, bI_0, bI_n0, bI_x, xb_0, xb_1, xite_bI, xite_bI', not_true_eq_false, not_false_eq_true, Nat.zero_add, Nat.add_zero, Nat.mul_zero, Nat.mul_one, Nat.one_mul, reduceIte, Nat.reduceEqDiff, Nat.reduceAdd, Nat.reduceMul, Nat.reduceSub, Nat.reduceLT, Nat.reduceLeDiff, Nat.reducePow, ite_true, ite_false, if_true, if_false, and_true, true_and, false_and, and_false, or_false, false_or, true_or, or_true, ne_eq, xite_t, xite_f, B127_0, C124 _ _ _ e5 e1.2.2.2, h3]
        · obtain ⟨e1, e2, e3, e4, e5, e6⟩ := h.2.2.2 e he
          have hz := e1.2.2.2
          rw [B72_0, M29 (p := 0 = 1) _ _ (h.2.2.2 e he) he (Or.inr ⟨by omega, rfl⟩)]
          simp (disch := omega) only [n_cl, n_lt, n_le, n_eq, n_lt0, n_0lt, n_le0, n_eq0, n_gneq, n_ngeq, n_ng0, n_nglt, n_glt, n_gle, n_ltg, n_leg, n_gg, n_ge0, n_add, n_mul, n_rem, n_shl1, n_and, n_or, n_bit, n_not, n_not', n_B1, n_B0, n_BB, obind, xite_T, xite_F, xite_not, xite_same, oI_s, oI_n, Bool.false_eq_true, reduceCtorEq, eq_self, Classical.not_not, bI_T, bI_Fa, bI_0, bI_n0, bI_x, xb_0, xb_1, xite_bI, xite_bI', not_true_eq_false, not_false_eq_true, Nat.zero_add, Nat.add_zero, Nat.mul_zero, Nat.mul_one, Nat.one_mul, reduceIte, Nat.reduceEqDiff, Nat.reduceAdd, Nat.reduceMul, Nat.reduceSub, Nat.reduceLT, Nat.reduceLeDiff, Nat.reducePow, ite_true, ite_false, if_true, if_false, and_true, true_and, false_and, and_false, or_false, false_or, true_or, or_true, ne_eq, rrI_0, h2]
          rw [xite_t (by simp)]
          simp (disch := omega) only [n_cl, n_lt, n_le, n_eq, n_lt0, n_0lt, n_le0, n_eq0, n_gneq, n_ngeq, n_ng0, n_nglt, n_glt, n_gle, n_ltg, n_leg, n_gg, n_ge0, n_add, n_mul, n_rem, n_shl1, n_and, n_or, n_bit, n_not, n_not', n_B1, n_B0, n_BB, obind, xite_T, xite_F, xite_not, xite_same, oI_s, oI_n, Bool.false_eq_true, reduceCtorEq, eq_self, Classical.not_not, bI_T, bI_Fa, bI_0, bI_n0, bI_x, xb_0, xb_1, xite_bI, xite_bI', not_true_eq_false, not_false_eq_true, Nat.zero_add, Nat.add_zero, Nat.mul_zero, Nat.mul_one, Nat.one_mul, reduceIte, Nat.reduceEqDiff, Nat.reduceAdd, Nat.reduceMul, Nat.reduceSub, Nat.reduceLT, Nat.reduceLeDiff, Nat.reducePow, ite_true, ite_false, if_true, if_false, and_true, true_and, false_and, and_false, or_false, false_or, true_or, or_true, ne_eq, xite_t, xite_f, e5]
          rw [M1r _ _ _ _ _ (n_pred (by omega))]
          simp (disch := omega) only [n_cl, n_lt, n_le, n_eq, n_lt0, n_0lt, n_le0, n_eq0, n_gneq, n_ngeq, n_ng0, n_nglt, n_glt, n_gle, n_ltg, n_leg, n_gg, n_ge0, n_add, n_mul, n_rem, n_shl1, n_and, n_or, n_bit, n_not, n_not', n_B1, n_B0, n_BB, obind, xite_T, xite_F, xite_not, xite_same, oI_s, oI_n, Bool.false_eq_true, reduceCtorEq, eq_self, Classical.not_not, bI_T, bI_Fa, bI_0, bI_n0, bI_x, xb_0, xb_1, xite_bI, xite_bI', not_true_eq_false, not_false_eq_true, Nat.zero_add, Nat.add_zero, Nat.mul_zero, Nat.mul_one, Nat.one_mul, reduceIte, Nat.reduceEqDiff, Nat.reduceAdd, Nat.reduceMul, Nat.reduceSub, Nat.reduceLT, Nat.reduceLeDiff, Nat.reducePow, ite_true, ite_false, if_true, if_false, and_true, true_and, false_and, and_false, or_false, false_or, true_or, or_true, ne_eq, xite_t, xite_f, h3]
    · refine duo_bad (rrI (S.2.2 e) (0 = 1)) (fun σ h => ?_) (fun σ h => ?_)
      · rw [B163_0, C171 _ _ (h.2.2.2 e he) he (by omega)]
        simp (disch := omega) only [n_cl, n_lt, n_le, n_eq, n_lt0, n_0lt, n_le0, n_eq0, n_gneq, n_ngeq, n_ng0, n_nglt, n_glt, n_gle, n_ltg, n_leg, n_gg, n_ge0, n_add, n_mul, n_rem, n_shl1, n_and, n_or, n_bit, n_not, n_not', n_B1, n_B0, n_BB, obind, xite_T, xite_F, xite_not, xite_same, oI_s, oI_n, Bool.false_eq_true, reduceCtorEq, eq_self, Classical.not_not, bI_T, bI_Fa, bI_0, bI_n0, bI_x, xb_0, xb_1, xite_bI, xite_bI', not_true_eq_false, not_false_eq_true, Nat.zero_add, Nat.add_zero, Nat.mul_zero, Nat.mul_one, Nat.one_mul, reduceIte, Nat.reduceEqDiff, Nat.reduceAdd, Nat.reduceMul, Nat.reduceSub, Nat.reduceLT, Nat.reduceLeDiff, Nat.reducePow, ite_true, ite_false, if_true, if_false, and_true, true_and, false_and, and_false, or_false, false_or, true_or, or_true, ne_eq, rrI_0, h2]
      · rw [B72_0, M29 (p := 0 = 1) _ _ (h.2.2.2 e he) he (Or.inr ⟨by omega, rfl⟩)]
        simp (disch := omega) only [n_cl, n_lt, n_le, n_eq, n_lt0, n_0lt, n_le0, n_eq0, n_gneq, n_ngeq, n_ng0, n_nglt, n_glt, n_gle, n_ltg, n_leg, n_gg, n_ge0, n_add, n_mul, n_rem, n_shl1, n_and, n_or, n_bit, n_not, n_not', n_B1, n_B0, n_BB, obind, xite_T, xite_F, xite_not, xite_same, oI_s, oI_n, Bool.false_eq_true, reduceCtorEq, eq_self, Classical.not_not, bI_T, bI_Fa, bI_0, bI_n0, bI_x, xb_0, xb_1, xite_bI, xite_bI', not_true_eq_false, not_false_eq_true, Nat.zero_add, Nat.add_zero, Nat.mul_zero, Nat.mul_one, Nat.one_mul, reduceIte, Nat.reduceEqDiff, Nat.reduceAdd, Nat.reduceMul, Nat.reduceSub, Nat.reduceLT, Nat.reduceLeDiff, Nat.reducePow, ite_true, ite_false, if_true, if_false, and_true, true_and, false_and, and_false, or_false, false_or, true_or, or_true, ne_eq, rrI_0, h2]
  · refine duo_bad (-nI 1) (fun σ h => ?_) (fun σ h => ?_)
    · rw [B163_0, C171_f _ _ h1]
      simp (disch := omega) only [n_cl, n_lt, n_le, n_eq, n_lt0, n_0lt, n_le0, n_eq0, n_gneq, n_ngeq, n_ng0, n_nglt, n_glt, n_gle, n_ltg, n_leg, n_gg, n_ge0, n_add, n_mul, n_rem, n_shl1, n_and, n_or, n_bit, n_not, n_not', n_B1, n_B0, n_BB, obind, xite_T, xite_F, xite_not, xite_same, oI_s, oI_n, Bool.false_eq_true, reduceCtorEq, eq_self, Classical.not_not, bI_T, bI_Fa, bI_0, bI_n0, bI_x, xb_0, xb_1, xite_bI, xite_bI', not_true_eq_false, not_false_eq_true, Nat.zero_add, Nat.add_zero, Nat.mul_zero, Nat.mul_one, Nat.one_mul, reduceIte, Nat.reduceEqDiff, Nat.reduceAdd, Nat.reduceMul, Nat.reduceSub, Nat.reduceLT, Nat.reduceLeDiff, Nat.reducePow, ite_true, ite_false, if_true, if_false, and_true, true_and, false_and, and_false, or_false, false_or, true_or, or_true, ne_eq, ]
    · rw [B72_0, M29_f _ _ h1]
      simp (disch := omega) only [n_cl, n_lt, n_le, n_eq, n_lt0, n_0lt, n_le0, n_eq0, n_gneq, n_ngeq, n_ng0, n_nglt, n_glt, n_gle, n_ltg, n_leg, n_gg, n_ge0, n_add, n_mul, n_rem, n_shl1, n_and, n_or, n_bit, n_not, n_not', n_B1, n_B0, n_BB, obind, xite_T, xite_F, xite_not, xite_same, oI_s, oI_n, Bool.false_eq_true, reduceCtorEq, eq_self, Classical.not_not, bI_T, bI_Fa, bI_0, bI_n0, bI_x, xb_0, xb_1, xite_bI, xite_bI', not_true_eq_false, not_false_eq_true, Nat.zero_add, Nat.add_zero, Nat.mul_zero, Nat.mul_one, Nat.one_mul, reduceIte, Nat.reduceEqDiff, Nat.reduceAdd, Nat.reduceMul, Nat.reduceSub, Nat.reduceLT, Nat.reduceLeDiff, Nat.reducePow, ite_true, ite_false, if_true, if_false, and_true, true_and, false_and, and_false, or_false, false_or, true_or, or_true, ne_eq, ]
def strch (i n : Int32) (s : Nat) : Prop := 0 ≤ i.toInt ∧ 0 ≤ n.toInt ∧ i.toInt + n.toInt ≤ s
theorem C125 (d : Nat) (σ : xS) {e s : Nat} (i n : Int32) (hs : rI σ 14 e 2 = nI s) (hn : s ≤ 100) : run (d + 1) (xentry 125 [.inr (.inr (14, (some e))), .inl i, .inl n] σ) = some ((bI (strch i n s), 0, none), σ) := by
  rw [B125_0, hs]
  by_cases h1 : i < 0
  · rw [xite_t h1, bI_f, xb_0]
    intro h
    rw [n_ltx] at h1
    have h1 : i.toInt < 0 := h1
    have := h.1
    omega
  · by_cases h2 : n < 0
    · rw [xite_f h1, xite_t h2, bI_f, xb_0]
      intro h
      rw [n_ltx] at h2
      have h2 : n.toInt < 0 := h2
      have := h.2.1
      omega
    · obtain ⟨i', hi, ei⟩ := nI_of h1
      obtain ⟨n', hn', en⟩ := nI_of h2
      subst ei en
      rw [xite_f h1, xite_f h2]
      unfold strch
      rw [n_toInt (by omega), n_toInt (by omega), n_lt (by omega) (by omega)]
      by_cases h3 : s < n'
      · rw [xite_t h3, bI_f (by omega), xb_0]
      · rw [xite_f h3, n_sub (by omega), n_lt (by omega) (by omega)]
        by_cases h4 : s - n' < i'
        · rw [xite_t h4, bI_f (by omega), xb_0]
        · rw [xite_f h4, bI_t (by omega), xb_1]
theorem n_subx {a b : Nat} (ha : a ≤ 100) (hb : b < 2147483648) : (nI a - nI b).toInt = (a : Int) - b := by
  rw [Int32.toInt_sub, n_toInt (by omega), n_toInt hb]
  exact Int.bmod_eq_of_le (by omega) (by omega)
/-- the copied row -/
def cpy (f g : Nat → Int32) (i j n : Nat) : Nat → Int32 := fun t => if j ≤ t ∧ t < j + n then f (i + (t - j)) else g t
theorem M74a (dd : Nat) (f : Nat → Int32) {d e i j n : Nat} (hd : d < 8) (he : e < 8) (hi : i + n ≤ 100) (hj : j + n ≤ 100) (hij : j < i) : ∀ (m k : Nat) (σ : xS), k + m = n → (∀ x, rI σ 25 0 x = if 100 * e + j ≤ x ∧ x < 100 * e + j + k then f (100 * d + i + (x - (100 * e + j))) else f x) →
    ∃ σ', run (dd + 1) (74, 122, [some (.inr (.inr (17, (some 0)))), some (.inl (nI (d))), some (.inl (nI (i))), some (.inl (nI (e))), some (.inl (nI (j))), some (.inl (nI (n))), some (.inl (nI (k))), none], [], σ) = some ((nI n, 0, none), σ') ∧ (∀ x, rI σ' 25 0 x = if 100 * e + j ≤ x ∧ x < 100 * e + j + n then f (100 * d + i + (x - (100 * e + j))) else f x) ∧ xF (fun r _ k => r = 25 ∧ 100 * e ≤ k ∧ k < 100 * e + 100) σ σ' := by
  intro m
  induction m with
  | zero =>
    intro k σ hk h
    have ek : k = n := by omega
    subst ek
    refine ⟨σ, ?_, h, xF_refl σ⟩
    rw [B74_122]
    simp (disch := omega) only [n_cl, n_lt, n_le, n_eq, n_lt0, n_0lt, n_le0, n_eq0, n_gneq, n_ngeq, n_ng0, n_nglt, n_glt, n_gle, n_ltg, n_leg, n_gg, n_ge0, n_add, n_mul, n_rem, n_shl1, n_and, n_or, n_bit, n_not, n_not', n_B1, n_B0, n_BB, obind, xite_T, xite_F, xite_not, xite_same, oI_s, oI_n, Bool.false_eq_true, reduceCtorEq, eq_self, Classical.not_not, bI_T, bI_Fa, bI_0, bI_n0, bI_x, xb_0, xb_1, xite_bI, xite_bI', not_true_eq_false, not_false_eq_true, Nat.zero_add, Nat.add_zero, Nat.mul_zero, Nat.mul_one, Nat.one_mul, reduceIte, Nat.reduceEqDiff, Nat.reduceAdd, Nat.reduceMul, Nat.reduceSub, Nat.reduceLT, Nat.reduceLeDiff, Nat.reducePow, ite_true, ite_false, if_true, if_false, and_true, true_and, false_and, and_false, or_false, false_or, true_or, or_true, ne_eq, xite_t, xite_f, ]
  | succ m ih =>
    intro k σ hk h
    have hr : rI σ 25 0 (100 * d + i + k) = f (100 * d + i + k) := by
      rw [h, if_neg]
      by_cases hde : d = e
      · subst hde; omega
      · omega
    obtain ⟨σ', f1, f2, f3⟩ := ih (k + 1) (wI σ 25 0 (100 * e + j + k) (f (100 * d + i + k))) (by omega) (by
      intro x
      rw [w_I1]
      show (if x = 100 * e + j + k then f (100 * d + i + k) else rI σ 25 0 x) = _
      by_cases hx : x = 100 * e + j + k
      · rw [if_pos hx, if_pos (by omega), hx]
        congr 1
        omega
      · rw [if_neg hx, h]
        by_cases hx2 : 100 * e + j ≤ x ∧ x < 100 * e + j + k
        · rw [if_pos hx2, if_pos (by omega)]
        · rw [if_neg hx2, if_neg (by omega)])
    refine ⟨σ', ?_, f2, xF_trans (xF_wI (xF_refl σ) _ (by omega)) f3⟩
    rw [B74_122]
    simp (disch := omega) only [n_cl, n_lt, n_le, n_eq, n_lt0, n_0lt, n_le0, n_eq0, n_gneq, n_ngeq, n_ng0, n_nglt, n_glt, n_gle, n_ltg, n_leg, n_gg, n_ge0, n_add, n_mul, n_rem, n_shl1, n_and, n_or, n_bit, n_not, n_not', n_B1, n_B0, n_BB, obind, xite_T, xite_F, xite_not, xite_same, oI_s, oI_n, Bool.false_eq_true, reduceCtorEq, eq_self, Classical.not_not, bI_T, bI_Fa, bI_0, bI_n0, bI_x, xb_0, xb_1, xite_bI, xite_bI', not_true_eq_false, not_false_eq_true, Nat.zero_add, Nat.add_zero, Nat.mul_zero, Nat.mul_one, Nat.one_mul, reduceIte, Nat.reduceEqDiff, Nat.reduceAdd, Nat.reduceMul, Nat.reduceSub, Nat.reduceLT, Nat.reduceLeDiff, Nat.reducePow, ite_true, ite_false, if_true, if_false, and_true, true_and, false_and, and_false, or_false, false_or, true_or, or_true, ne_eq, xite_t, xite_f, B74_147, hr]
    exact f1
theorem M74b (dd : Nat) (f : Nat → Int32) {d e i j n : Nat} (hd : d < 8) (he : e < 8) (hi : i + n ≤ 100) (hj : j + n ≤ 100) (hij : i ≤ j) : ∀ (m k : Nat) (σ : xS), k + m = n → (∀ x, rI σ 25 0 x = if 100 * e + j + m ≤ x ∧ x < 100 * e + j + n then f (100 * d + i + (x - (100 * e + j))) else f x) →
    ∃ σ', run (dd + 1) (74, 122, [some (.inr (.inr (17, (some 0)))), some (.inl (nI (d))), some (.inl (nI (i))), some (.inl (nI (e))), some (.inl (nI (j))), some (.inl (nI (n))), some (.inl (nI (k))), none], [], σ) = some ((nI n, 0, none), σ') ∧ (∀ x, rI σ' 25 0 x = if 100 * e + j ≤ x ∧ x < 100 * e + j + n then f (100 * d + i + (x - (100 * e + j))) else f x) ∧ xF (fun r _ k => r = 25 ∧ 100 * e ≤ k ∧ k < 100 * e + 100) σ σ' := by
  intro m
  induction m with
  | zero =>
    intro k σ hk h
    have ek : k = n := by omega
    subst ek
    refine ⟨σ, ?_, h, xF_refl σ⟩
    rw [B74_122]
    simp (disch := omega) only [n_cl, n_lt, n_le, n_eq, n_lt0, n_0lt, n_le0, n_eq0, n_gneq, n_ngeq, n_ng0, n_nglt, n_glt, n_gle, n_ltg, n_leg, n_gg, n_ge0, n_add, n_mul, n_rem, n_shl1, n_and, n_or, n_bit, n_not, n_not', n_B1, n_B0, n_BB, obind, xite_T, xite_F, xite_not, xite_same, oI_s, oI_n, Bool.false_eq_true, reduceCtorEq, eq_self, Classical.not_not, bI_T, bI_Fa, bI_0, bI_n0, bI_x, xb_0, xb_1, xite_bI, xite_bI', not_true_eq_false, not_false_eq_true, Nat.zero_add, Nat.add_zero, Nat.mul_zero, Nat.mul_one, Nat.one_mul, reduceIte, Nat.reduceEqDiff, Nat.reduceAdd, Nat.reduceMul, Nat.reduceSub, Nat.reduceLT, Nat.reduceLeDiff, Nat.reducePow, ite_true, ite_false, if_true, if_false, and_true, true_and, false_and, and_false, or_false, false_or, true_or, or_true, ne_eq, xite_t, xite_f, ]
  | succ m ih =>
    intro k σ hk h
    have hr : rI σ 25 0 (100 * d + i + m) = f (100 * d + i + m) := by
      rw [h, if_neg]
      by_cases hde : d = e
      · subst hde; omega
      · omega
    obtain ⟨σ', f1, f2, f3⟩ := ih (k + 1) (wI σ 25 0 (100 * e + j + m) (f (100 * d + i + m))) (by omega) (by
      intro x
      rw [w_I1]
      show (if x = 100 * e + j + m then f (100 * d + i + m) else rI σ 25 0 x) = _
      by_cases hx : x = 100 * e + j + m
      · rw [if_pos hx, if_pos (by omega), hx]
        congr 1
        omega
      · rw [if_neg hx, h]
        by_cases hx2 : 100 * e + j + (m + 1) ≤ x ∧ x < 100 * e + j + n
        · rw [if_pos hx2, if_pos (by omega)]
        · rw [if_neg hx2, if_neg (by omega)])
    refine ⟨σ', ?_, f2, xF_trans (xF_wI (xF_refl σ) _ (by omega)) f3⟩
    have es : nI n - nI 1 - nI k = nI m := by
      rw [n_sub (by omega), n_sub (by omega)]
      congr 1
      omega
    rw [B74_122]
    simp (disch := omega) only [n_cl, n_lt, n_le, n_eq, n_lt0, n_0lt, n_le0, n_eq0, n_gneq, n_ngeq, n_ng0, n_nglt, n_glt, n_gle, n_ltg, n_leg, n_gg, n_ge0, n_add, n_mul, n_rem, n_shl1, n_and, n_or, n_bit, n_not, n_not', n_B1, n_B0, n_BB, obind, xite_T, xite_F, xite_not, xite_same, oI_s, oI_n, Bool.false_eq_true, reduceCtorEq, eq_self, Classical.not_not, bI_T, bI_Fa, bI_0, bI_n0, bI_x, xb_0, xb_1, xite_bI, xite_bI', not_true_eq_false, not_false_eq_true, Nat.zero_add, Nat.add_zero, Nat.mul_zero, Nat.mul_one, Nat.one_mul, reduceIte, Nat.reduceEqDiff, Nat.reduceAdd, Nat.reduceMul, Nat.reduceSub, Nat.reduceLT, Nat.reduceLeDiff, Nat.reducePow, ite_true, ite_false, if_true, if_false, and_true, true_and, false_and, and_false, or_false, false_or, true_or, or_true, ne_eq, xite_t, xite_f, B74_147, hr, es]
    exact f1
theorem duo_copy (d : Nat) (S : mG) (v i w j n : Int32) : Duo (d + 60) (fun σ => xentry 164 [.inr (.inr (0, (some 0))), .inl v, .inl i, .inl w, .inl j, .inl n] σ) (fun σ => xentry 74 [.inr (.inr (17, (some 0))), .inl v, .inl i, .inl w, .inl j, .inl n] σ) S := by
  by_cases h1 : inb v 8
  · by_cases h2 : inb w 8
    · obtain ⟨a, ha, ea⟩ := inb_of h1 (by omega)
      obtain ⟨b, hb, eb⟩ := inb_of h2 (by omega)
      subst ea eb
      by_cases h3 : (S.2.2 a).1 = 0 ∨ (S.2.2 b).1 = 0
      · refine duo_bad (-nI 11) (fun σ h => ?_) (fun σ h => ?_)
        · have x1 := (h.2.2.2 a ha).2.1
          have x2 := (h.2.2.2 b hb).2.1
          have y1 := (h.2.2.2 a ha).1.1
          have y2 := (h.2.2.2 b hb).1.1
          rw [B164_0, C166 _ _ _ (by omega)]
          simp (disch := omega) only [n_cl, n_lt, n_le, n_eq, n_lt0, n_0lt, n_le0, n_eq0, n_gneq, n_ngeq, n_ng0, n_nglt, n_glt, n_gle, n_ltg, n_leg, n_gg, n_ge0, n_add, n_mul, n_rem, n_shl1, n_and, n_or, n_bit, n_not, n_not', n_B1, n_B0, n_BB, obind, xite_T, xite_F, xite_not, xite_same, oI_s, oI_n, Bool.false_eq_true, reduceCtorEq, eq_self, Classical.not_not, bI_T, bI_Fa, bI_0, bI_n0, bI_x, xb_0, xb_1, xite_bI, xite_bI', not_true_eq_false, not_false_eq_true, Nat.zero_add, Nat.add_zero, Nat.mul_zero, Nat.mul_one, Nat.one_mul, reduceIte, Nat.reduceEqDiff, Nat.reduceAdd, Nat.reduceMul, Nat.reduceSub, Nat.reduceLT, Nat.reduceLeDiff, Nat.reducePow, ite_true, ite_false, if_true, if_false, and_true, true_and, false_and, and_false, or_false, false_or, true_or, or_true, ne_eq, xite_t, xite_f, h1, h2, C166, x1, x2]
          by_cases q1 : (S.2.2 a).1 = 0
          · rw [xite_t q1]
          · rw [xite_f q1, xite_t (h3.resolve_left q1)]
        · have x1 := (h.2.2.2 a ha).2.1
          have x2 := (h.2.2.2 b hb).2.1
          have y1 := (h.2.2.2 a ha).1.1
          have y2 := (h.2.2.2 b hb).1.1
          rw [B74_0, M2]
          simp (disch := omega) only [n_cl, n_lt, n_le, n_eq, n_lt0, n_0lt, n_le0, n_eq0, n_gneq, n_ngeq, n_ng0, n_nglt, n_glt, n_gle, n_ltg, n_leg, n_gg, n_ge0, n_add, n_mul, n_rem, n_shl1, n_and, n_or, n_bit, n_not, n_not', n_B1, n_B0, n_BB, obind, xite_T, xite_F, xite_not, xite_same, oI_s, oI_n, Bool.false_eq_true, reduceCtorEq, eq_self, Classical.not_not, bI_T, bI_Fa, bI_0, bI_n0, bI_x, xb_0, xb_1, xite_bI, xite_bI', not_true_eq_false, not_false_eq_true, Nat.zero_add, Nat.add_zero, Nat.mul_zero, Nat.mul_one, Nat.one_mul, reduceIte, Nat.reduceEqDiff, Nat.reduceAdd, Nat.reduceMul, Nat.reduceSub, Nat.reduceLT, Nat.reduceLeDiff, Nat.reducePow, ite_true, ite_false, if_true, if_false, and_true, true_and, false_and, and_false, or_false, false_or, true_or, or_true, ne_eq, xite_t, xite_f, h1, h2, M2, x1, x2]
          by_cases q1 : (S.2.2 a).1 = 0
          · rw [xite_t q1]
          · rw [xite_f q1, xite_t (h3.resolve_left q1)]
      · by_cases h4 : (S.2.2 a).1 = 2 ∧ (S.2.2 b).1 = 2 ∧ (S.2.2 a).2.2.2.1 = (S.2.2 b).2.2.2.1
        · by_cases h5 : strch i n (S.2.2 a).2.2.2.2.1 ∧ strch j n (S.2.2 b).2.2.2.2.1
          · obtain ⟨i', _, ei⟩ := nI_of (x := i) (by rw [n_ltx]; exact Int.not_lt.mpr h5.1.1)
            obtain ⟨n', _, en⟩ := nI_of (x := n) (by rw [n_ltx]; exact Int.not_lt.mpr h5.1.2.1)
            obtain ⟨j', _, ej⟩ := nI_of (x := j) (by rw [n_ltx]; exact Int.not_lt.mpr h5.2.1)
            subst ei en ej
            have k5 := h5
            unfold strch at k5
            rw [n_toInt (by omega), n_toInt (by omega), n_toInt (by omega)] at k5
            refine ⟨nI n', (S.1, S.2.1, shU S.2.2 b ((S.2.2 b).1, (S.2.2 b).2.1, (S.2.2 b).2.2.1, (S.2.2 b).2.2.2.1, (S.2.2 b).2.2.2.2.1, cpy (S.2.2 a).2.2.2.2.2 (S.2.2 b).2.2.2.2.2 i' j' n')), fun σ h => ⟨wR σ 15 b (va_cpy (rI σ 15 a) (rI σ 15 b) i' j' n'), ?_, ?_, ?_⟩, fun σ h => ?_⟩
            · obtain ⟨a1, a2, a3, a4, a5, a6⟩ := h.2.2.2 a ha
              obtain ⟨b1, b2, b3, b4, b5, b6⟩ := h.2.2.2 b hb
              have z1 := a1.2.2.2
              have z2 := b1.2.2.2
              have y1 := a1.2.2.1
              have y2 := b1.2.2.1
              show run (d + 60) (xentry 164 _ σ) = _
              rw [B164_0, C166 _ _ _ (by omega)]
              simp (disch := omega) only [n_cl, n_lt, n_le, n_eq, n_lt0, n_0lt, n_le0, n_eq0, n_gneq, n_ngeq, n_ng0, n_nglt, n_glt, n_gle, n_ltg, n_leg, n_gg, n_ge0, n_add, n_mul, n_rem, n_shl1, n_and, n_or, n_bit, n_not, n_not', n_B1, n_B0, n_BB, obind, xite_T, xite_F, xite_not, xite_same, oI_s, oI_n, Bool.false_eq_true, reduceCtorEq, eq_self, Classical.not_not, bI_T, bI_Fa, bI_0, bI_n0, bI_x, xb_0, xb_1, xite_bI, xite_bI', not_true_eq_false, not_false_eq_true, Nat.zero_add, Nat.add_zero, Nat.mul_zero, Nat.mul_one, Nat.one_mul, reduceIte, Nat.reduceEqDiff, Nat.reduceAdd, Nat.reduceMul, Nat.reduceSub, Nat.reduceLT, Nat.reduceLeDiff, Nat.reducePow, ite_true, ite_false, if_true, if_false, and_true, true_and, false_and, and_false, or_false, false_or, true_or, or_true, ne_eq, xite_t, xite_f, h1, h2, C166, a2, b2, h4.1, h4.2.1, a4, b4, C125 _ _ _ _ a5 z1, C125 _ _ _ _ b5 z2, h5.1, h5.2]
              rfl
            · obtain ⟨a1, a2, a3, a4, a5, a6⟩ := h.2.2.2 a ha
              obtain ⟨b1, b2, b3, b4, b5, b6⟩ := h.2.2.2 b hb
              have z1 := a1.2.2.2
              have z2 := b1.2.2.2
              have hF : xF (Ssh b) σ (wR σ 15 b (va_cpy (rI σ 15 a) (rI σ 15 b) i' j' n')) := xF_wR (xF_refl σ) _ (fun k hk => absurd (by unfold Ssh; omega) hk)
              have e15 : rI (wR σ 15 b (va_cpy (rI σ 15 a) (rI σ 15 b) i' j' n')) 15 b = va_cpy (rI σ 15 a) (rI σ 15 b) i' j' n' := by
                show (if 15 = 15 ∧ b = b then _ else _) = _
                rw [if_pos ⟨rfl, rfl⟩]
              have eo : ∀ r k, ¬ r = 15 → rI (wR σ 15 b (va_cpy (rI σ 15 a) (rI σ 15 b) i' j' n')) r k = rI σ r k := by
                intro r k hr
                show (if r = 15 ∧ k = b then _ else σ.1 r k) = _
                rw [if_neg (by omega)]
                rfl
              refine CI_sh (n := 0) h (xH_F hF (fun j k => by unfold Ssh; omega)) ⟨b1, ?_, fun h => ?_, ?_, ?_, fun t ht => ?_⟩
              · rw [eo 11 0 (by omega)]; exact b2
              · have h : (S.2.2 b).1 = 1 := h
                omega
              · rw [eo 14 b (by omega)]; exact b4
              · rw [eo 14 b (by omega)]; exact b5
              · rw [e15]
                show _ = cpy (S.2.2 a).2.2.2.2.2 (S.2.2 b).2.2.2.2.2 i' j' n' t
                unfold cpy
                by_cases ht2 : j' ≤ t ∧ t < j' + n'
                · rw [pk_cpy_in ht2.1 ht2.2, if_pos ht2]
                  exact a6 _ (by omega)
                · rw [pk_cpy_out (by omega), if_neg ht2]
                  exact b6 t ht
            · exact kC_F (S := Ssh b) (xF_wR (xF_refl σ) _ (fun k hk => absurd (by unfold Ssh; omega) hk)) (Ssh_16 b)
            · obtain ⟨a1, a2, a3, a4, a5, a6⟩ := h.2.2.2 a ha
              obtain ⟨b1, b2, b3, b4, b5, b6⟩ := h.2.2.2 b hb
              have z1 := a1.2.2.2
              have z2 := b1.2.2.2
              have y1 := a1.2.2.1
              have y2 := b1.2.2.1
              have lp : ∃ σ', run (d + 60) (74, 122, [some (.inr (.inr (17, (some 0)))), some (.inl (nI (a))), some (.inl (nI (i'))), some (.inl (nI (b))), some (.inl (nI (j'))), some (.inl (nI (n'))), some (.inl (nI (0))), none], [], σ) = some ((nI n', 0, none), σ') ∧ (∀ x, rI σ' 25 0 x = if 100 * b + j' ≤ x ∧ x < 100 * b + j' + n' then rI σ 25 0 (100 * a + i' + (x - (100 * b + j'))) else rI σ 25 0 x) ∧ xF (fun r _ k => r = 25 ∧ 100 * b ≤ k ∧ k < 100 * b + 100) σ σ' := by
                by_cases hij : j' < i'
                · exact M74a (d + 59) (rI σ 25 0) ha hb (by omega) (by omega) hij n' 0 σ (by omega) (fun x => by rw [if_neg (by omega)])
                · exact M74b (d + 59) (rI σ 25 0) ha hb (by omega) (by omega) (by omega) n' 0 σ (by omega) (fun x => by rw [if_neg (by omega)])
              obtain ⟨σ', f1, f2, f4⟩ := lp
              have f3 : xF (Smh b) σ σ' := xF_le f4 (fun r j k s => by unfold Smh; omega)
              refine ⟨σ', ?_, MI_sh h f3 ⟨b1, ?_, fun h => ?_, ?_, ?_, fun t ht => ?_⟩, kM_sh f3⟩
              · show run (d + 60) (xentry 74 _ σ) = _
                have k1 : (nI (S.2.2 a).2.2.2.2.1 - nI i' < nI n') = False := by
                  rw [n_ltx, n_subx z1 (by omega), n_toInt (by omega)]
                  exact eq_false (by omega)
                have k2 : (nI n' ≤ nI (S.2.2 b).2.2.2.2.1 - nI j') = True := by
                  rw [n_lex, n_subx z2 (by omega), n_toInt (by omega)]
                  exact eq_true (by omega)
                rw [B74_0, M2]
                simp (disch := omega) only [n_cl, n_lt, n_le, n_eq, n_lt0, n_0lt, n_le0, n_eq0, n_gneq, n_ngeq, n_ng0, n_nglt, n_glt, n_gle, n_ltg, n_leg, n_gg, n_ge0, n_add, n_mul, n_rem, n_shl1, n_and, n_or, n_bit, n_not, n_not', n_B1, n_B0, n_BB, obind, xite_T, xite_F, xite_not, xite_same, oI_s, oI_n, Bool.false_eq_true, reduceCtorEq, eq_self, Classical.not_not, bI_T, bI_Fa, bI_0, bI_n0, bI_x, xb_0, xb_1, xite_bI, xite_bI', not_true_eq_false, not_false_eq_true, Nat.zero_add, Nat.add_zero, Nat.mul_zero, Nat.mul_one, Nat.one_mul, reduceIte, Nat.reduceEqDiff, Nat.reduceAdd, Nat.reduceMul, Nat.reduceSub, Nat.reduceLT, Nat.reduceLeDiff, Nat.reducePow, ite_true, ite_false, if_true, if_false, and_true, true_and, false_and, and_false, or_false, false_or, true_or, or_true, ne_eq, xite_t, xite_f, h1, h2, M2, a2, b2, h4.1, h4.2.1, a4, b4, a5, b5, k1, k2]
                exact f1
              · rw [f4.1 22 0 b (by omega)]; exact b2
              · have h : (S.2.2 b).1 = 1 := h
                omega
              · rw [f4.1 23 0 b (by omega)]; exact b4
              · rw [f4.1 24 0 b (by omega)]; exact b5
              · rw [f2]
                show _ = cpy (S.2.2 a).2.2.2.2.2 (S.2.2 b).2.2.2.2.2 i' j' n' t
                unfold cpy
                by_cases ht2 : j' ≤ t ∧ t < j' + n'
                · rw [if_pos (by omega), if_pos ht2]
                  have e : 100 * a + i' + (100 * b + t - (100 * b + j')) = 100 * a + (i' + (t - j')) := by omega
                  rw [e]
                  exact a6 _ (by omega)
                · rw [if_neg (by omega), if_neg ht2]
                  exact b6 t ht
          · refine duo_bad (-nI 13) (fun σ h => ?_) (fun σ h => ?_)
            · obtain ⟨a1, a2, a3, a4, a5, a6⟩ := h.2.2.2 a ha
              obtain ⟨b1, b2, b3, b4, b5, b6⟩ := h.2.2.2 b hb
              have z1 := a1.2.2.2
              have z2 := b1.2.2.2
              have y1 := a1.2.2.1
              have y2 := b1.2.2.1
              rw [B164_0, C166 _ _ _ (by omega)]
              simp (disch := omega) only [n_cl, n_lt, n_le, n_eq, n_lt0, n_0lt, n_le0, n_eq0, n_gneq, n_ngeq, n_ng0, n_nglt, n_glt, n_gle, n_ltg, n_leg, n_gg, n_ge0, n_add, n_mul, n_rem, n_shl1, n_and, n_or, n_bit, n_not, n_not', n_B1, n_B0, n_BB, obind, xite_T, xite_F, xite_not, xite_same, oI_s, oI_n, Bool.false_eq_true, reduceCtorEq, eq_self, Classical.not_not, bI_T, bI_Fa, bI_0, bI_n0, bI_x, xb_0, xb_1, xite_bI, xite_bI', not_true_eq_false, not_false_eq_true, Nat.zero_add, Nat.add_zero, Nat.mul_zero, Nat.mul_one, Nat.one_mul, reduceIte, Nat.reduceEqDiff, Nat.reduceAdd, Nat.reduceMul, Nat.reduceSub, Nat.reduceLT, Nat.reduceLeDiff, Nat.reducePow, ite_true, ite_false, if_true, if_false, and_true, true_and, false_and, and_false, or_false, false_or, true_or, or_true, ne_eq, xite_t, xite_f, h1, h2, C166, a2, b2, h4.1, h4.2.1, a4, b4, C125 _ _ _ _ a5 z1, C125 _ _ _ _ b5 z2]
              by_cases h6 : strch i n (S.2.2 a).2.2.2.2.1
              · rw [xite_t h6, xite_f (fun h7 => h5 ⟨h6, h7⟩)]
              · rw [xite_f h6]
            · obtain ⟨a1, a2, a3, a4, a5, a6⟩ := h.2.2.2 a ha
              obtain ⟨b1, b2, b3, b4, b5, b6⟩ := h.2.2.2 b hb
              have z1 := a1.2.2.2
              have z2 := b1.2.2.2
              have y1 := a1.2.2.1
              have y2 := b1.2.2.1
              rw [B74_0, M2]
              simp (disch := omega) only [n_cl, n_lt, n_le, n_eq, n_lt0, n_0lt, n_le0, n_eq0, n_gneq, n_ngeq, n_ng0, n_nglt, n_glt, n_gle, n_ltg, n_leg, n_gg, n_ge0, n_add, n_mul, n_rem, n_shl1, n_and, n_or, n_bit, n_not, n_not', n_B1, n_B0, n_BB, obind, xite_T, xite_F, xite_not, xite_same, oI_s, oI_n, Bool.false_eq_true, reduceCtorEq, eq_self, Classical.not_not, bI_T, bI_Fa, bI_0, bI_n0, bI_x, xb_0, xb_1, xite_bI, xite_bI', not_true_eq_false, not_false_eq_true, Nat.zero_add, Nat.add_zero, Nat.mul_zero, Nat.mul_one, Nat.one_mul, reduceIte, Nat.reduceEqDiff, Nat.reduceAdd, Nat.reduceMul, Nat.reduceSub, Nat.reduceLT, Nat.reduceLeDiff, Nat.reducePow, ite_true, ite_false, if_true, if_false, and_true, true_and, false_and, and_false, or_false, false_or, true_or, or_true, ne_eq, xite_t, xite_f, h1, h2, M2, a2, b2, h4.1, h4.2.1, a4, b4, a5, b5]
              by_cases q1 : n < 0
              · rw [xite_t q1]
              · by_cases q2 : i < 0
                · rw [xite_f q1, xite_t q2]
                · by_cases q3 : j < 0
                  · rw [xite_f q1, xite_f q2, xite_t q3]
                  · rw [xite_f q1, xite_f q2, xite_f q3]
                    obtain ⟨i', _, ei⟩ := nI_of q2
                    obtain ⟨n', _, en⟩ := nI_of q1
                    obtain ⟨j', _, ej⟩ := nI_of q3
                    subst ei en ej
                    unfold strch at h5
                    rw [n_toInt (by omega), n_toInt (by omega), n_toInt (by omega)] at h5
                    by_cases q4 : (S.2.2 a).2.2.2.2.1 < i' + n'
                    · rw [xite_t (by rw [n_ltx, n_subx z1 (by omega), n_toInt (by omega)]; omega)]
                    · rw [xite_f (by rw [n_ltx, n_subx z1 (by omega), n_toInt (by omega)]; omega), xite_f (by rw [n_lex, n_subx z2 (by omega), n_toInt (by omega)]; omega)]
        · refine duo_bad (-nI 12) (fun σ h => ?_) (fun σ h => ?_)
          · obtain ⟨a1, a2, a3, a4, a5, a6⟩ := h.2.2.2 a ha
            obtain ⟨b1, b2, b3, b4, b5, b6⟩ := h.2.2.2 b hb
            have x1 := a1.1
            have x2 := b1.1
            have y1 := a1.2.2.1
            have y2 := b1.2.2.1
            rw [B164_0, C166 _ _ _ (by omega)]
            simp (disch := omega) only [n_cl, n_lt, n_le, n_eq, n_lt0, n_0lt, n_le0, n_eq0, n_gneq, n_ngeq, n_ng0, n_nglt, n_glt, n_gle, n_ltg, n_leg, n_gg, n_ge0, n_add, n_mul, n_rem, n_shl1, n_and, n_or, n_bit, n_not, n_not', n_B1, n_B0, n_BB, obind, xite_T, xite_F, xite_not, xite_same, oI_s, oI_n, Bool.false_eq_true, reduceCtorEq, eq_self, Classical.not_not, bI_T, bI_Fa, bI_0, bI_n0, bI_x, xb_0, xb_1, xite_bI, xite_bI', not_true_eq_false, not_false_eq_true, Nat.zero_add, Nat.add_zero, Nat.mul_zero, Nat.mul_one, Nat.one_mul, reduceIte, Nat.reduceEqDiff, Nat.reduceAdd, Nat.reduceMul, Nat.reduceSub, Nat.reduceLT, Nat.reduceLeDiff, Nat.reducePow, ite_true, ite_false, if_true, if_false, and_true, true_and, false_and, and_false, or_false, false_or, true_or, or_true, ne_eq, xite_t, xite_f, h1, h2, C166, a2, b2, a4, b4]
            by_cases q1 : (S.2.2 a).1 = 2
            · by_cases q2 : (S.2.2 b).1 = 2
              · have q3 : ¬ (S.2.2 a).2.2.2.1 = (S.2.2 b).2.2.2.1 := fun q3 => h4 ⟨q1, q2, q3⟩
                simp (disch := omega) only [n_cl, n_lt, n_le, n_eq, n_lt0, n_0lt, n_le0, n_eq0, n_gneq, n_ngeq, n_ng0, n_nglt, n_glt, n_gle, n_ltg, n_leg, n_gg, n_ge0, n_add, n_mul, n_rem, n_shl1, n_and, n_or, n_bit, n_not, n_not', n_B1, n_B0, n_BB, obind, xite_T, xite_F, xite_not, xite_same, oI_s, oI_n, Bool.false_eq_true, reduceCtorEq, eq_self, Classical.not_not, bI_T, bI_Fa, bI_0, bI_n0, bI_x, xb_0, xb_1, xite_bI, xite_bI', not_true_eq_false, not_false_eq_true, Nat.zero_add, Nat.add_zero, Nat.mul_zero, Nat.mul_one, Nat.one_mul, reduceIte, Nat.reduceEqDiff, Nat.reduceAdd, Nat.reduceMul, Nat.reduceSub, Nat.reduceLT, Nat.reduceLeDiff, Nat.reducePow, ite_true, ite_false, if_true, if_false, and_true, true_and, false_and, and_false, or_false, false_or, true_or, or_true, ne_eq, xite_t, xite_f, q1, q2, q3]
              · simp (disch := omega) only [n_cl, n_lt, n_le, n_eq, n_lt0, n_0lt, n_le0, n_eq0, n_gneq, n_ngeq, n_ng0, n_nglt, n_glt, n_gle, n_ltg, n_leg, n_gg, n_ge0, n_add, n_mul, n_rem, n_shl1, n_and, n_or, n_bit, n_not, n_not', n_B1, n_B0, n_BB, obind, xite_T, xite_F, xite_not, xite_same, oI_s, oI_n, Bool.false_eq_true, reduceCtorEq, eq_self, Classical.not_not, bI_T, bI_Fa, bI_0, bI_n0, bI_x, xb_0, xb_1, xite_bI, xite_bI', not_true_eq_false, not_false_eq_true, Nat.zero_add, Nat.add_zero, Nat.mul_zero, Nat.mul_one, Nat.one_mul, reduceIte, Nat.reduceEqDiff, Nat.reduceAdd, Nat.reduceMul, Nat.reduceSub, Nat.reduceLT, Nat.reduceLeDiff, Nat.reducePow, ite_true, ite_false, if_true, if_false, and_true, true_and, false_and, and_false, or_false, false_or, true_or, or_true, ne_eq, xite_t, xite_f, q1, q2]
            · simp (disch := omega) only [n_cl, n_lt, n_le, n_eq, n_lt0, n_0lt, n_le0, n_eq0, n_gneq, n_ngeq, n_ng0, n_nglt, n_glt, n_gle, n_ltg, n_leg, n_gg, n_ge0, n_add, n_mul, n_rem, n_shl1, n_and, n_or, n_bit, n_not, n_not', n_B1, n_B0, n_BB, obind, xite_T, xite_F, xite_not, xite_same, oI_s, oI_n, Bool.false_eq_true, reduceCtorEq, eq_self, Classical.not_not, bI_T, bI_Fa, bI_0, bI_n0, bI_x, xb_0, xb_1, xite_bI, xite_bI', not_true_eq_false, not_false_eq_true, Nat.zero_add, Nat.add_zero, Nat.mul_zero, Nat.mul_one, Nat.one_mul, reduceIte, Nat.reduceEqDiff, Nat.reduceAdd, Nat.reduceMul, Nat.reduceSub, Nat.reduceLT, Nat.reduceLeDiff, Nat.reducePow, ite_true, ite_false, if_true, if_false, and_true, true_and, false_and, and_false, or_false, false_or, true_or, or_true, ne_eq, xite_t, xite_f, q1]
          · obtain ⟨a1, a2, a3, a4, a5, a6⟩ := h.2.2.2 a ha
            obtain ⟨b1, b2, b3, b4, b5, b6⟩ := h.2.2.2 b hb
            have x1 := a1.1
            have x2 := b1.1
            have y1 := a1.2.2.1
            have y2 := b1.2.2.1
            rw [B74_0, M2]
            simp (disch := omega) only [n_cl, n_lt, n_le, n_eq, n_lt0, n_0lt, n_le0, n_eq0, n_gneq, n_ngeq, n_ng0, n_nglt, n_glt, n_gle, n_ltg, n_leg, n_gg, n_ge0, n_add, n_mul, n_rem, n_shl1, n_and, n_or, n_bit, n_not, n_not', n_B1, n_B0, n_BB, obind, xite_T, xite_F, xite_not, xite_same, oI_s, oI_n, Bool.false_eq_true, reduceCtorEq, eq_self, Classical.not_not, bI_T, bI_Fa, bI_0, bI_n0, bI_x, xb_0, xb_1, xite_bI, xite_bI', not_true_eq_false, not_false_eq_true, Nat.zero_add, Nat.add_zero, Nat.mul_zero, Nat.mul_one, Nat.one_mul, reduceIte, Nat.reduceEqDiff, Nat.reduceAdd, Nat.reduceMul, Nat.reduceSub, Nat.reduceLT, Nat.reduceLeDiff, Nat.reducePow, ite_true, ite_false, if_true, if_false, and_true, true_and, false_and, and_false, or_false, false_or, true_or, or_true, ne_eq, xite_t, xite_f, h1, h2, M2, a2, b2, a4, b4]
            by_cases q1 : (S.2.2 a).1 = 2
            · by_cases q2 : (S.2.2 b).1 = 2
              · have q3 : ¬ (S.2.2 a).2.2.2.1 = (S.2.2 b).2.2.2.1 := fun q3 => h4 ⟨q1, q2, q3⟩
                simp (disch := omega) only [n_cl, n_lt, n_le, n_eq, n_lt0, n_0lt, n_le0, n_eq0, n_gneq, n_ngeq, n_ng0, n_nglt, n_glt, n_gle, n_ltg, n_leg, n_gg, n_ge0, n_add, n_mul, n_rem, n_shl1, n_and, n_or, n_bit, n_not, n_not', n_B1, n_B0, n_BB, obind, xite_T, xite_F, xite_not, xite_same, oI_s, oI_n, Bool.false_eq_true, reduceCtorEq, eq_self, Classical.not_not, bI_T, bI_Fa, bI_0, bI_n0, bI_x, xb_0, xb_1, xite_bI, xite_bI', not_true_eq_false, not_false_eq_true, Nat.zero_add, Nat.add_zero, Nat.mul_zero, Nat.mul_one, Nat.one_mul, reduceIte, Nat.reduceEqDiff, Nat.reduceAdd, Nat.reduceMul, Nat.reduceSub, Nat.reduceLT, Nat.reduceLeDiff, Nat.reducePow, ite_true, ite_false, if_true, if_false, and_true, true_and, false_and, and_false, or_false, false_or, true_or, or_true, ne_eq, xite_t, xite_f, q1, q2, q3]
              · simp (disch := omega) only [n_cl, n_lt, n_le, n_eq, n_lt0, n_0lt, n_le0, n_eq0, n_gneq, n_ngeq, n_ng0, n_nglt, n_glt, n_gle, n_ltg, n_leg, n_gg, n_ge0, n_add, n_mul, n_rem, n_shl1, n_and, n_or, n_bit, n_not, n_not', n_B1, n_B0, n_BB, obind, xite_T, xite_F, xite_not, xite_same, oI_s, oI_n, Bool.false_eq_true, reduceCtorEq, eq_self, Classical.not_not, bI_T, bI_Fa, bI_0, bI_n0, bI_x, xb_0, xb_1, xite_bI, xite_bI', not_true_eq_false, not_false_eq_true, Nat.zero_add, Nat.add_zero, Nat.mul_zero, Nat.mul_one, Nat.one_mul, reduceIte, Nat.reduceEqDiff, Nat.reduceAdd, Nat.reduceMul, Nat.reduceSub, Nat.reduceLT, Nat.reduceLeDiff, Nat.reducePow, ite_true, ite_false, if_true, if_false, and_true, true_and, false_and, and_false, or_false, false_or, true_or, or_true, ne_eq, xite_t, xite_f, q1, q2]
            · simp (disch := omega) only [n_cl, n_lt, n_le, n_eq, n_lt0, n_0lt, n_le0, n_eq0, n_gneq, n_ngeq, n_ng0, n_nglt, n_glt, n_gle, n_ltg, n_leg, n_gg, n_ge0, n_add, n_mul, n_rem, n_shl1, n_and, n_or, n_bit, n_not, n_not', n_B1, n_B0, n_BB, obind, xite_T, xite_F, xite_not, xite_same, oI_s, oI_n, Bool.false_eq_true, reduceCtorEq, eq_self, Classical.not_not, bI_T, bI_Fa, bI_0, bI_n0, bI_x, xb_0, xb_1, xite_bI, xite_bI', not_true_eq_false, not_false_eq_true, Nat.zero_add, Nat.add_zero, Nat.mul_zero, Nat.mul_one, Nat.one_mul, reduceIte, Nat.reduceEqDiff, Nat.reduceAdd, Nat.reduceMul, Nat.reduceSub, Nat.reduceLT, Nat.reduceLeDiff, Nat.reducePow, ite_true, ite_false, if_true, if_false, and_true, true_and, false_and, and_false, or_false, false_or, true_or, or_true, ne_eq, xite_t, xite_f, q1]
    · refine duo_bad (-nI 1) (fun σ h => ?_) (fun σ h => ?_)
      · rw [B164_0, C166 _ _ _ (by omega)]
        simp (disch := omega) only [n_cl, n_lt, n_le, n_eq, n_lt0, n_0lt, n_le0, n_eq0, n_gneq, n_ngeq, n_ng0, n_nglt, n_glt, n_gle, n_ltg, n_leg, n_gg, n_ge0, n_add, n_mul, n_rem, n_shl1, n_and, n_or, n_bit, n_not, n_not', n_B1, n_B0, n_BB, obind, xite_T, xite_F, xite_not, xite_same, oI_s, oI_n, Bool.false_eq_true, reduceCtorEq, eq_self, Classical.not_not, bI_T, bI_Fa, bI_0, bI_n0, bI_x, xb_0, xb_1, xite_bI, xite_bI', not_true_eq_false, not_false_eq_true, Nat.zero_add, Nat.add_zero, Nat.mul_zero, Nat.mul_one, Nat.one_mul, reduceIte, Nat.reduceEqDiff, Nat.reduceAdd, Nat.reduceMul, Nat.reduceSub, Nat.reduceLT, Nat.reduceLeDiff, Nat.reducePow, ite_true, ite_false, if_true, if_false, and_true, true_and, false_and, and_false, or_false, false_or, true_or, or_true, ne_eq, h1, h2, C166]
      · rw [B74_0, M2]
        simp (disch := omega) only [n_cl, n_lt, n_le, n_eq, n_lt0, n_0lt, n_le0, n_eq0, n_gneq, n_ngeq, n_ng0, n_nglt, n_glt, n_gle, n_ltg, n_leg, n_gg, n_ge0, n_add, n_mul, n_rem, n_shl1, n_and, n_or, n_bit, n_not, n_not', n_B1, n_B0, n_BB, obind, xite_T, xite_F, xite_not, xite_same, oI_s, oI_n, Bool.false_eq_true, reduceCtorEq, eq_self, Classical.not_not, bI_T, bI_Fa, bI_0, bI_n0, bI_x, xb_0, xb_1, xite_bI, xite_bI', not_true_eq_false, not_false_eq_true, Nat.zero_add, Nat.add_zero, Nat.mul_zero, Nat.mul_one, Nat.one_mul, reduceIte, Nat.reduceEqDiff, Nat.reduceAdd, Nat.reduceMul, Nat.reduceSub, Nat.reduceLT, Nat.reduceLeDiff, Nat.reducePow, ite_true, ite_false, if_true, if_false, and_true, true_and, false_and, and_false, or_false, false_or, true_or, or_true, ne_eq, h1, h2, M2]
  · refine duo_bad (-nI 1) (fun σ h => ?_) (fun σ h => ?_)
    · rw [B164_0, C166 _ _ _ (by omega)]
      simp (disch := omega) only [n_cl, n_lt, n_le, n_eq, n_lt0, n_0lt, n_le0, n_eq0, n_gneq, n_ngeq, n_ng0, n_nglt, n_glt, n_gle, n_ltg, n_leg, n_gg, n_ge0, n_add, n_mul, n_rem, n_shl1, n_and, n_or, n_bit, n_not, n_not', n_B1, n_B0, n_BB, obind, xite_T, xite_F, xite_not, xite_same, oI_s, oI_n, Bool.false_eq_true, reduceCtorEq, eq_self, Classical.not_not, bI_T, bI_Fa, bI_0, bI_n0, bI_x, xb_0, xb_1, xite_bI, xite_bI', not_true_eq_false, not_false_eq_true, Nat.zero_add, Nat.add_zero, Nat.mul_zero, Nat.mul_one, Nat.one_mul, reduceIte, Nat.reduceEqDiff, Nat.reduceAdd, Nat.reduceMul, Nat.reduceSub, Nat.reduceLT, Nat.reduceLeDiff, Nat.reducePow, ite_true, ite_false, if_true, if_false, and_true, true_and, false_and, and_false, or_false, false_or, true_or, or_true, ne_eq, h1]
    · rw [B74_0, M2]
      simp (disch := omega) only [n_cl, n_lt, n_le, n_eq, n_lt0, n_0lt, n_le0, n_eq0, n_gneq, n_ngeq, n_ng0, n_nglt, n_glt, n_gle, n_ltg, n_leg, n_gg, n_ge0, n_add, n_mul, n_rem, n_shl1, n_and, n_or, n_bit, n_not, n_not', n_B1, n_B0, n_BB, obind, xite_T, xite_F, xite_not, xite_same, oI_s, oI_n, Bool.false_eq_true, reduceCtorEq, eq_self, Classical.not_not, bI_T, bI_Fa, bI_0, bI_n0, bI_x, xb_0, xb_1, xite_bI, xite_bI', not_true_eq_false, not_false_eq_true, Nat.zero_add, Nat.add_zero, Nat.mul_zero, Nat.mul_one, Nat.one_mul, reduceIte, Nat.reduceEqDiff, Nat.reduceAdd, Nat.reduceMul, Nat.reduceSub, Nat.reduceLT, Nat.reduceLeDiff, Nat.reducePow, ite_true, ite_false, if_true, if_false, and_true, true_and, false_and, and_false, or_false, false_or, true_or, or_true, ne_eq, h1]
