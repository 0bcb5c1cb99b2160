/-! LANDS LAID, THE IMAGE -/
theorem w_1 (σ : xS) (r i : Nat) : σ.1 r i = rI σ r i := rfl
theorem w_R1 {σ : xS} {r i : Nat} {f : Nat → Int32} : rI (wR σ r i f) r i = f := by
  show (if r = r ∧ i = i then f else _) = _
  rw [if_pos ⟨rfl, rfl⟩]
theorem w_R2 {σ : xS} {r i r' i' : Nat} {f : Nat → Int32} (h : r' ≠ r) : rI (wR σ r i f) r' i' = rI σ r' i' := by
  show (if r' = r ∧ i' = i then f else σ.1 r' i') = _
  rw [if_neg (fun e => h e.1)]
  rfl
theorem w_RL {σ : xS} {r i : Nat} {f : Nat → Int32} : rL (wR σ r i f) = rL σ := rfl
theorem w_RP {σ : xS} {r i : Nat} {f : Nat → Int32} : rP (wR σ r i f) = rP σ := rfl
def bcm (σ : xS) (i j : Nat) : xS := wR (wR (wR (wL (wI (wI (wI σ 1 i 0 (rI σ 1 j 0)) 1 i 1 (rI σ 1 j 1)) 1 i 2 (rI σ 1 j 2)) 1 i 3 (rL σ 1 j 3)) 2 i (va_cpy (rI σ 2 j) (rI σ 2 i) 0 0 9)) 3 i (va_cpy (rI σ 3 j) (rI σ 3 i) 0 0 9)) 4 i (va_cpy (rI σ 4 j) (rI σ 4 i) 0 0 9)
theorem C91_0 (d : Nat) (σ : xS) {i j : Nat} (hij : ¬ j = i) : run (d + 1) (xentry 91 [.inr (.inr (1, (some i))), .inr (.inr (1, (some j)))] σ) = run (d + 1) (91, 79, [some (.inr (.inr (1, (some i)))), some (.inr (.inr (1, (some j)))), some (.inl (nI (0)))], [], bcm σ i j) := by
  rw [B91_0]
  unfold bcm
  simp (disch := omega) only [n_cl, n_lt, n_le, n_eq, n_lt0, n_0lt, n_le0, n_eq0, n_gneq, n_ngeq, n_ng0, n_nglt, n_glt, n_gle, n_ltg, n_leg, n_gg, n_ge0, n_add, n_mul, n_rem, n_shl1, n_and, n_or, n_bit, n_not, n_not', n_B1, n_B0, n_BB, obind, xite_T, xite_F, xite_not, xite_same, oI_s, oI_n, Bool.false_eq_true, reduceCtorEq, eq_self, Classical.not_not, bI_T, bI_Fa, bI_0, bI_n0, bI_x, xb_0, xb_1, xite_bI, xite_bI', not_true_eq_false, not_false_eq_true, Nat.zero_add, Nat.add_zero, Nat.mul_zero, Nat.mul_one, Nat.one_mul, reduceIte, Nat.reduceEqDiff, Nat.reduceAdd, Nat.reduceMul, Nat.reduceSub, Nat.reduceLT, Nat.reduceLeDiff, Nat.reducePow, ite_true, ite_false, if_true, if_false, and_true, true_and, false_and, and_false, or_false, false_or, true_or, or_true, ne_eq, xite_t, xite_f, w_I2, w_Is, w_In, w_IL, w_IP, w_IC, w_LI, w_LP, w_LC, w_PI, w_PL, w_PC, w_I3, w_1, w_R2, w_RL, w_RP]
def Sld (i r j _ : Nat) : Prop := (r = 1 ∨ r = 2 ∨ r = 3 ∨ r = 4 ∨ r = 5) ∧ j = i
theorem bcm_F (σ : xS) (i j : Nat) : xF (Sld i) σ (bcm σ i j) := by
  unfold bcm
  exact xF_wR (xF_wR (xF_wR (xF_wL (xF_wI (xF_wI (xF_wI (xF_refl σ) _ (by unfold Sld; omega)) _ (by unfold Sld; omega)) _ (by unfold Sld; omega)) _ (by unfold Sld; omega)) _ (fun k hk => absurd (by unfold Sld; omega) hk)) _ (fun k hk => absurd (by unfold Sld; omega) hk)) _ (fun k hk => absurd (by unfold Sld; omega) hk)
theorem C91_l (d : Nat) (i j : Nat) (hij : ¬ j = i) : ∀ (m k : Nat) (σ : xS), k + m = 6 → ∃ σ', run (d + 1) (91, 79, [some (.inr (.inr (1, (some i)))), some (.inr (.inr (1, (some j)))), some (.inl (nI (k)))], [], σ) = some ((0, 0, none), σ') ∧ (∀ a, k ≤ a → a < 6 → rP σ' 5 i a = rP σ 5 j a) ∧ (∀ a, a < k → rP σ' 5 i a = rP σ 5 i a) ∧ rP σ' 5 j = rP σ 5 j ∧ xF (fun r j _ => r = 5 ∧ j = i) σ σ' := by
  intro m
  induction m with
  | zero =>
    intro k σ hk
    refine ⟨σ, ?_, fun a h1 h2 => by omega, fun a _ => rfl, rfl, xF_refl σ⟩
    rw [B91_79]
    simp (disch := omega) only [n_cl, n_lt, n_le, n_eq, n_lt0, n_0lt, n_le0, n_eq0, n_gneq, n_ngeq, n_ng0, n_nglt, n_glt, n_gle, n_ltg, n_leg, n_gg, n_ge0, n_add, n_mul, n_rem, n_shl1, n_and, n_or, n_bit, n_not, n_not', n_B1, n_B0, n_BB, obind, xite_T, xite_F, xite_not, xite_same, oI_s, oI_n, Bool.false_eq_true, reduceCtorEq, eq_self, Classical.not_not, bI_T, bI_Fa, bI_0, bI_n0, bI_x, xb_0, xb_1, xite_bI, xite_bI', not_true_eq_false, not_false_eq_true, Nat.zero_add, Nat.add_zero, Nat.mul_zero, Nat.mul_one, Nat.one_mul, reduceIte, Nat.reduceEqDiff, Nat.reduceAdd, Nat.reduceMul, Nat.reduceSub, Nat.reduceLT, Nat.reduceLeDiff, Nat.reducePow, ite_true, ite_false, if_true, if_false, and_true, true_and, false_and, and_false, or_false, false_or, true_or, or_true, ne_eq, xite_t, xite_f, ]
  | succ m ih =>
    intro k σ hk
    have ej : rP (wP σ 5 i k (rP σ 5 j k)) 5 j = rP σ 5 j := w_P2 (by omega)
    obtain ⟨σ', f1, f2, f3, f4, f5⟩ := ih (k + 1) (wP σ 5 i k (rP σ 5 j k)) (by omega)
    refine ⟨σ', ?_, fun a h1 h2 => ?_, fun a h => ?_, f4.trans ej, xF_trans (xF_wP (xF_refl σ) _ ⟨rfl, rfl⟩) f5⟩
    · rw [B91_79]
      simp (disch := omega) only [n_cl, n_lt, n_le, n_eq, n_lt0, n_0lt, n_le0, n_eq0, n_gneq, n_ngeq, n_ng0, n_nglt, n_glt, n_gle, n_ltg, n_leg, n_gg, n_ge0, n_add, n_mul, n_rem, n_shl1, n_and, n_or, n_bit, n_not, n_not', n_B1, n_B0, n_BB, obind, xite_T, xite_F, xite_not, xite_same, oI_s, oI_n, Bool.false_eq_true, reduceCtorEq, eq_self, Classical.not_not, bI_T, bI_Fa, bI_0, bI_n0, bI_x, xb_0, xb_1, xite_bI, xite_bI', not_true_eq_false, not_false_eq_true, Nat.zero_add, Nat.add_zero, Nat.mul_zero, Nat.mul_one, Nat.one_mul, reduceIte, Nat.reduceEqDiff, Nat.reduceAdd, Nat.reduceMul, Nat.reduceSub, Nat.reduceLT, Nat.reduceLeDiff, Nat.reducePow, ite_true, ite_false, if_true, if_false, and_true, true_and, false_and, and_false, or_false, false_or, true_or, or_true, ne_eq, xite_t, xite_f, ]
      exact f1
    · by_cases e : a = k
      · rw [e, f3 k (by omega), w_P1]
        exact if_pos rfl
      · rw [f2 a (by omega) h2, ej]
    · rw [f3 a (by omega), w_P1]
      exact if_neg (by omega)
theorem C91 (d : Nat) (σ : xS) {i j : Nat} {X : mX} (hij : ¬ j = i) (h : CL σ j X) : ∃ σ', run (d + 1) (xentry 91 [.inr (.inr (1, (some i))), .inr (.inr (1, (some j)))] σ) = some ((0, 0, none), σ') ∧ CL σ' i X ∧ xF (Sld i) σ σ' := by
  obtain ⟨σ', f1, f2, f3, f4, f5⟩ := C91_l d i j hij 6 0 (bcm σ i j) (by omega)
  have hB := bcm_F σ i j
  have hF : xF (Sld i) σ σ' := xF_trans hB (xF_le f5 (fun r j k s => by unfold Sld; omega))
  have hP6 := h.1.2.1
  have hR9 := h.1.2.2.1
  have hC6 := h.1.2.2.2.1
  have e1 : rI σ' 1 i = rI (bcm σ i j) 1 i := xF_I f5 (fun k => by omega)
  have e2 : rI σ' 2 i = va_cpy (rI σ 2 j) (rI σ 2 i) 0 0 9 := by
    rw [xF_I f5 (fun k => by omega)]
    unfold bcm
    simp (disch := omega) only [n_cl, n_lt, n_le, n_eq, n_lt0, n_0lt, n_le0, n_eq0, n_gneq, n_ngeq, n_ng0, n_nglt, n_glt, n_gle, n_ltg, n_leg, n_gg, n_ge0, n_add, n_mul, n_rem, n_shl1, n_and, n_or, n_bit, n_not, n_not', n_B1, n_B0, n_BB, obind, xite_T, xite_F, xite_not, xite_same, oI_s, oI_n, Bool.false_eq_true, reduceCtorEq, eq_self, Classical.not_not, bI_T, bI_Fa, bI_0, bI_n0, bI_x, xb_0, xb_1, xite_bI, xite_bI', not_true_eq_false, not_false_eq_true, Nat.zero_add, Nat.add_zero, Nat.mul_zero, Nat.mul_one, Nat.one_mul, reduceIte, Nat.reduceEqDiff, Nat.reduceAdd, Nat.reduceMul, Nat.reduceSub, Nat.reduceLT, Nat.reduceLeDiff, Nat.reducePow, ite_true, ite_false, if_true, if_false, and_true, true_and, false_and, and_false, or_false, false_or, true_or, or_true, ne_eq, xite_t, xite_f, w_R2, w_R1]
  have e3 : rI σ' 3 i = va_cpy (rI σ 3 j) (rI σ 3 i) 0 0 9 := by
    rw [xF_I f5 (fun k => by omega)]
    unfold bcm
    simp (disch := omega) only [n_cl, n_lt, n_le, n_eq, n_lt0, n_0lt, n_le0, n_eq0, n_gneq, n_ngeq, n_ng0, n_nglt, n_glt, n_gle, n_ltg, n_leg, n_gg, n_ge0, n_add, n_mul, n_rem, n_shl1, n_and, n_or, n_bit, n_not, n_not', n_B1, n_B0, n_BB, obind, xite_T, xite_F, xite_not, xite_same, oI_s, oI_n, Bool.false_eq_true, reduceCtorEq, eq_self, Classical.not_not, bI_T, bI_Fa, bI_0, bI_n0, bI_x, xb_0, xb_1, xite_bI, xite_bI', not_true_eq_false, not_false_eq_true, Nat.zero_add, Nat.add_zero, Nat.mul_zero, Nat.mul_one, Nat.one_mul, reduceIte, Nat.reduceEqDiff, Nat.reduceAdd, Nat.reduceMul, Nat.reduceSub, Nat.reduceLT, Nat.reduceLeDiff, Nat.reducePow, ite_true, ite_false, if_true, if_false, and_true, true_and, false_and, and_false, or_false, false_or, true_or, or_true, ne_eq, xite_t, xite_f, w_R2, w_R1]
  have e4 : rI σ' 4 i = va_cpy (rI σ 4 j) (rI σ 4 i) 0 0 9 := by
    rw [xF_I f5 (fun k => by omega)]
    unfold bcm
    simp (disch := omega) only [n_cl, n_lt, n_le, n_eq, n_lt0, n_0lt, n_le0, n_eq0, n_gneq, n_ngeq, n_ng0, n_nglt, n_glt, n_gle, n_ltg, n_leg, n_gg, n_ge0, n_add, n_mul, n_rem, n_shl1, n_and, n_or, n_bit, n_not, n_not', n_B1, n_B0, n_BB, obind, xite_T, xite_F, xite_not, xite_same, oI_s, oI_n, Bool.false_eq_true, reduceCtorEq, eq_self, Classical.not_not, bI_T, bI_Fa, bI_0, bI_n0, bI_x, xb_0, xb_1, xite_bI, xite_bI', not_true_eq_false, not_false_eq_true, Nat.zero_add, Nat.add_zero, Nat.mul_zero, Nat.mul_one, Nat.one_mul, reduceIte, Nat.reduceEqDiff, Nat.reduceAdd, Nat.reduceMul, Nat.reduceSub, Nat.reduceLT, Nat.reduceLeDiff, Nat.reducePow, ite_true, ite_false, if_true, if_false, and_true, true_and, false_and, and_false, or_false, false_or, true_or, or_true, ne_eq, xite_t, xite_f, w_R2, w_R1]
  have eL : rL σ' 1 i 3 = rL σ 1 j 3 := by
    rw [xF_L f5 (fun k => by omega)]
    unfold bcm
    rw [w_RL, w_RL, w_RL, w_L1]
    exact if_pos rfl
  have cp : ∀ (f g : Nat → Int32) r, r < 9 → va_cpy f g 0 0 9 r = f r := by
    intro f g r hr
    rw [pk_cpy_in (by omega) (by omega)]
    congr 1
    omega
  refine ⟨σ', by rw [C91_0 d σ hij]; exact f1, ⟨h.1, ?_, ?_, ?_, fun r hr => ?_, ?_, fun c hc => ?_⟩, hF⟩
  · rw [e1]; unfold bcm; simp (disch := omega) only [n_cl, n_lt, n_le, n_eq, n_lt0, n_0lt, n_le0, n_eq0, n_gneq, n_ngeq, n_ng0, n_nglt, n_glt, n_gle, n_ltg, n_leg, n_gg, n_ge0, n_add, n_mul, n_rem, n_shl1, n_and, n_or, n_bit, n_not, n_not', n_B1, n_B0, n_BB, obind, xite_T, xite_F, xite_not, xite_same, oI_s, oI_n, Bool.false_eq_true, reduceCtorEq, eq_self, Classical.not_not, bI_T, bI_Fa, bI_0, bI_n0, bI_x, xb_0, xb_1, xite_bI, xite_bI', not_true_eq_false, not_false_eq_true, Nat.zero_add, Nat.add_zero, Nat.mul_zero, Nat.mul_one, Nat.one_mul, reduceIte, Nat.reduceEqDiff, Nat.reduceAdd, Nat.reduceMul, Nat.reduceSub, Nat.reduceLT, Nat.reduceLeDiff, Nat.reducePow, ite_true, ite_false, if_true, if_false, and_true, true_and, false_and, and_false, or_false, false_or, true_or, or_true, ne_eq, xite_t, xite_f, w_R2, w_I2, w_Is, w_In, w_IL, w_IP, w_IC, w_LI, w_LP, w_LC, w_PI, w_PL, w_PC]; exact h.2.1
  · rw [e1]; unfold bcm; simp (disch := omega) only [n_cl, n_lt, n_le, n_eq, n_lt0, n_0lt, n_le0, n_eq0, n_gneq, n_ngeq, n_ng0, n_nglt, n_glt, n_gle, n_ltg, n_leg, n_gg, n_ge0, n_add, n_mul, n_rem, n_shl1, n_and, n_or, n_bit, n_not, n_not', n_B1, n_B0, n_BB, obind, xite_T, xite_F, xite_not, xite_same, oI_s, oI_n, Bool.false_eq_true, reduceCtorEq, eq_self, Classical.not_not, bI_T, bI_Fa, bI_0, bI_n0, bI_x, xb_0, xb_1, xite_bI, xite_bI', not_true_eq_false, not_false_eq_true, Nat.zero_add, Nat.add_zero, Nat.mul_zero, Nat.mul_one, Nat.one_mul, reduceIte, Nat.reduceEqDiff, Nat.reduceAdd, Nat.reduceMul, Nat.reduceSub, Nat.reduceLT, Nat.reduceLeDiff, Nat.reducePow, ite_true, ite_false, if_true, if_false, and_true, true_and, false_and, and_false, or_false, false_or, true_or, or_true, ne_eq, xite_t, xite_f, w_R2, w_I2, w_Is, w_In, w_IL, w_IP, w_IC, w_LI, w_LP, w_LC, w_PI, w_PL, w_PC]; exact h.2.2.1
  · rw [e1]; unfold bcm; simp (disch := omega) only [n_cl, n_lt, n_le, n_eq, n_lt0, n_0lt, n_le0, n_eq0, n_gneq, n_ngeq, n_ng0, n_nglt, n_glt, n_gle, n_ltg, n_leg, n_gg, n_ge0, n_add, n_mul, n_rem, n_shl1, n_and, n_or, n_bit, n_not, n_not', n_B1, n_B0, n_BB, obind, xite_T, xite_F, xite_not, xite_same, oI_s, oI_n, Bool.false_eq_true, reduceCtorEq, eq_self, Classical.not_not, bI_T, bI_Fa, bI_0, bI_n0, bI_x, xb_0, xb_1, xite_bI, xite_bI', not_true_eq_false, not_false_eq_true, Nat.zero_add, Nat.add_zero, Nat.mul_zero, Nat.mul_one, Nat.one_mul, reduceIte, Nat.reduceEqDiff, Nat.reduceAdd, Nat.reduceMul, Nat.reduceSub, Nat.reduceLT, Nat.reduceLeDiff, Nat.reducePow, ite_true, ite_false, if_true, if_false, and_true, true_and, false_and, and_false, or_false, false_or, true_or, or_true, ne_eq, xite_t, xite_f, w_R2, w_I2, w_Is, w_In, w_IL, w_IP, w_IC, w_LI, w_LP, w_LC, w_PI, w_PL, w_PC]; exact h.2.2.2.1
  · rw [e2, e3, e4, cp _ _ r (by omega), cp _ _ r (by omega), cp _ _ r (by omega)]
    exact h.2.2.2.2.1 r hr
  · rw [eL]; exact h.2.2.2.2.2.1
  · obtain ⟨q, q1, q2⟩ := h.2.2.2.2.2.2 c hc
    refine ⟨q, ?_, cOk_w q2 hF.2.2.2.1 (xF_I hF (fun k => by unfold Sld; omega))⟩
    rw [f2 c (by omega) (by omega)]
    exact q1
theorem ML_cp {f f' : Nat → Int32} {n : Nat} {X : mX} (h : ML f n X) (e : ∀ k, k < 55 → f' k = f k) : ML f' n X := by
  obtain ⟨hX, h0, h1, h2, h3, h4⟩ := h
  have hn := hX.2.2.2.2.1
  have hC := hX.2.2.2.1
  refine ⟨hX, by rw [e 0 (by omega)]; exact h0, by rw [e 1 (by omega)]; exact h1, by rw [e 2 (by omega)]; exact h2, fun r hr => ?_, fun c hc => ?_⟩
  · rw [e _ (by omega), e _ (by omega), e _ (by omega), e _ (by omega)]
    exact h3 r hr
  · rw [e _ (by omega), e _ (by omega)]
    exact h4 c hc
theorem M12_18_19 (d : Nat) (σ : xS) : ∃ σ', run (d + 1) (xentry 12 [.inr (.inr (18, (some 0))), .inr (.inr (19, (some 0)))] σ) = some ((0, 0, none), σ') ∧ (∀ k, k < 55 → rI σ' 19 0 k = rI σ 18 0 k) ∧ xF (fun r _ _ => r = 19) σ σ' := by
  have loop : ∀ (m k : Nat) (σ : xS), k + m = 55 → ∃ σ', run (d + 1) (12, 2, [some (.inr (.inr (18, (some 0)))), some (.inr (.inr (19, (some 0)))), some (.inl (nI (k)))], [], σ) = some ((0, 0, none), σ') ∧ (∀ a, k ≤ a → a < 55 → rI σ' 19 0 a = rI σ 18 0 a) ∧ (∀ a, a < k → rI σ' 19 0 a = rI σ 19 0 a) ∧ xF (fun r _ _ => r = 19) σ σ' := by
    intro m
    induction m with
    | zero =>
      intro k σ hk
      refine ⟨σ, ?_, fun a h1 h2 => by omega, fun a _ => rfl, xF_refl σ⟩
      rw [B12_2_18_19]
      simp (disch := omega) only [n_cl, n_lt, n_le, n_eq, n_lt0, n_0lt, n_le0, n_eq0, n_gneq, n_ngeq, n_ng0, n_nglt, n_glt, n_gle, n_ltg, n_leg, n_gg, n_ge0, n_add, n_mul, n_rem, n_shl1, n_and, n_or, n_bit, n_not, n_not', n_B1, n_B0, n_BB, obind, xite_T, xite_F, xite_not, xite_same, oI_s, oI_n, Bool.false_eq_true, reduceCtorEq, eq_self, Classical.not_not, bI_T, bI_Fa, bI_0, bI_n0, bI_x, xb_0, xb_1, xite_bI, xite_bI', not_true_eq_false, not_false_eq_true, Nat.zero_add, Nat.add_zero, Nat.mul_zero, Nat.mul_one, Nat.one_mul, reduceIte, Nat.reduceEqDiff, Nat.reduceAdd, Nat.reduceMul, Nat.reduceSub, Nat.reduceLT, Nat.reduceLeDiff, Nat.reducePow, ite_true, ite_false, if_true, if_false, and_true, true_and, false_and, and_false, or_false, false_or, true_or, or_true, ne_eq, xite_t, xite_f, ]
    | succ m ih =>
      intro k σ hk
      obtain ⟨σ', f1, f2, f3, f4⟩ := ih (k + 1) (wI σ 19 0 k (rI σ 18 0 k)) (by omega)
      refine ⟨σ', ?_, fun a h1 h2 => ?_, fun a h => ?_, xF_trans (xF_wI (xF_refl σ) _ rfl) f4⟩
      · rw [B12_2_18_19]
        simp (disch := omega) only [n_cl, n_lt, n_le, n_eq, n_lt0, n_0lt, n_le0, n_eq0, n_gneq, n_ngeq, n_ng0, n_nglt, n_glt, n_gle, n_ltg, n_leg, n_gg, n_ge0, n_add, n_mul, n_rem, n_shl1, n_and, n_or, n_bit, n_not, n_not', n_B1, n_B0, n_BB, obind, xite_T, xite_F, xite_not, xite_same, oI_s, oI_n, Bool.false_eq_true, reduceCtorEq, eq_self, Classical.not_not, bI_T, bI_Fa, bI_0, bI_n0, bI_x, xb_0, xb_1, xite_bI, xite_bI', not_true_eq_false, not_false_eq_true, Nat.zero_add, Nat.add_zero, Nat.mul_zero, Nat.mul_one, Nat.one_mul, reduceIte, Nat.reduceEqDiff, Nat.reduceAdd, Nat.reduceMul, Nat.reduceSub, Nat.reduceLT, Nat.reduceLeDiff, Nat.reducePow, ite_true, ite_false, if_true, if_false, and_true, true_and, false_and, and_false, or_false, false_or, true_or, or_true, ne_eq, xite_t, xite_f, ]
        exact f1
      · by_cases e : a = k
        · rw [e, f3 k (by omega), w_Is]
        · rw [f2 a (by omega) h2, w_I2 (by omega)]
      · rw [f3 a (by omega), w_In (by omega)]
  obtain ⟨σ', f1, f2, f3, f4⟩ := loop 55 0 σ (by omega)
  refine ⟨σ', ?_, fun k hk => f2 k (by omega) hk, f4⟩
  rw [B12_0_18_19]
  exact f1
theorem M12_19_18 (d : Nat) (σ : xS) : ∃ σ', run (d + 1) (xentry 12 [.inr (.inr (19, (some 0))), .inr (.inr (18, (some 0)))] σ) = some ((0, 0, none), σ') ∧ (∀ k, k < 55 → rI σ' 18 0 k = rI σ 19 0 k) ∧ xF (fun r _ _ => r = 18) σ σ' := by
  have loop : ∀ (m k : Nat) (σ : xS), k + m = 55 → ∃ σ', run (d + 1) (12, 2, [some (.inr (.inr (19, (some 0)))), some (.inr (.inr (18, (some 0)))), some (.inl (nI (k)))], [], σ) = some ((0, 0, none), σ') ∧ (∀ a, k ≤ a → a < 55 → rI σ' 18 0 a = rI σ 19 0 a) ∧ (∀ a, a < k → rI σ' 18 0 a = rI σ 18 0 a) ∧ xF (fun r _ _ => r = 18) σ σ' := by
    intro m
    induction m with
    | zero =>
      intro k σ hk
      refine ⟨σ, ?_, fun a h1 h2 => by omega, fun a _ => rfl, xF_refl σ⟩
      rw [B12_2_19_18]
      simp (disch := omega) only [n_cl, n_lt, n_le, n_eq, n_lt0, n_0lt, n_le0, n_eq0, n_gneq, n_ngeq, n_ng0, n_nglt, n_glt, n_gle, n_ltg, n_leg, n_gg, n_ge0, n_add, n_mul, n_rem, n_shl1, n_and, n_or, n_bit, n_not, n_not', n_B1, n_B0, n_BB, obind, xite_T, xite_F, xite_not, xite_same, oI_s, oI_n, Bool.false_eq_true, reduceCtorEq, eq_self, Classical.not_not, bI_T, bI_Fa, bI_0, bI_n0, bI_x, xb_0, xb_1, xite_bI, xite_bI', not_true_eq_false, not_false_eq_true, Nat.zero_add, Nat.add_zero, Nat.mul_zero, Nat.mul_one, Nat.one_mul, reduceIte, Nat.reduceEqDiff, Nat.reduceAdd, Nat.reduceMul, Nat.reduceSub, Nat.reduceLT, Nat.reduceLeDiff, Nat.reducePow, ite_true, ite_false, if_true, if_false, and_true, true_and, false_and, and_false, or_false, false_or, true_or, or_true, ne_eq, xite_t, xite_f, ]
    | succ m ih =>
      intro k σ hk
      obtain ⟨σ', f1, f2, f3, f4⟩ := ih (k + 1) (wI σ 18 0 k (rI σ 19 0 k)) (by omega)
      refine ⟨σ', ?_, fun a h1 h2 => ?_, fun a h => ?_, xF_trans (xF_wI (xF_refl σ) _ rfl) f4⟩
      · rw [B12_2_19_18]
        simp (disch := omega) only [n_cl, n_lt, n_le, n_eq, n_lt0, n_0lt, n_le0, n_eq0, n_gneq, n_ngeq, n_ng0, n_nglt, n_glt, n_gle, n_ltg, n_leg, n_gg, n_ge0, n_add, n_mul, n_rem, n_shl1, n_and, n_or, n_bit, n_not, n_not', n_B1, n_B0, n_BB, obind, xite_T, xite_F, xite_not, xite_same, oI_s, oI_n, Bool.false_eq_true, reduceCtorEq, eq_self, Classical.not_not, bI_T, bI_Fa, bI_0, bI_n0, bI_x, xb_0, xb_1, xite_bI, xite_bI', not_true_eq_false, not_false_eq_true, Nat.zero_add, Nat.add_zero, Nat.mul_zero, Nat.mul_one, Nat.one_mul, reduceIte, Nat.reduceEqDiff, Nat.reduceAdd, Nat.reduceMul, Nat.reduceSub, Nat.reduceLT, Nat.reduceLeDiff, Nat.reducePow, ite_true, ite_false, if_true, if_false, and_true, true_and, false_and, and_false, or_false, false_or, true_or, or_true, ne_eq, xite_t, xite_f, ]
        exact f1
      · by_cases e : a = k
        · rw [e, f3 k (by omega), w_Is]
        · rw [f2 a (by omega) h2, w_I2 (by omega)]
      · rw [f3 a (by omega), w_In (by omega)]
  obtain ⟨σ', f1, f2, f3, f4⟩ := loop 55 0 σ (by omega)
  refine ⟨σ', ?_, fun k hk => f2 k (by omega) hk, f4⟩
  rw [B12_0_19_18]
  exact f1
theorem M12_18_20 (d : Nat) (σ : xS) : ∃ σ', run (d + 1) (xentry 12 [.inr (.inr (18, (some 0))), .inr (.inr (20, (some 0)))] σ) = some ((0, 0, none), σ') ∧ (∀ k, k < 55 → rI σ' 20 0 k = rI σ 18 0 k) ∧ xF (fun r _ _ => r = 20) σ σ' := by
  have loop : ∀ (m k : Nat) (σ : xS), k + m = 55 → ∃ σ', run (d + 1) (12, 2, [some (.inr (.inr (18, (some 0)))), some (.inr (.inr (20, (some 0)))), some (.inl (nI (k)))], [], σ) = some ((0, 0, none), σ') ∧ (∀ a, k ≤ a → a < 55 → rI σ' 20 0 a = rI σ 18 0 a) ∧ (∀ a, a < k → rI σ' 20 0 a = rI σ 20 0 a) ∧ xF (fun r _ _ => r = 20) σ σ' := by
    intro m
    induction m with
    | zero =>
      intro k σ hk
      refine ⟨σ, ?_, fun a h1 h2 => by omega, fun a _ => rfl, xF_refl σ⟩
      rw [B12_2_18_20]
      simp (disch := omega) only [n_cl, n_lt, n_le, n_eq, n_lt0, n_0lt, n_le0, n_eq0, n_gneq, n_ngeq, n_ng0, n_nglt, n_glt, n_gle, n_ltg, n_leg, n_gg, n_ge0, n_add, n_mul, n_rem, n_shl1, n_and, n_or, n_bit, n_not, n_not', n_B1, n_B0, n_BB, obind, xite_T, xite_F, xite_not, xite_same, oI_s, oI_n, Bool.false_eq_true, reduceCtorEq, eq_self, Classical.not_not, bI_T, bI_Fa, bI_0, bI_n0, bI_x, xb_0, xb_1, xite_bI, xite_bI', not_true_eq_false, not_false_eq_true, Nat.zero_add, Nat.add_zero, Nat.mul_zero, Nat.mul_one, Nat.one_mul, reduceIte, Nat.reduceEqDiff, Nat.reduceAdd, Nat.reduceMul, Nat.reduceSub, Nat.reduceLT, Nat.reduceLeDiff, Nat.reducePow, ite_true, ite_false, if_true, if_false, and_true, true_and, false_and, and_false, or_false, false_or, true_or, or_true, ne_eq, xite_t, xite_f, ]
    | succ m ih =>
      intro k σ hk
      obtain ⟨σ', f1, f2, f3, f4⟩ := ih (k + 1) (wI σ 20 0 k (rI σ 18 0 k)) (by omega)
      refine ⟨σ', ?_, fun a h1 h2 => ?_, fun a h => ?_, xF_trans (xF_wI (xF_refl σ) _ rfl) f4⟩
      · rw [B12_2_18_20]
        simp (disch := omega) only [n_cl, n_lt, n_le, n_eq, n_lt0, n_0lt, n_le0, n_eq0, n_gneq, n_ngeq, n_ng0, n_nglt, n_glt, n_gle, n_ltg, n_leg, n_gg, n_ge0, n_add, n_mul, n_rem, n_shl1, n_and, n_or, n_bit, n_not, n_not', n_B1, n_B0, n_BB, obind, xite_T, xite_F, xite_not, xite_same, oI_s, oI_n, Bool.false_eq_true, reduceCtorEq, eq_self, Classical.not_not, bI_T, bI_Fa, bI_0, bI_n0, bI_x, xb_0, xb_1, xite_bI, xite_bI', not_true_eq_false, not_false_eq_true, Nat.zero_add, Nat.add_zero, Nat.mul_zero, Nat.mul_one, Nat.one_mul, reduceIte, Nat.reduceEqDiff, Nat.reduceAdd, Nat.reduceMul, Nat.reduceSub, Nat.reduceLT, Nat.reduceLeDiff, Nat.reducePow, ite_true, ite_false, if_true, if_false, and_true, true_and, false_and, and_false, or_false, false_or, true_or, or_true, ne_eq, xite_t, xite_f, ]
        exact f1
      · by_cases e : a = k
        · rw [e, f3 k (by omega), w_Is]
        · rw [f2 a (by omega) h2, w_I2 (by omega)]
      · rw [f3 a (by omega), w_In (by omega)]
  obtain ⟨σ', f1, f2, f3, f4⟩ := loop 55 0 σ (by omega)
  refine ⟨σ', ?_, fun k hk => f2 k (by omega) hk, f4⟩
  rw [B12_0_18_20]
  exact f1
theorem M12_20_18 (d : Nat) (σ : xS) : ∃ σ', run (d + 1) (xentry 12 [.inr (.inr (20, (some 0))), .inr (.inr (18, (some 0)))] σ) = some ((0, 0, none), σ') ∧ (∀ k, k < 55 → rI σ' 18 0 k = rI σ 20 0 k) ∧ xF (fun r _ _ => r = 18) σ σ' := by
  have loop : ∀ (m k : Nat) (σ : xS), k + m = 55 → ∃ σ', run (d + 1) (12, 2, [some (.inr (.inr (20, (some 0)))), some (.inr (.inr (18, (some 0)))), some (.inl (nI (k)))], [], σ) = some ((0, 0, none), σ') ∧ (∀ a, k ≤ a → a < 55 → rI σ' 18 0 a = rI σ 20 0 a) ∧ (∀ a, a < k → rI σ' 18 0 a = rI σ 18 0 a) ∧ xF (fun r _ _ => r = 18) σ σ' := by
    intro m
    induction m with
    | zero =>
      intro k σ hk
      refine ⟨σ, ?_, fun a h1 h2 => by omega, fun a _ => rfl, xF_refl σ⟩
      rw [B12_2_20_18]
      simp (disch := omega) only [n_cl, n_lt, n_le, n_eq, n_lt0, n_0lt, n_le0, n_eq0, n_gneq, n_ngeq, n_ng0, n_nglt, n_glt, n_gle, n_ltg, n_leg, n_gg, n_ge0, n_add, n_mul, n_rem, n_shl1, n_and, n_or, n_bit, n_not, n_not', n_B1, n_B0, n_BB, obind, xite_T, xite_F, xite_not, xite_same, oI_s, oI_n, Bool.false_eq_true, reduceCtorEq, eq_self, Classical.not_not, bI_T, bI_Fa, bI_0, bI_n0, bI_x, xb_0, xb_1, xite_bI, xite_bI', not_true_eq_false, not_false_eq_true, Nat.zero_add, Nat.add_zero, Nat.mul_zero, Nat.mul_one, Nat.one_mul, reduceIte, Nat.reduceEqDiff, Nat.reduceAdd, Nat.reduceMul, Nat.reduceSub, Nat.reduceLT, Nat.reduceLeDiff, Nat.reducePow, ite_true, ite_false, if_true, if_false, and_true, true_and, false_and, and_false, or_false, false_or, true_or, or_true, ne_eq, xite_t, xite_f, ]
    | succ m ih =>
      intro k σ hk
      obtain ⟨σ', f1, f2, f3, f4⟩ := ih (k + 1) (wI σ 18 0 k (rI σ 20 0 k)) (by omega)
      refine ⟨σ', ?_, fun a h1 h2 => ?_, fun a h => ?_, xF_trans (xF_wI (xF_refl σ) _ rfl) f4⟩
      · rw [B12_2_20_18]
        simp (disch := omega) only [n_cl, n_lt, n_le, n_eq, n_lt0, n_0lt, n_le0, n_eq0, n_gneq, n_ngeq, n_ng0, n_nglt, n_glt, n_gle, n_ltg, n_leg, n_gg, n_ge0, n_add, n_mul, n_rem, n_shl1, n_and, n_or, n_bit, n_not, n_not', n_B1, n_B0, n_BB, obind, xite_T, xite_F, xite_not, xite_same, oI_s, oI_n, Bool.false_eq_true, reduceCtorEq, eq_self, Classical.not_not, bI_T, bI_Fa, bI_0, bI_n0, bI_x, xb_0, xb_1, xite_bI, xite_bI', not_true_eq_false, not_false_eq_true, Nat.zero_add, Nat.add_zero, Nat.mul_zero, Nat.mul_one, Nat.one_mul, reduceIte, Nat.reduceEqDiff, Nat.reduceAdd, Nat.reduceMul, Nat.reduceSub, Nat.reduceLT, Nat.reduceLeDiff, Nat.reducePow, ite_true, ite_false, if_true, if_false, and_true, true_and, false_and, and_false, or_false, false_or, true_or, or_true, ne_eq, xite_t, xite_f, ]
        exact f1
      · by_cases e : a = k
        · rw [e, f3 k (by omega), w_Is]
        · rw [f2 a (by omega) h2, w_I2 (by omega)]
      · rw [f3 a (by omega), w_In (by omega)]
  obtain ⟨σ', f1, f2, f3, f4⟩ := loop 55 0 σ (by omega)
  refine ⟨σ', ?_, fun k hk => f2 k (by omega) hk, f4⟩
  rw [B12_0_20_18]
  exact f1
theorem M12_18_21 (d : Nat) (σ : xS) : ∃ σ', run (d + 1) (xentry 12 [.inr (.inr (18, (some 0))), .inr (.inr (21, (some 0)))] σ) = some ((0, 0, none), σ') ∧ (∀ k, k < 55 → rI σ' 21 0 k = rI σ 18 0 k) ∧ xF (fun r _ _ => r = 21) σ σ' := by
  have loop : ∀ (m k : Nat) (σ : xS), k + m = 55 → ∃ σ', run (d + 1) (12, 2, [some (.inr (.inr (18, (some 0)))), some (.inr (.inr (21, (some 0)))), some (.inl (nI (k)))], [], σ) = some ((0, 0, none), σ') ∧ (∀ a, k ≤ a → a < 55 → rI σ' 21 0 a = rI σ 18 0 a) ∧ (∀ a, a < k → rI σ' 21 0 a = rI σ 21 0 a) ∧ xF (fun r _ _ => r = 21) σ σ' := by
    intro m
    induction m with
    | zero =>
      intro k σ hk
      refine ⟨σ, ?_, fun a h1 h2 => by omega, fun a _ => rfl, xF_refl σ⟩
      rw [B12_2_18_21]
      simp (disch := omega) only [n_cl, n_lt, n_le, n_eq, n_lt0, n_0lt, n_le0, n_eq0, n_gneq, n_ngeq, n_ng0, n_nglt, n_glt, n_gle, n_ltg, n_leg, n_gg, n_ge0, n_add, n_mul, n_rem, n_shl1, n_and, n_or, n_bit, n_not, n_not', n_B1, n_B0, n_BB, obind, xite_T, xite_F, xite_not, xite_same, oI_s, oI_n, Bool.false_eq_true, reduceCtorEq, eq_self, Classical.not_not, bI_T, bI_Fa, bI_0, bI_n0, bI_x, xb_0, xb_1, xite_bI, xite_bI', not_true_eq_false, not_false_eq_true, Nat.zero_add, Nat.add_zero, Nat.mul_zero, Nat.mul_one, Nat.one_mul, reduceIte, Nat.reduceEqDiff, Nat.reduceAdd, Nat.reduceMul, Nat.reduceSub, Nat.reduceLT, Nat.reduceLeDiff, Nat.reducePow, ite_true, ite_false, if_true, if_false, and_true, true_and, false_and, and_false, or_false, false_or, true_or, or_true, ne_eq, xite_t, xite_f, ]
    | succ m ih =>
      intro k σ hk
      obtain ⟨σ', f1, f2, f3, f4⟩ := ih (k + 1) (wI σ 21 0 k (rI σ 18 0 k)) (by omega)
      refine ⟨σ', ?_, fun a h1 h2 => ?_, fun a h => ?_, xF_trans (xF_wI (xF_refl σ) _ rfl) f4⟩
      · rw [B12_2_18_21]
        simp (disch := omega) only [n_cl, n_lt, n_le, n_eq, n_lt0, n_0lt, n_le0, n_eq0, n_gneq, n_ngeq, n_ng0, n_nglt, n_glt, n_gle, n_ltg, n_leg, n_gg, n_ge0, n_add, n_mul, n_rem, n_shl1, n_and, n_or, n_bit, n_not, n_not', n_B1, n_B0, n_BB, obind, xite_T, xite_F, xite_not, xite_same, oI_s, oI_n, Bool.false_eq_true, reduceCtorEq, eq_self, Classical.not_not, bI_T, bI_Fa, bI_0, bI_n0, bI_x, xb_0, xb_1, xite_bI, xite_bI', not_true_eq_false, not_false_eq_true, Nat.zero_add, Nat.add_zero, Nat.mul_zero, Nat.mul_one, Nat.one_mul, reduceIte, Nat.reduceEqDiff, Nat.reduceAdd, Nat.reduceMul, Nat.reduceSub, Nat.reduceLT, Nat.reduceLeDiff, Nat.reducePow, ite_true, ite_false, if_true, if_false, and_true, true_and, false_and, and_false, or_false, false_or, true_or, or_true, ne_eq, xite_t, xite_f, ]
        exact f1
      · by_cases e : a = k
        · rw [e, f3 k (by omega), w_Is]
        · rw [f2 a (by omega) h2, w_I2 (by omega)]
      · rw [f3 a (by omega), w_In (by omega)]
  obtain ⟨σ', f1, f2, f3, f4⟩ := loop 55 0 σ (by omega)
  refine ⟨σ', ?_, fun k hk => f2 k (by omega) hk, f4⟩
  rw [B12_0_18_21]
  exact f1
theorem M12_21_18 (d : Nat) (σ : xS) : ∃ σ', run (d + 1) (xentry 12 [.inr (.inr (21, (some 0))), .inr (.inr (18, (some 0)))] σ) = some ((0, 0, none), σ') ∧ (∀ k, k < 55 → rI σ' 18 0 k = rI σ 21 0 k) ∧ xF (fun r _ _ => r = 18) σ σ' := by
  have loop : ∀ (m k : Nat) (σ : xS), k + m = 55 → ∃ σ', run (d + 1) (12, 2, [some (.inr (.inr (21, (some 0)))), some (.inr (.inr (18, (some 0)))), some (.inl (nI (k)))], [], σ) = some ((0, 0, none), σ') ∧ (∀ a, k ≤ a → a < 55 → rI σ' 18 0 a = rI σ 21 0 a) ∧ (∀ a, a < k → rI σ' 18 0 a = rI σ 18 0 a) ∧ xF (fun r _ _ => r = 18) σ σ' := by
    intro m
    induction m with
    | zero =>
      intro k σ hk
      refine ⟨σ, ?_, fun a h1 h2 => by omega, fun a _ => rfl, xF_refl σ⟩
      rw [B12_2_21_18]
      simp (disch := omega) only [n_cl, n_lt, n_le, n_eq, n_lt0, n_0lt, n_le0, n_eq0, n_gneq, n_ngeq, n_ng0, n_nglt, n_glt, n_gle, n_ltg, n_leg, n_gg, n_ge0, n_add, n_mul, n_rem, n_shl1, n_and, n_or, n_bit, n_not, n_not', n_B1, n_B0, n_BB, obind, xite_T, xite_F, xite_not, xite_same, oI_s, oI_n, Bool.false_eq_true, reduceCtorEq, eq_self, Classical.not_not, bI_T, bI_Fa, bI_0, bI_n0, bI_x, xb_0, xb_1, xite_bI, xite_bI', not_true_eq_false, not_false_eq_true, Nat.zero_add, Nat.add_zero, Nat.mul_zero, Nat.mul_one, Nat.one_mul, reduceIte, Nat.reduceEqDiff, Nat.reduceAdd, Nat.reduceMul, Nat.reduceSub, Nat.reduceLT, Nat.reduceLeDiff, Nat.reducePow, ite_true, ite_false, if_true, if_false, and_true, true_and, false_and, and_false, or_false, false_or, true_or, or_true, ne_eq, xite_t, xite_f, ]
    | succ m ih =>
      intro k σ hk
      obtain ⟨σ', f1, f2, f3, f4⟩ := ih (k + 1) (wI σ 18 0 k (rI σ 21 0 k)) (by omega)
      refine ⟨σ', ?_, fun a h1 h2 => ?_, fun a h => ?_, xF_trans (xF_wI (xF_refl σ) _ rfl) f4⟩
      · rw [B12_2_21_18]
        simp (disch := omega) only [n_cl, n_lt, n_le, n_eq, n_lt0, n_0lt, n_le0, n_eq0, n_gneq, n_ngeq, n_ng0, n_nglt, n_glt, n_gle, n_ltg, n_leg, n_gg, n_ge0, n_add, n_mul, n_rem, n_shl1, n_and, n_or, n_bit, n_not, n_not', n_B1, n_B0, n_BB, obind, xite_T, xite_F, xite_not, xite_same, oI_s, oI_n, Bool.false_eq_true, reduceCtorEq, eq_self, Classical.not_not, bI_T, bI_Fa, bI_0, bI_n0, bI_x, xb_0, xb_1, xite_bI, xite_bI', not_true_eq_false, not_false_eq_true, Nat.zero_add, Nat.add_zero, Nat.mul_zero, Nat.mul_one, Nat.one_mul, reduceIte, Nat.reduceEqDiff, Nat.reduceAdd, Nat.reduceMul, Nat.reduceSub, Nat.reduceLT, Nat.reduceLeDiff, Nat.reducePow, ite_true, ite_false, if_true, if_false, and_true, true_and, false_and, and_false, or_false, false_or, true_or, or_true, ne_eq, xite_t, xite_f, ]
        exact f1
      · by_cases e : a = k
        · rw [e, f3 k (by omega), w_Is]
        · rw [f2 a (by omega) h2, w_I2 (by omega)]
      · rw [f3 a (by omega), w_In (by omega)]
  obtain ⟨σ', f1, f2, f3, f4⟩ := loop 55 0 σ (by omega)
  refine ⟨σ', ?_, fun k hk => f2 k (by omega) hk, f4⟩
  rw [B12_0_21_18]
  exact f1
theorem duo_image (d : Nat) (S : mG) : Duo (d + 60) (fun σ => xentry 158 [.inr (.inr (0, (some 0)))] σ) (fun σ => xentry 66 [.inr (.inr (17, (some 0)))] σ) S := by
  refine ⟨nI (xaR S.1), (S.1, some S.1, S.2.2), fun σ h => ?_, fun σ h => ?_⟩
  · obtain ⟨σ', f1, f2, f3⟩ := C91 (d + 58) σ (i := 2) (j := 0) (by omega) h.1
    have hF : xF (fun r j k => Sld 2 r j k ∨ (r = 0 ∧ k = 3)) σ (wI σ' 0 0 3 (nI 1)) := xF_wI (xF_le f3 (fun _ _ _ s => Or.inl s)) _ (Or.inr ⟨rfl, rfl⟩)
    have hC0 : CL (wI σ' 0 0 3 (nI 1)) 0 S.1 := CL_F h.1 hF (fun r k hr => by unfold Sld; omega) (fun j k => by unfold Sld; omega)
    have hF2 : xF (fun r j k => r = 0 ∧ k = 3) σ' (wI σ' 0 0 3 (nI 1)) := xF_wI (xF_refl σ') _ ⟨rfl, rfl⟩
    refine ⟨wI σ' 0 0 3 (nI 1), ?_, ⟨hC0, ?_, fun Y hY => ?_, fun e he => ?_⟩, kC_F hF (fun r j k s => by unfold Sld at s; omega)⟩
    · show run (d + 60) (xentry 158 _ σ) = _
      rw [B158_0, f1]
      simp (disch := omega) only [n_cl, n_lt, n_le, n_eq, n_lt0, n_0lt, n_le0, n_eq0, n_gneq, n_ngeq, n_ng0, n_nglt, n_glt, n_gle, n_ltg, n_leg, n_gg, n_ge0, n_add, n_mul, n_rem, n_shl1, n_and, n_or, n_bit, n_not, n_not', n_B1, n_B0, n_BB, obind, xite_T, xite_F, xite_not, xite_same, oI_s, oI_n, Bool.false_eq_true, reduceCtorEq, eq_self, Classical.not_not, bI_T, bI_Fa, bI_0, bI_n0, bI_x, xb_0, xb_1, xite_bI, xite_bI', not_true_eq_false, not_false_eq_true, Nat.zero_add, Nat.add_zero, Nat.mul_zero, Nat.mul_one, Nat.one_mul, reduceIte, Nat.reduceEqDiff, Nat.reduceAdd, Nat.reduceMul, Nat.reduceSub, Nat.reduceLT, Nat.reduceLeDiff, Nat.reducePow, ite_true, ite_false, if_true, if_false, and_true, true_and, false_and, and_false, or_false, false_or, true_or, or_true, ne_eq, xite_t, xite_f, w_I2, w_Is, w_In, w_IL, w_IP, w_IC, w_LI, w_LP, w_LC, w_PI, w_PL, w_PC]
      have e : rI (wI σ' 0 0 3 (nI 1)) 1 0 1 = nI (xaR S.1) := hC0.2.2.1
      rw [w_I2 (by omega)] at e
      rw [e, xite_t (by decide)]
    · simp (disch := omega) only [n_cl, n_lt, n_le, n_eq, n_lt0, n_0lt, n_le0, n_eq0, n_gneq, n_ngeq, n_ng0, n_nglt, n_glt, n_gle, n_ltg, n_leg, n_gg, n_ge0, n_add, n_mul, n_rem, n_shl1, n_and, n_or, n_bit, n_not, n_not', n_B1, n_B0, n_BB, obind, xite_T, xite_F, xite_not, xite_same, oI_s, oI_n, Bool.false_eq_true, reduceCtorEq, eq_self, Classical.not_not, bI_T, bI_Fa, bI_0, bI_n0, bI_x, xb_0, xb_1, xite_bI, xite_bI', not_true_eq_false, not_false_eq_true, Nat.zero_add, Nat.add_zero, Nat.mul_zero, Nat.mul_one, Nat.one_mul, reduceIte, Nat.reduceEqDiff, Nat.reduceAdd, Nat.reduceMul, Nat.reduceSub, Nat.reduceLT, Nat.reduceLeDiff, Nat.reducePow, ite_true, ite_false, if_true, if_false, and_true, true_and, false_and, and_false, or_false, false_or, true_or, or_true, ne_eq, xite_t, xite_f, w_I2, w_Is, w_In, w_IL, w_IP, w_IC, w_LI, w_LP, w_LC, w_PI, w_PL, w_PC]
      rfl
    · cases hY
      exact CL_F f2 hF2 (fun r k hr => by omega) (fun j k => by omega)
    · exact cSh_G (h.2.2.2 e he) (xH_F (n := 0) hF (fun j k => by unfold Sld; omega)) (by unfold Sld; omega) (by unfold Sld; omega) (fun k => by unfold Sld; omega) (fun k => by unfold Sld; omega)
  · obtain ⟨σ', f1, f2, f3⟩ := M12_18_19 (d + 58) σ
    have hF : xF (fun r j k => r = 19 ∨ (r = 17 ∧ k = 10)) σ (wI σ' 17 0 10 (nI 1)) := xF_wI (xF_le f3 (fun _ _ _ s => Or.inl s)) _ (Or.inr ⟨rfl, rfl⟩)
    have e18 : rI (wI σ' 17 0 10 (nI 1)) 18 0 = rI σ 18 0 := xF_I hF (fun k => by omega)
    refine ⟨wI σ' 17 0 10 (nI 1), ?_, ⟨by rw [e18]; exact h.1, ?_, fun Y hY => ?_, fun e he => ?_⟩, xF_le hF (fun r j k s => by unfold Smd; omega)⟩
    · show run (d + 60) (xentry 66 _ σ) = _
      rw [B66_0, f1]
      simp (disch := omega) only [n_cl, n_lt, n_le, n_eq, n_lt0, n_0lt, n_le0, n_eq0, n_gneq, n_ngeq, n_ng0, n_nglt, n_glt, n_gle, n_ltg, n_leg, n_gg, n_ge0, n_add, n_mul, n_rem, n_shl1, n_and, n_or, n_bit, n_not, n_not', n_B1, n_B0, n_BB, obind, xite_T, xite_F, xite_not, xite_same, oI_s, oI_n, Bool.false_eq_true, reduceCtorEq, eq_self, Classical.not_not, bI_T, bI_Fa, bI_0, bI_n0, bI_x, xb_0, xb_1, xite_bI, xite_bI', not_true_eq_false, not_false_eq_true, Nat.zero_add, Nat.add_zero, Nat.mul_zero, Nat.mul_one, Nat.one_mul, reduceIte, Nat.reduceEqDiff, Nat.reduceAdd, Nat.reduceMul, Nat.reduceSub, Nat.reduceLT, Nat.reduceLeDiff, Nat.reducePow, ite_true, ite_false, if_true, if_false, and_true, true_and, false_and, and_false, or_false, false_or, true_or, or_true, ne_eq, xite_t, xite_f, e18]
      rw [h.1.2.2.1, xite_t (by decide)]
    · simp (disch := omega) only [n_cl, n_lt, n_le, n_eq, n_lt0, n_0lt, n_le0, n_eq0, n_gneq, n_ngeq, n_ng0, n_nglt, n_glt, n_gle, n_ltg, n_leg, n_gg, n_ge0, n_add, n_mul, n_rem, n_shl1, n_and, n_or, n_bit, n_not, n_not', n_B1, n_B0, n_BB, obind, xite_T, xite_F, xite_not, xite_same, oI_s, oI_n, Bool.false_eq_true, reduceCtorEq, eq_self, Classical.not_not, bI_T, bI_Fa, bI_0, bI_n0, bI_x, xb_0, xb_1, xite_bI, xite_bI', not_true_eq_false, not_false_eq_true, Nat.zero_add, Nat.add_zero, Nat.mul_zero, Nat.mul_one, Nat.one_mul, reduceIte, Nat.reduceEqDiff, Nat.reduceAdd, Nat.reduceMul, Nat.reduceSub, Nat.reduceLT, Nat.reduceLeDiff, Nat.reducePow, ite_true, ite_false, if_true, if_false, and_true, true_and, false_and, and_false, or_false, false_or, true_or, or_true, ne_eq, xite_t, xite_f, w_I2, w_Is, w_In, w_IL, w_IP, w_IC, w_LI, w_LP, w_LC, w_PI, w_PL, w_PC]
      rfl
    · cases hY
      refine ML_cp h.1 (fun k hk => ?_)
      rw [w_I2 (by omega)]
      exact f2 k hk
    · exact mShl_F (h.2.2.2 e he) hF (fun r hr => by omega) (fun j hj => by omega)
theorem duo_restore (d : Nat) (S : mG) : Duo (d + 60) (fun σ => xentry 159 [.inr (.inr (0, (some 0)))] σ) (fun σ => xentry 67 [.inr (.inr (17, (some 0)))] σ) S := by
  obtain ⟨X, o, sh⟩ := S
  cases o with
  | none =>
    refine duo_bad (-nI 3) (fun σ h => ?_) (fun σ h => ?_)
    · have e : rI σ 0 0 3 = nI 0 := h.2.1
      rw [B159_0]
      simp (disch := omega) only [n_cl, n_lt, n_le, n_eq, n_lt0, n_0lt, n_le0, n_eq0, n_gneq, n_ngeq, n_ng0, n_nglt, n_glt, n_gle, n_ltg, n_leg, n_gg, n_ge0, n_add, n_mul, n_rem, n_shl1, n_and, n_or, n_bit, n_not, n_not', n_B1, n_B0, n_BB, obind, xite_T, xite_F, xite_not, xite_same, oI_s, oI_n, Bool.false_eq_true, reduceCtorEq, eq_self, Classical.not_not, bI_T, bI_Fa, bI_0, bI_n0, bI_x, xb_0, xb_1, xite_bI, xite_bI', not_true_eq_false, not_false_eq_true, Nat.zero_add, Nat.add_zero, Nat.mul_zero, Nat.mul_one, Nat.one_mul, reduceIte, Nat.reduceEqDiff, Nat.reduceAdd, Nat.reduceMul, Nat.reduceSub, Nat.reduceLT, Nat.reduceLeDiff, Nat.reducePow, ite_true, ite_false, if_true, if_false, and_true, true_and, false_and, and_false, or_false, false_or, true_or, or_true, ne_eq, xite_t, xite_f, e]
    · have e : rI σ 17 0 10 = nI 0 := h.2.1
      rw [B67_0]
      simp (disch := omega) only [n_cl, n_lt, n_le, n_eq, n_lt0, n_0lt, n_le0, n_eq0, n_gneq, n_ngeq, n_ng0, n_nglt, n_glt, n_gle, n_ltg, n_leg, n_gg, n_ge0, n_add, n_mul, n_rem, n_shl1, n_and, n_or, n_bit, n_not, n_not', n_B1, n_B0, n_BB, obind, xite_T, xite_F, xite_not, xite_same, oI_s, oI_n, Bool.false_eq_true, reduceCtorEq, eq_self, Classical.not_not, bI_T, bI_Fa, bI_0, bI_n0, bI_x, xb_0, xb_1, xite_bI, xite_bI', not_true_eq_false, not_false_eq_true, Nat.zero_add, Nat.add_zero, Nat.mul_zero, Nat.mul_one, Nat.one_mul, reduceIte, Nat.reduceEqDiff, Nat.reduceAdd, Nat.reduceMul, Nat.reduceSub, Nat.reduceLT, Nat.reduceLeDiff, Nat.reducePow, ite_true, ite_false, if_true, if_false, and_true, true_and, false_and, and_false, or_false, false_or, true_or, or_true, ne_eq, xite_t, xite_f, e]
  | some Y =>
    refine ⟨nI (xaR Y), (Y, some Y, sh), fun σ h => ?_, fun σ h => ?_⟩
    · have e : rI σ 0 0 3 = nI 1 := h.2.1
      obtain ⟨σ', f1, f2, f3⟩ := C91 (d + 58) σ (i := 0) (j := 2) (by omega) (h.2.2.1 Y rfl)
      have e2 : rI σ' 1 0 1 = nI (xaR Y) := f2.2.2.1
      refine ⟨σ', ?_, CI_X h (xF_le f3 (fun r j k s => by unfold Sld at s; unfold Snw; omega)) f2, kC_F f3 (fun r j k s => by unfold Sld at s; omega)⟩
      show run (d + 60) (xentry 159 _ σ) = _
      rw [B159_0]
      simp (disch := omega) only [n_cl, n_lt, n_le, n_eq, n_lt0, n_0lt, n_le0, n_eq0, n_gneq, n_ngeq, n_ng0, n_nglt, n_glt, n_gle, n_ltg, n_leg, n_gg, n_ge0, n_add, n_mul, n_rem, n_shl1, n_and, n_or, n_bit, n_not, n_not', n_B1, n_B0, n_BB, obind, xite_T, xite_F, xite_not, xite_same, oI_s, oI_n, Bool.false_eq_true, reduceCtorEq, eq_self, Classical.not_not, bI_T, bI_Fa, bI_0, bI_n0, bI_x, xb_0, xb_1, xite_bI, xite_bI', not_true_eq_false, not_false_eq_true, Nat.zero_add, Nat.add_zero, Nat.mul_zero, Nat.mul_one, Nat.one_mul, reduceIte, Nat.reduceEqDiff, Nat.reduceAdd, Nat.reduceMul, Nat.reduceSub, Nat.reduceLT, Nat.reduceLeDiff, Nat.reducePow, ite_true, ite_false, if_true, if_false, and_true, true_and, false_and, and_false, or_false, false_or, true_or, or_true, ne_eq, xite_t, xite_f, e, f1, e2]
    · have e : rI σ 17 0 10 = nI 1 := h.2.1
      obtain ⟨σ', f1, f2, f3⟩ := M12_19_18 (d + 58) σ
      have hM : ML (rI σ' 18 0) (xaR Y) Y := ML_cp (h.2.2.1 Y rfl) f2
      refine ⟨σ', ?_, MI_M h f3 hM, kM_M f3⟩
      show run (d + 60) (xentry 67 _ σ) = _
      rw [B67_0]
      simp (disch := omega) only [n_cl, n_lt, n_le, n_eq, n_lt0, n_0lt, n_le0, n_eq0, n_gneq, n_ngeq, n_ng0, n_nglt, n_glt, n_gle, n_ltg, n_leg, n_gg, n_ge0, n_add, n_mul, n_rem, n_shl1, n_and, n_or, n_bit, n_not, n_not', n_B1, n_B0, n_BB, obind, xite_T, xite_F, xite_not, xite_same, oI_s, oI_n, Bool.false_eq_true, reduceCtorEq, eq_self, Classical.not_not, bI_T, bI_Fa, bI_0, bI_n0, bI_x, xb_0, xb_1, xite_bI, xite_bI', not_true_eq_false, not_false_eq_true, Nat.zero_add, Nat.add_zero, Nat.mul_zero, Nat.mul_one, Nat.one_mul, reduceIte, Nat.reduceEqDiff, Nat.reduceAdd, Nat.reduceMul, Nat.reduceSub, Nat.reduceLT, Nat.reduceLeDiff, Nat.reducePow, ite_true, ite_false, if_true, if_false, and_true, true_and, false_and, and_false, or_false, false_or, true_or, or_true, ne_eq, xite_t, xite_f, e, f1]
      rw [hM.2.2.1]
