/-! ORDERS -/
def oC (x : mSh) : Nat → Nat → mX → Nat → mO → Nat × mO
  | 0, left, _, mil, least => if left = 0 then (1, mn mil least) else (0, least)
  | m + 1, left, X, mil, least => if left = 0 then (1, mn mil least) else fl (fun k s => if left.testBit k = true then (match tC X x k with
    | none => s
    | some (w, n, p) => (s.1 + (oC x m (nM left (2 ^ k)) (gX X (some (w, n, p))) (mil + smm X p n) s.2).1, (oC x m (nM left (2 ^ k)) (gX X (some (w, n, p))) (mil + smm X p n) s.2).2)) else s) 5 0 (0, least)
def oS (x : mSh) (m left : Nat) (X : mX) (mil k : Nat) (s : Nat × mO) : Nat × mO := if left.testBit k = true then (match tC X x k with
    | none => s
    | some (w, n, p) => (s.1 + (oC x m (nM left (2 ^ k)) (gX X (some (w, n, p))) (mil + smm X p n) s.2).1, (oC x m (nM left (2 ^ k)) (gX X (some (w, n, p))) (mil + smm X p n) s.2).2)) else s
theorem oC_s {x : mSh} {m left : Nat} {X : mX} {mil : Nat} {least : mO} (h : ¬ left = 0) : oC x (m + 1) left X mil least = fl (oS x m left X mil) 5 0 (0, least) := if_neg h
theorem oC_l {x : mSh} {m left : Nat} {X : mX} {mil : Nat} {least : mO} (h : left = 0) : oC x m left X mil least = (1, mn mil least) := by
  cases m with
  | zero => exact if_pos h
  | succ m => exact if_pos h
theorem left_1 : ∀ l, l < 32 → ∀ k, k < 5 → l.testBit k = true → popf 6 (nM l (2 ^ k)) + 1 = popf 6 l ∧ nM l (2 ^ k) < 32 := by decide +kernel
theorem left_0 : ∀ l, l < 32 → popf 6 l = 0 → l = 0 := by decide +kernel
theorem left_00 : popf 6 0 = 0 := by decide
theorem left_N : ∀ N, N ≤ 5 → popf 6 (2 ^ N - 1) = N ∧ 2 ^ N - 1 < 32 := by decide +kernel
theorem gX_W2 {X : mX} {X0 : mX} {x : mSh} {k w n : Nat} {p : Nat → Nat × Nat} (hX : WX (xaR X) X) (ha : akC X0 x k) (h : tC X x k = some (w, n, p)) : WX (xaR X) (gX X (some (w, n, p))) := gX_W hX (tW_ok ha.2.2.2.2.2.1 h).2
theorem oC_bO {x : mSh} {N : Nat} {X0 : mX} (hak : ∀ k, k < N → akC X0 x k) : ∀ m left X mil least, WX (xaR X) X → (∀ j, left.testBit j = true → j < N) → mil + 54 * m ≤ 300 → bO 300 least → bO 300 (oC x m left X mil least).2 := by
  intro m
  induction m with
  | zero =>
    intro left X mil least _ _ hm h
    show bO 300 (if left = 0 then (1, mn mil least) else (0, least)).2
    split
    · exact mn_bO h (by omega)
    · exact h
  | succ m ih =>
    intro left X mil least hX hl hm h
    by_cases h0 : left = 0
    · rw [oC_l h0]; exact mn_bO h (by omega)
    · rw [oC_s h0]
      refine fl_invR (I := fun s : Nat × mO => bO 300 s.2) 5 0 (0, least) (fun k s _ _ hs => ?_) h
      unfold oS
      by_cases hb : left.testBit k = true
      · rw [if_pos hb]
        cases hT : tC X x k with
        | none => exact hs
        | some t =>
          obtain ⟨w, n, p⟩ := t
          have ha := hak k (hl k hb)
          have hmil := tC_mil hX ha hT
          have hW := gX_W2 hX ha hT
          refine ih _ _ _ _ (by rw [gX_R]; exact hW) (fun j hj => hl j ?_) (by omega) hs
          rw [nM_bit] at hj
          cases c : left.testBit j with
          | true => rfl
          | false => rw [c] at hj; cases hj
      · rw [if_neg hb]; exact hs
theorem CL_back {σ : xS} {X : mX} {W : mW} {N : Nat} (h : CL σ 1 (gX X W)) (hX : WX (xaR X) X) (hR : nrep N (xaR X) (xaN X)) : CL (wL σ 1 1 3 (lN N)) 1 X := by
  have hw : rL (wL σ 1 1 3 (lN N)) 1 1 3 = lN N := by
    rw [w_L1]; exact if_pos rfl
  cases W with
  | none => exact ⟨hX, h.2.1, h.2.2.1, h.2.2.2.1, h.2.2.2.2.1, ⟨N, hw, hR⟩, h.2.2.2.2.2.2⟩
  | some t =>
    obtain ⟨w, n, p⟩ := t
    exact ⟨hX, h.2.1, h.2.2.1, h.2.2.2.1, h.2.2.2.2.1, ⟨N, hw, hR⟩, h.2.2.2.2.2.2⟩
theorem C176 (e N : Nat) (x : mSh) (X0 : mX) (hz : x.2.2.2.2.1 = 4 * N) (hN : N ≤ 5) (hak : ∀ k, k < N → akC X0 x k) : ∀ (m d left dep mil : Nat) (X : mX) (least : mO) (σ : xS), m + dep = 5 → left < 32 → popf 6 left ≤ m → (∀ j, left.testBit j = true → j < N) → mil ≤ 54 * dep → xaC X = xaC X0 → CL σ 1 X → cSh σ e x → rI σ 0 0 8 = oI 4 least → bO 300 least →
    ∃ σ', run (d + m + 13) (xentry 176 [.inr (.inr (0, (some 0))), .inr (.inr (14, (some e))), .inl (nI left), .inl (nI dep), .inl (nI mil)] σ) = some ((nI (oC x m left X mil least).1, 0, none), σ') ∧ CL σ' 1 X ∧ rI σ' 0 0 8 = oI 4 (oC x m left X mil least).2 ∧ xF Smi σ σ' := by
  intro m
  induction m with
  | zero =>
    intro d left dep mil X least σ hm hl hp hlN hmil hC h hs he hbo
    have h0 := left_0 left hl (by omega)
    subst h0
    have hw : ∀ v, xF Smi σ (wI σ 0 0 8 v) := fun v => xF_wI (xF_refl σ) _ (by unfold Smi; omega)
    have hcl : ∀ v, CL (wI σ 0 0 8 v) 1 X := fun v => CL_F h (xF_wI (S := fun r j k => r = 0) (xF_refl σ) v rfl) (fun r k hr => by omega) (fun j k => by omega)
    rw [oC_l rfl]
    rw [B176_0]
    cases least with
    | none =>
      refine ⟨wI σ 0 0 8 (nI mil), ?_, hcl _, by simp (disch := omega) only [n_cl, n_lt, n_le, n_eq, n_lt0, n_0lt, n_le0, n_eq0, n_gneq, n_ngeq, n_ng0, n_nglt, n_glt, n_gle, n_ltg, n_leg, n_gg, n_ge0, n_add, n_mul, n_rem, n_shl1, n_and, n_or, n_bit, n_not, n_not', n_B1, n_B0, n_BB, obind, xite_T, xite_F, xite_not, xite_same, oI_s, oI_n, Bool.false_eq_true, reduceCtorEq, eq_self, Classical.not_not, bI_T, bI_Fa, bI_0, bI_n0, bI_x, xb_0, xb_1, xite_bI, xite_bI', not_true_eq_false, not_false_eq_true, Nat.zero_add, Nat.add_zero, Nat.mul_zero, Nat.mul_one, Nat.one_mul, reduceIte, Nat.reduceEqDiff, Nat.reduceAdd, Nat.reduceMul, Nat.reduceSub, Nat.reduceLT, Nat.reduceLeDiff, Nat.reducePow, ite_true, ite_false, if_true, if_false, and_true, true_and, false_and, and_false, or_false, false_or, true_or, or_true, ne_eq, xite_t, xite_f, w_I2, w_Is, w_In, w_IL, w_IP, w_IC, w_LI, w_LP, w_LC, w_PI, w_PL, w_PC]; rfl, hw _⟩
      simp (disch := omega) only [n_cl, n_lt, n_le, n_eq, n_lt0, n_0lt, n_le0, n_eq0, n_gneq, n_ngeq, n_ng0, n_nglt, n_glt, n_gle, n_ltg, n_leg, n_gg, n_ge0, n_add, n_mul, n_rem, n_shl1, n_and, n_or, n_bit, n_not, n_not', n_B1, n_B0, n_BB, obind, xite_T, xite_F, xite_not, xite_same, oI_s, oI_n, Bool.false_eq_true, reduceCtorEq, eq_self, Classical.not_not, bI_T, bI_Fa, bI_0, bI_n0, bI_x, xb_0, xb_1, xite_bI, xite_bI', not_true_eq_false, not_false_eq_true, Nat.zero_add, Nat.add_zero, Nat.mul_zero, Nat.mul_one, Nat.one_mul, reduceIte, Nat.reduceEqDiff, Nat.reduceAdd, Nat.reduceMul, Nat.reduceSub, Nat.reduceLT, Nat.reduceLeDiff, Nat.reducePow, ite_true, ite_false, if_true, if_false, and_true, true_and, false_and, and_false, or_false, false_or, true_or, or_true, ne_eq, xite_t, xite_f, he]
    | some v0 =>
      have hv0 := hbo v0 rfl
      by_cases hle : v0 ≤ mil
      · have e1 : mn mil (some v0) = some v0 := if_pos hle
        rw [e1]
        refine ⟨σ, ?_, h, he, xF_refl σ⟩
        simp (disch := omega) only [n_cl, n_lt, n_le, n_eq, n_lt0, n_0lt, n_le0, n_eq0, n_gneq, n_ngeq, n_ng0, n_nglt, n_glt, n_gle, n_ltg, n_leg, n_gg, n_ge0, n_add, n_mul, n_rem, n_shl1, n_and, n_or, n_bit, n_not, n_not', n_B1, n_B0, n_BB, obind, xite_T, xite_F, xite_not, xite_same, oI_s, oI_n, Bool.false_eq_true, reduceCtorEq, eq_self, Classical.not_not, bI_T, bI_Fa, bI_0, bI_n0, bI_x, xb_0, xb_1, xite_bI, xite_bI', not_true_eq_false, not_false_eq_true, Nat.zero_add, Nat.add_zero, Nat.mul_zero, Nat.mul_one, Nat.one_mul, reduceIte, Nat.reduceEqDiff, Nat.reduceAdd, Nat.reduceMul, Nat.reduceSub, Nat.reduceLT, Nat.reduceLeDiff, Nat.reducePow, ite_true, ite_false, if_true, if_false, and_true, true_and, false_and, and_false, or_false, false_or, true_or, or_true, ne_eq, xite_t, xite_f, he]
      · have e1 : mn mil (some v0) = some mil := if_neg hle
        rw [e1]
        refine ⟨wI σ 0 0 8 (nI mil), ?_, hcl _, by simp (disch := omega) only [n_cl, n_lt, n_le, n_eq, n_lt0, n_0lt, n_le0, n_eq0, n_gneq, n_ngeq, n_ng0, n_nglt, n_glt, n_gle, n_ltg, n_leg, n_gg, n_ge0, n_add, n_mul, n_rem, n_shl1, n_and, n_or, n_bit, n_not, n_not', n_B1, n_B0, n_BB, obind, xite_T, xite_F, xite_not, xite_same, oI_s, oI_n, Bool.false_eq_true, reduceCtorEq, eq_self, Classical.not_not, bI_T, bI_Fa, bI_0, bI_n0, bI_x, xb_0, xb_1, xite_bI, xite_bI', not_true_eq_false, not_false_eq_true, Nat.zero_add, Nat.add_zero, Nat.mul_zero, Nat.mul_one, Nat.one_mul, reduceIte, Nat.reduceEqDiff, Nat.reduceAdd, Nat.reduceMul, Nat.reduceSub, Nat.reduceLT, Nat.reduceLeDiff, Nat.reducePow, ite_true, ite_false, if_true, if_false, and_true, true_and, false_and, and_false, or_false, false_or, true_or, or_true, ne_eq, xite_t, xite_f, w_I2, w_Is, w_In, w_IL, w_IP, w_IC, w_LI, w_LP, w_LC, w_PI, w_PL, w_PC], hw _⟩
        simp (disch := omega) only [n_cl, n_lt, n_le, n_eq, n_lt0, n_0lt, n_le0, n_eq0, n_gneq, n_ngeq, n_ng0, n_nglt, n_glt, n_gle, n_ltg, n_leg, n_gg, n_ge0, n_add, n_mul, n_rem, n_shl1, n_and, n_or, n_bit, n_not, n_not', n_B1, n_B0, n_BB, obind, xite_T, xite_F, xite_not, xite_same, oI_s, oI_n, Bool.false_eq_true, reduceCtorEq, eq_self, Classical.not_not, bI_T, bI_Fa, bI_0, bI_n0, bI_x, xb_0, xb_1, xite_bI, xite_bI', not_true_eq_false, not_false_eq_true, Nat.zero_add, Nat.add_zero, Nat.mul_zero, Nat.mul_one, Nat.one_mul, reduceIte, Nat.reduceEqDiff, Nat.reduceAdd, Nat.reduceMul, Nat.reduceSub, Nat.reduceLT, Nat.reduceLeDiff, Nat.reducePow, ite_true, ite_false, if_true, if_false, and_true, true_and, false_and, and_false, or_false, false_or, true_or, or_true, ne_eq, xite_t, xite_f, he]
  | succ m ih =>
    intro d left dep mil X least σ hm hl hp hlN hmil hC h hs he hbo
    by_cases h0 : left = 0
    · subst h0
      have hw : ∀ v, xF Smi σ (wI σ 0 0 8 v) := fun v => xF_wI (xF_refl σ) _ (by unfold Smi; omega)
      have hcl : ∀ v, CL (wI σ 0 0 8 v) 1 X := fun v => CL_F h (xF_wI (S := fun r j k => r = 0) (xF_refl σ) v rfl) (fun r k hr => by omega) (fun j k => by omega)
      rw [oC_l rfl]
      show ∃ σ', run (d + m + 13 + 1) _ = _ ∧ _
      rw [B176_0]
      cases least with
      | none =>
        refine ⟨wI σ 0 0 8 (nI mil), ?_, hcl _, by simp (disch := omega) only [n_cl, n_lt, n_le, n_eq, n_lt0, n_0lt, n_le0, n_eq0, n_gneq, n_ngeq, n_ng0, n_nglt, n_glt, n_gle, n_ltg, n_leg, n_gg, n_ge0, n_add, n_mul, n_rem, n_shl1, n_and, n_or, n_bit, n_not, n_not', n_B1, n_B0, n_BB, obind, xite_T, xite_F, xite_not, xite_same, oI_s, oI_n, Bool.false_eq_true, reduceCtorEq, eq_self, Classical.not_not, bI_T, bI_Fa, bI_0, bI_n0, bI_x, xb_0, xb_1, xite_bI, xite_bI', not_true_eq_false, not_false_eq_true, Nat.zero_add, Nat.add_zero, Nat.mul_zero, Nat.mul_one, Nat.one_mul, reduceIte, Nat.reduceEqDiff, Nat.reduceAdd, Nat.reduceMul, Nat.reduceSub, Nat.reduceLT, Nat.reduceLeDiff, Nat.reducePow, ite_true, ite_false, if_true, if_false, and_true, true_and, false_and, and_false, or_false, false_or, true_or, or_true, ne_eq, xite_t, xite_f, w_I2, w_Is, w_In, w_IL, w_IP, w_IC, w_LI, w_LP, w_LC, w_PI, w_PL, w_PC]; rfl, hw _⟩
        simp (disch := omega) only [n_cl, n_lt, n_le, n_eq, n_lt0, n_0lt, n_le0, n_eq0, n_gneq, n_ngeq, n_ng0, n_nglt, n_glt, n_gle, n_ltg, n_leg, n_gg, n_ge0, n_add, n_mul, n_rem, n_shl1, n_and, n_or, n_bit, n_not, n_not', n_B1, n_B0, n_BB, obind, xite_T, xite_F, xite_not, xite_same, oI_s, oI_n, Bool.false_eq_true, reduceCtorEq, eq_self, Classical.not_not, bI_T, bI_Fa, bI_0, bI_n0, bI_x, xb_0, xb_1, xite_bI, xite_bI', not_true_eq_false, not_false_eq_true, Nat.zero_add, Nat.add_zero, Nat.mul_zero, Nat.mul_one, Nat.one_mul, reduceIte, Nat.reduceEqDiff, Nat.reduceAdd, Nat.reduceMul, Nat.reduceSub, Nat.reduceLT, Nat.reduceLeDiff, Nat.reducePow, ite_true, ite_false, if_true, if_false, and_true, true_and, false_and, and_false, or_false, false_or, true_or, or_true, ne_eq, xite_t, xite_f, he]
      | some v0 =>
        have hv0 := hbo v0 rfl
        by_cases hle : v0 ≤ mil
        · have e1 : mn mil (some v0) = some v0 := if_pos hle
          rw [e1]
          refine ⟨σ, ?_, h, he, xF_refl σ⟩
          simp (disch := omega) only [n_cl, n_lt, n_le, n_eq, n_lt0, n_0lt, n_le0, n_eq0, n_gneq, n_ngeq, n_ng0, n_nglt, n_glt, n_gle, n_ltg, n_leg, n_gg, n_ge0, n_add, n_mul, n_rem, n_shl1, n_and, n_or, n_bit, n_not, n_not', n_B1, n_B0, n_BB, obind, xite_T, xite_F, xite_not, xite_same, oI_s, oI_n, Bool.false_eq_true, reduceCtorEq, eq_self, Classical.not_not, bI_T, bI_Fa, bI_0, bI_n0, bI_x, xb_0, xb_1, xite_bI, xite_bI', not_true_eq_false, not_false_eq_true, Nat.zero_add, Nat.add_zero, Nat.mul_zero, Nat.mul_one, Nat.one_mul, reduceIte, Nat.reduceEqDiff, Nat.reduceAdd, Nat.reduceMul, Nat.reduceSub, Nat.reduceLT, Nat.reduceLeDiff, Nat.reducePow, ite_true, ite_false, if_true, if_false, and_true, true_and, false_and, and_false, or_false, false_or, true_or, or_true, ne_eq, xite_t, xite_f, he]
        · have e1 : mn mil (some v0) = some mil := if_neg hle
          rw [e1]
          refine ⟨wI σ 0 0 8 (nI mil), ?_, hcl _, by simp (disch := omega) only [n_cl, n_lt, n_le, n_eq, n_lt0, n_0lt, n_le0, n_eq0, n_gneq, n_ngeq, n_ng0, n_nglt, n_glt, n_gle, n_ltg, n_leg, n_gg, n_ge0, n_add, n_mul, n_rem, n_shl1, n_and, n_or, n_bit, n_not, n_not', n_B1, n_B0, n_BB, obind, xite_T, xite_F, xite_not, xite_same, oI_s, oI_n, Bool.false_eq_true, reduceCtorEq, eq_self, Classical.not_not, bI_T, bI_Fa, bI_0, bI_n0, bI_x, xb_0, xb_1, xite_bI, xite_bI', not_true_eq_false, not_false_eq_true, Nat.zero_add, Nat.add_zero, Nat.mul_zero, Nat.mul_one, Nat.one_mul, reduceIte, Nat.reduceEqDiff, Nat.reduceAdd, Nat.reduceMul, Nat.reduceSub, Nat.reduceLT, Nat.reduceLeDiff, Nat.reducePow, ite_true, ite_false, if_true, if_false, and_true, true_and, false_and, and_false, or_false, false_or, true_or, or_true, ne_eq, xite_t, xite_f, w_I2, w_Is, w_In, w_IL, w_IP, w_IC, w_LI, w_LP, w_LC, w_PI, w_PL, w_PC], hw _⟩
          simp (disch := omega) only [n_cl, n_lt, n_le, n_eq, n_lt0, n_0lt, n_le0, n_eq0, n_gneq, n_ngeq, n_ng0, n_nglt, n_glt, n_gle, n_ltg, n_leg, n_gg, n_ge0, n_add, n_mul, n_rem, n_shl1, n_and, n_or, n_bit, n_not, n_not', n_B1, n_B0, n_BB, obind, xite_T, xite_F, xite_not, xite_same, oI_s, oI_n, Bool.false_eq_true, reduceCtorEq, eq_self, Classical.not_not, bI_T, bI_Fa, bI_0, bI_n0, bI_x, xb_0, xb_1, xite_bI, xite_bI', not_true_eq_false, not_false_eq_true, Nat.zero_add, Nat.add_zero, Nat.mul_zero, Nat.mul_one, Nat.one_mul, reduceIte, Nat.reduceEqDiff, Nat.reduceAdd, Nat.reduceMul, Nat.reduceSub, Nat.reduceLT, Nat.reduceLeDiff, Nat.reducePow, ite_true, ite_false, if_true, if_false, and_true, true_and, false_and, and_false, or_false, false_or, true_or, or_true, ne_eq, xite_t, xite_f, he]
    · rw [oC_s h0]
      obtain ⟨NL, eL, hR⟩ := h.2.2.2.2.2.1
      have hX := h.1
      have loop : ∀ j k (s : Nat × mO) σ, k + j = 5 → CL σ 1 X → cSh σ e x → rI σ 0 0 8 = oI 4 s.2 → bO 300 s.2 → ∃ σ', run (d + m + 14) (176, 52, [some (.inr (.inr (0, (some 0)))), some (.inr (.inr (14, (some e)))), some (.inl (nI (left))), some (.inl (nI (dep))), some (.inl (nI (mil))), some (.inr (.inl (lN NL))), none, some (.inl (nI (s.1))), some (.inl (nI (k))), none], [], σ) = some ((nI (fl (oS x m left X mil) j k s).1, 0, none), σ') ∧ CL σ' 1 X ∧ rI σ' 0 0 8 = oI 4 (fl (oS x m left X mil) j k s).2 ∧ xF Smi σ σ' := by
        intro j
        induction j with
        | zero =>
          intro k s σ hk h hs he _
          have ek : k = 5 := by omega
          subst ek
          refine ⟨σ, ?_, h, he, xF_refl σ⟩
          rw [B176_52]
          simp (disch := omega) only [n_cl, n_lt, n_le, n_eq, n_lt0, n_0lt, n_le0, n_eq0, n_gneq, n_ngeq, n_ng0, n_nglt, n_glt, n_gle, n_ltg, n_leg, n_gg, n_ge0, n_add, n_mul, n_rem, n_shl1, n_and, n_or, n_bit, n_not, n_not', n_B1, n_B0, n_BB, obind, xite_T, xite_F, xite_not, xite_same, oI_s, oI_n, Bool.false_eq_true, reduceCtorEq, eq_self, Classical.not_not, bI_T, bI_Fa, bI_0, bI_n0, bI_x, xb_0, xb_1, xite_bI, xite_bI', not_true_eq_false, not_false_eq_true, Nat.zero_add, Nat.add_zero, Nat.mul_zero, Nat.mul_one, Nat.one_mul, reduceIte, Nat.reduceEqDiff, Nat.reduceAdd, Nat.reduceMul, Nat.reduceSub, Nat.reduceLT, Nat.reduceLeDiff, Nat.reducePow, ite_true, ite_false, if_true, if_false, and_true, true_and, false_and, and_false, or_false, false_or, true_or, or_true, ne_eq, xite_t, xite_f, ]
          rfl
        | succ j ij =>
          intro k s σ hk h hs he hbo
          show ∃ σ', _ = some ((nI (fl (oS x m left X mil) j (k + 1) (oS x m left X mil k s)).1, 0, none), σ') ∧ _ ∧ rI σ' 0 0 8 = oI 4 (fl (oS x m left X mil) j (k + 1) (oS x m left X mil k s)).2 ∧ _
          by_cases hb : left.testBit k = true
          · have hkN := hlN k hb
            have ha := hak k hkN
            obtain ⟨σ1, f1, f2, f3, f8⟩ := C175 (d + m + 2) σ h hs hC hz hkN hN ha
            have hs1 := cSh_mi hs f3
            have he1 : rI σ1 0 0 8 = oI 4 s.2 := f8.trans he
            cases hT : tC X x k with
            | none =>
              have e1 : oS x m left X mil k s = s := by unfold oS; rw [if_pos hb, hT]
              rw [e1]
              have hw : xF Smi σ1 (wL σ1 1 1 3 (lN NL)) := xF_wL (xF_refl σ1) _ (by unfold Smi; omega)
              obtain ⟨σ2, g1, g2, g3, g4⟩ := ij (k + 1) s (wL σ1 1 1 3 (lN NL)) (by omega) (CL_back f2 hX hR) (cSh_mi hs1 hw) he1 hbo
              refine ⟨σ2, ?_, g2, g3, xF_trans (xF_trans f3 hw) g4⟩
              rw [hT] at f1
              rw [B176_52]
              simp (disch := omega) only [n_cl, n_lt, n_le, n_eq, n_lt0, n_0lt, n_le0, n_eq0, n_gneq, n_ngeq, n_ng0, n_nglt, n_glt, n_gle, n_ltg, n_leg, n_gg, n_ge0, n_add, n_mul, n_rem, n_shl1, n_and, n_or, n_bit, n_not, n_not', n_B1, n_B0, n_BB, obind, xite_T, xite_F, xite_not, xite_same, oI_s, oI_n, Bool.false_eq_true, reduceCtorEq, eq_self, Classical.not_not, bI_T, bI_Fa, bI_0, bI_n0, bI_x, xb_0, xb_1, xite_bI, xite_bI', not_true_eq_false, not_false_eq_true, Nat.zero_add, Nat.add_zero, Nat.mul_zero, Nat.mul_one, Nat.one_mul, reduceIte, Nat.reduceEqDiff, Nat.reduceAdd, Nat.reduceMul, Nat.reduceSub, Nat.reduceLT, Nat.reduceLeDiff, Nat.reducePow, ite_true, ite_false, if_true, if_false, and_true, true_and, false_and, and_false, or_false, false_or, true_or, or_true, ne_eq, xite_t, xite_f, C167, hb, f1]
              rw [xite_t (show mW_I X none = -nI 4 from rfl)]
              exact g1
            | some t =>
              obtain ⟨w, n, p⟩ := t
              have hmm := tC_mil hX ha hT
              have hl1 := left_1 left hl k (by omega) hb
              have e1 : oS x m left X mil k s = (s.1 + (oC x m (nM left (2 ^ k)) (gX X (some (w, n, p))) (mil + smm X p n) s.2).1, (oC x m (nM left (2 ^ k)) (gX X (some (w, n, p))) (mil + smm X p n) s.2).2) := by unfold oS; rw [if_pos hb, hT]
              rw [e1]
              rw [hT] at f2 f1
              have hl2 : ∀ j, (nM left (2 ^ k)).testBit j = true → j < N := fun j hj => hlN j (by
                rw [nM_bit] at hj
                cases c : left.testBit j with
                | true => rfl
                | false => rw [c] at hj; cases hj)
              obtain ⟨σ2, g1, g2, g3, g4⟩ := ih d (nM left (2 ^ k)) (dep + 1) (mil + smm X p n) (gX X (some (w, n, p))) s.2 σ1 (by omega) hl1.2 (by omega) hl2 (by omega) (by rw [gX_C.1]; exact hC) f2 hs1 he1 hbo
              have hw : xF Smi σ2 (wL σ2 1 1 3 (lN NL)) := xF_wL (xF_refl σ2) _ (by unfold Smi; omega)
              obtain ⟨σ3, k1, k2, k3, k4⟩ := ij (k + 1) (s.1 + (oC x m (nM left (2 ^ k)) (gX X (some (w, n, p))) (mil + smm X p n) s.2).1, (oC x m (nM left (2 ^ k)) (gX X (some (w, n, p))) (mil + smm X p n) s.2).2) (wL σ2 1 1 3 (lN NL)) (by omega) (CL_back g2 hX hR) (cSh_mi (cSh_mi hs1 g4) hw) g3 (oC_bO hak m _ _ _ _ (by rw [gX_R]; exact gX_W2 hX ha hT) hl2 (by omega) hbo)
              refine ⟨σ3, ?_, k2, k3, xF_trans (xF_trans (xF_trans f3 g4) hw) k4⟩
              have f1 : run (d + m + 2 + 11) _ = some ((nI (smm X p n), 0, none), σ1) := f1
              rw [B176_52]
              simp (disch := omega) only [n_cl, n_lt, n_le, n_eq, n_lt0, n_0lt, n_le0, n_eq0, n_gneq, n_ngeq, n_ng0, n_nglt, n_glt, n_gle, n_ltg, n_leg, n_gg, n_ge0, n_add, n_mul, n_rem, n_shl1, n_and, n_or, n_bit, n_not, n_not', n_B1, n_B0, n_BB, obind, xite_T, xite_F, xite_not, xite_same, oI_s, oI_n, Bool.false_eq_true, reduceCtorEq, eq_self, Classical.not_not, bI_T, bI_Fa, bI_0, bI_n0, bI_x, xb_0, xb_1, xite_bI, xite_bI', not_true_eq_false, not_false_eq_true, Nat.zero_add, Nat.add_zero, Nat.mul_zero, Nat.mul_one, Nat.one_mul, reduceIte, Nat.reduceEqDiff, Nat.reduceAdd, Nat.reduceMul, Nat.reduceSub, Nat.reduceLT, Nat.reduceLeDiff, Nat.reducePow, ite_true, ite_false, if_true, if_false, and_true, true_and, false_and, and_false, or_false, false_or, true_or, or_true, ne_eq, xite_t, xite_f, C167, hb, f1, n_not, g1]
              exact k1
          · have hb' : left.testBit k = false := by cases c : left.testBit k with | true => exact absurd c hb | false => rfl
            have e1 : oS x m left X mil k s = s := if_neg hb
            rw [e1]
            obtain ⟨σ2, g1, g2⟩ := ij (k + 1) s σ (by omega) h hs he hbo
            refine ⟨σ2, ?_, g2⟩
            rw [B176_52]
            simp (disch := omega) only [n_cl, n_lt, n_le, n_eq, n_lt0, n_0lt, n_le0, n_eq0, n_gneq, n_ngeq, n_ng0, n_nglt, n_glt, n_gle, n_ltg, n_leg, n_gg, n_ge0, n_add, n_mul, n_rem, n_shl1, n_and, n_or, n_bit, n_not, n_not', n_B1, n_B0, n_BB, obind, xite_T, xite_F, xite_not, xite_same, oI_s, oI_n, Bool.false_eq_true, reduceCtorEq, eq_self, Classical.not_not, bI_T, bI_Fa, bI_0, bI_n0, bI_x, xb_0, xb_1, xite_bI, xite_bI', not_true_eq_false, not_false_eq_true, Nat.zero_add, Nat.add_zero, Nat.mul_zero, Nat.mul_one, Nat.one_mul, reduceIte, Nat.reduceEqDiff, Nat.reduceAdd, Nat.reduceMul, Nat.reduceSub, Nat.reduceLT, Nat.reduceLeDiff, Nat.reducePow, ite_true, ite_false, if_true, if_false, and_true, true_and, false_and, and_false, or_false, false_or, true_or, or_true, ne_eq, xite_t, xite_f, C167, hb']
            exact g1
      obtain ⟨σ', f1, f2⟩ := loop 5 0 (0, least) σ rfl h hs he hbo
      refine ⟨σ', ?_, f2⟩
      show run (d + m + 13 + 1) _ = _
      rw [B176_0, eL]
      simp (disch := omega) only [n_cl, n_lt, n_le, n_eq, n_lt0, n_0lt, n_le0, n_eq0, n_gneq, n_ngeq, n_ng0, n_nglt, n_glt, n_gle, n_ltg, n_leg, n_gg, n_ge0, n_add, n_mul, n_rem, n_shl1, n_and, n_or, n_bit, n_not, n_not', n_B1, n_B0, n_BB, obind, xite_T, xite_F, xite_not, xite_same, oI_s, oI_n, Bool.false_eq_true, reduceCtorEq, eq_self, Classical.not_not, bI_T, bI_Fa, bI_0, bI_n0, bI_x, xb_0, xb_1, xite_bI, xite_bI', not_true_eq_false, not_false_eq_true, Nat.zero_add, Nat.add_zero, Nat.mul_zero, Nat.mul_one, Nat.one_mul, reduceIte, Nat.reduceEqDiff, Nat.reduceAdd, Nat.reduceMul, Nat.reduceSub, Nat.reduceLT, Nat.reduceLeDiff, Nat.reducePow, ite_true, ite_false, if_true, if_false, and_true, true_and, false_and, and_false, or_false, false_or, true_or, or_true, ne_eq, xite_t, xite_f, ]
      exact f1
/-- what is gone by a line's first carriages -/
def rp (x : mSh) (X0 : mX) (ln : Nat → Nat) : Nat → Option (mX × Nat)
  | 0 => some (X0, 0)
  | k + 1 => match rp x X0 ln k with
    | none => none
    | some (X, mil) => match tC X x (ln k) with
      | none => none
      | some (w, n, p) => some (gX X (some (w, n, p)), mil + smm X p n)
theorem rp_c {x : mSh} {X0 : mX} {ln ln' : Nat → Nat} : ∀ k, (∀ j, j < k → ln j = ln' j) → rp x X0 ln k = rp x X0 ln' k := by
  intro k
  induction k with
  | zero => intro _; rfl
  | succ k ih =>
    intro h
    show (match rp x X0 ln k with
      | none => none
      | some (X, mil) => match tC X x (ln k) with
        | none => none
        | some (w, n, p) => some (gX X (some (w, n, p)), mil + smm X p n)) = _
    rw [ih (fun j hj => h j (by omega)), h k (by omega)]
    rfl
theorem rp_w {x : mSh} {X0 : mX} {N : Nat} {ln : Nat → Nat} (hX : WX (xaR X0) X0) (hak : ∀ k, k < N → akC X0 x k) : ∀ k, (∀ j, j < k → ln j < N) → ∀ X mil, rp x X0 ln k = some (X, mil) → WX (xaR X) X ∧ xaR X = xaR X0 ∧ xaC X = xaC X0 ∧ mil ≤ 54 * k := by
  intro k
  induction k with
  | zero => intro _ X mil h; cases h; exact ⟨hX, rfl, rfl, by omega⟩
  | succ k ih =>
    intro hl X mil h
    have h : (match rp x X0 ln k with
      | none => none
      | some (X, mil) => match tC X x (ln k) with
        | none => none
        | some (w, n, p) => some (gX X (some (w, n, p)), mil + smm X p n)) = some (X, mil) := h
    cases e : rp x X0 ln k with
    | none => rw [e] at h; cases h
    | some q =>
      obtain ⟨X1, mil1⟩ := q
      rw [e] at h
      have h : (match tC X1 x (ln k) with
        | none => none
        | some (w, n, p) => some (gX X1 (some (w, n, p)), mil1 + smm X1 p n)) = some (X, mil) := h
      obtain ⟨a1, a2, a3, a4⟩ := ih (fun j hj => hl j (by omega)) X1 mil1 e
      have ha := hak (ln k) (hl k (by omega))
      cases hT : tC X1 x (ln k) with
      | none => rw [hT] at h; cases h
      | some t =>
        obtain ⟨w, n, p⟩ := t
        rw [hT] at h
        cases h
        have hm := tC_mil a1 ha hT
        exact ⟨by rw [gX_R]; exact gX_W2 a1 ha hT, by rw [gX_R]; exact a2, by rw [gX_C.1]; exact a3, by omega⟩
theorem rp_none {x : mSh} {X0 : mX} {ln : Nat → Nat} {k : Nat} (h : rp x X0 ln k = none) : ∀ m, rp x X0 ln (k + m) = none := by
  intro m
  induction m with
  | zero => exact h
  | succ m ih =>
    show (match rp x X0 ln (k + m) with
      | none => none
      | some (X, mil) => match tC X x (ln (k + m)) with
        | none => none
        | some (w, n, p) => some (gX X (some (w, n, p)), mil + smm X p n)) = none
    rw [ih]
def S59 (r j k : Nat) : Prop := SmX r j k ∧ ¬ r = 34
theorem M59 (d e N : Nat) (x : mSh) (X0 : mX) (he : e < 8) (hX : WX (xaR X0) X0) (hz : x.2.2.2.2.1 = 4 * N) (hN : N ≤ 5) (hak : ∀ k, k < N → akC X0 x k) (ln : Nat → Nat) (hln : ∀ j, j < N → ln j < N) (cnt : Nat) (least : mO) (σ : xS) (h : ML (rI σ 18 0) (xaR X0) X0) (hs : mShl σ e x) (hl : ∀ j, j < N → rI σ 34 0 j = nI (ln j)) (hc : rI σ 17 0 27 = nI cnt) (hle : rI σ 17 0 28 = oI 4 least) (hbo : bO 300 least) :
    ∃ σ', run (d + 13) (xentry 59 [.inr (.inr (17, (some 0))), .inl (nI e)] σ) = some ((0, 0, none), σ') ∧ rI σ' 17 0 27 = nI (match rp x X0 ln N with
      | none => cnt
      | some _ => cnt + 1) ∧ rI σ' 17 0 28 = oI 4 (match rp x X0 ln N with
      | none => least
      | some (_, mil) => mn mil least) ∧ ML (rI σ' 18 0) (xaR X0) X0 ∧ xF S59 σ σ' := by
  have hnR9 := hX.2.2.1
  have loop : ∀ m i X mil σ, i + m = N → rp x X0 ln i = some (X, mil) → ML (rI σ 18 0) (xaR X0) X → ML (rI σ 21 0) (xaR X0) X0 → mShl σ e x → (∀ j, j < N → rI σ 34 0 j = nI (ln j)) → ∃ v σ', run (d + 13) (59, 11, [some (.inr (.inr (17, (some 0)))), some (.inl (nI (e))), some (.inl (nI (mil))), some (.inl (nI (1))), some (.inl (nI (i)))], [], σ) = run (d + 13) (59, 54, [some (.inr (.inr (17, (some 0)))), none, some (.inl v), some (.inl (bI (¬ rp x X0 ln N = none))), none], [], σ') ∧ (∀ X mil, rp x X0 ln N = some (X, mil) → v = nI mil) ∧ ML (rI σ' 21 0) (xaR X0) X0 ∧ xF (fun r i k => S20 r i k ∨ SM r i k) σ σ' := by
    intro m
    induction m with
    | zero =>
      intro i X mil σ hi hr h h21 hs hl
      have ei : i = N := by omega
      subst ei
      have h5 := hs.2.2.2.2.1
      refine ⟨nI mil, σ, ?_, fun X' mil' q => (by rw [hr] at q; cases q; rfl), h21, xF_refl σ⟩
      rw [B59_11, hr]
      simp (disch := omega) only [n_cl, n_lt, n_le, n_eq, n_lt0, n_0lt, n_le0, n_eq0, n_gneq, n_ngeq, n_ng0, n_nglt, n_glt, n_gle, n_ltg, n_leg, n_gg, n_ge0, n_add, n_mul, n_rem, n_shl1, n_and, n_or, n_bit, n_not, n_not', n_B1, n_B0, n_BB, obind, xite_T, xite_F, xite_not, xite_same, oI_s, oI_n, Bool.false_eq_true, reduceCtorEq, eq_self, Classical.not_not, bI_T, bI_Fa, bI_0, bI_n0, bI_x, xb_0, xb_1, xite_bI, xite_bI', not_true_eq_false, not_false_eq_true, Nat.zero_add, Nat.add_zero, Nat.mul_zero, Nat.mul_one, Nat.one_mul, reduceIte, Nat.reduceEqDiff, Nat.reduceAdd, Nat.reduceMul, Nat.reduceSub, Nat.reduceLT, Nat.reduceLeDiff, Nat.reducePow, ite_true, ite_false, if_true, if_false, and_true, true_and, false_and, and_false, or_false, false_or, true_or, or_true, ne_eq, xite_t, xite_f, h5, hz]
    | succ m ih =>
      intro i X mil σ hi hr h h21 hs hl
      have h5 := hs.2.2.2.2.1
      have hli := hln i (by omega)
      obtain ⟨a1, a2, a3, a4⟩ := rp_w hX hak i (fun j hj => hln j (by omega)) X mil hr
      obtain ⟨σ1, f1, f2, f3, f4⟩ := M56 (d + 1) σ h (by omega) hs he a3 hli hN (hak _ hli)
      have h21' : ML (rI σ1 21 0) (xaR X0) X0 := by rw [xF_I f4 (fun k => by unfold S20 SM; omega)]; exact h21
      have hs1 := mShl_X hs (xF_le f4 SG_X)
      have hl1 : ∀ j, j < N → rI σ1 34 0 j = nI (ln j) := fun j hj => by rw [f4.1 34 0 j (by unfold S20 SM; omega)]; exact hl j hj
      have er : rp x X0 ln (i + 1) = (match tC X x (ln i) with
        | none => none
        | some (w, n, p) => some (gX X (some (w, n, p)), mil + smm X p n)) := by
        show (match rp x X0 ln i with
          | none => none
          | some (X, mil) => match tC X x (ln i) with
            | none => none
            | some (w, n, p) => some (gX X (some (w, n, p)), mil + smm X p n)) = _
        rw [hr]
      rw [B59_11]
      cases hT : tC X x (ln i) with
      | none =>
        rw [hT] at er f1
        have eN : rp x X0 ln N = none := by
          have := rp_none er m
          rw [show i + 1 + m = N by omega] at this
          exact this
        refine ⟨nI mil + rI σ1 17 0 18, σ1, ?_, fun X' mil' q => (by rw [eN] at q; cases q), h21', f4⟩
        rw [eN]
        simp (disch := omega) only [n_cl, n_lt, n_le, n_eq, n_lt0, n_0lt, n_le0, n_eq0, n_gneq, n_ngeq, n_ng0, n_nglt, n_glt, n_gle, n_ltg, n_leg, n_gg, n_ge0, n_add, n_mul, n_rem, n_shl1, n_and, n_or, n_bit, n_not, n_not', n_B1, n_B0, n_BB, obind, xite_T, xite_F, xite_not, xite_same, oI_s, oI_n, Bool.false_eq_true, reduceCtorEq, eq_self, Classical.not_not, bI_T, bI_Fa, bI_0, bI_n0, bI_x, xb_0, xb_1, xite_bI, xite_bI', not_true_eq_false, not_false_eq_true, Nat.zero_add, Nat.add_zero, Nat.mul_zero, Nat.mul_one, Nat.one_mul, reduceIte, Nat.reduceEqDiff, Nat.reduceAdd, Nat.reduceMul, Nat.reduceSub, Nat.reduceLT, Nat.reduceLeDiff, Nat.reducePow, ite_true, ite_false, if_true, if_false, and_true, true_and, false_and, and_false, or_false, false_or, true_or, or_true, ne_eq, xite_t, xite_f, h5, hz, hl i (by omega), f1]
        rw [B59_11]
        simp (disch := omega) only [n_cl, n_lt, n_le, n_eq, n_lt0, n_0lt, n_le0, n_eq0, n_gneq, n_ngeq, n_ng0, n_nglt, n_glt, n_gle, n_ltg, n_leg, n_gg, n_ge0, n_add, n_mul, n_rem, n_shl1, n_and, n_or, n_bit, n_not, n_not', n_B1, n_B0, n_BB, obind, xite_T, xite_F, xite_not, xite_same, oI_s, oI_n, Bool.false_eq_true, reduceCtorEq, eq_self, Classical.not_not, bI_T, bI_Fa, bI_0, bI_n0, bI_x, xb_0, xb_1, xite_bI, xite_bI', not_true_eq_false, not_false_eq_true, Nat.zero_add, Nat.add_zero, Nat.mul_zero, Nat.mul_one, Nat.one_mul, reduceIte, Nat.reduceEqDiff, Nat.reduceAdd, Nat.reduceMul, Nat.reduceSub, Nat.reduceLT, Nat.reduceLeDiff, Nat.reducePow, ite_true, ite_false, if_true, if_false, and_true, true_and, false_and, and_false, or_false, false_or, true_or, or_true, ne_eq, xite_t, xite_f, hs1.2.2.2.2.1, hz]
      | some t =>
        obtain ⟨w, n, p⟩ := t
        rw [hT] at er f1 f2 f3
        obtain ⟨v, σ2, g1, g2, g3, g4⟩ := ih (i + 1) (gX X (some (w, n, p))) (mil + smm X p n) σ1 (by omega) er f3 h21' hs1 hl1
        refine ⟨v, σ2, ?_, g2, g3, xF_trans f4 g4⟩
        simp (disch := omega) only [n_cl, n_lt, n_le, n_eq, n_lt0, n_0lt, n_le0, n_eq0, n_gneq, n_ngeq, n_ng0, n_nglt, n_glt, n_gle, n_ltg, n_leg, n_gg, n_ge0, n_add, n_mul, n_rem, n_shl1, n_and, n_or, n_bit, n_not, n_not', n_B1, n_B0, n_BB, obind, xite_T, xite_F, xite_not, xite_same, oI_s, oI_n, Bool.false_eq_true, reduceCtorEq, eq_self, Classical.not_not, bI_T, bI_Fa, bI_0, bI_n0, bI_x, xb_0, xb_1, xite_bI, xite_bI', not_true_eq_false, not_false_eq_true, Nat.zero_add, Nat.add_zero, Nat.mul_zero, Nat.mul_one, Nat.one_mul, reduceIte, Nat.reduceEqDiff, Nat.reduceAdd, Nat.reduceMul, Nat.reduceSub, Nat.reduceLT, Nat.reduceLeDiff, Nat.reducePow, ite_true, ite_false, if_true, if_false, and_true, true_and, false_and, and_false, or_false, false_or, true_or, or_true, ne_eq, xite_t, xite_f, h5, hz, hl i (by omega), f1, f2.2.2.1]
        exact g1
  obtain ⟨σ1, f1, f2, f3, f4⟩ := M13 (d + 10) σ h
  have hs1 := mShl_X hs (xF_le f4 S21_X)
  obtain ⟨v, σ2, g1, g2, g3, g4⟩ := loop N 0 X0 0 σ1 (by omega) rfl f2 f3 hs1 (fun j hj => by rw [f4.1 34 0 j (by omega)]; exact hl j hj)
  obtain ⟨σ3, k1, k2, k3⟩ := M14 (d + 10) σ2 g3
  have hF : xF (fun r j k => (S20 r j k ∨ SM r j k) ∨ r = 21) σ σ3 := xF_trans (xF_trans (xF_le f4 (fun r j k s => Or.inr s)) (xF_le g4 (fun r j k s => Or.inl s))) (xF_le k3 (fun r j k s => Or.inl (Or.inr s)))
  have hS : ∀ r j k, ((S20 r j k ∨ SM r j k) ∨ r = 21) → S59 r j k := fun r j k s => by unfold S20 SM at s; unfold S59 SmX; omega
  have q27 : rI σ3 17 0 27 = nI cnt := by rw [hF.1 17 0 27 (by unfold S20 SM; omega)]; exact hc
  have q28 : rI σ3 17 0 28 = oI 4 least := by rw [hF.1 17 0 28 (by unfold S20 SM; omega)]; exact hle
  have e0 : run (d + 13) (xentry 59 [.inr (.inr (17, (some 0))), .inl (nI e)] σ) = run (d + 13) (59, 54, [some (.inr (.inr (17, (some 0)))), none, some (.inl v), some (.inl (bI (¬ rp x X0 ln N = none))), none], [], σ2) := by
    rw [B59_0]
    simp (disch := omega) only [n_cl, n_lt, n_le, n_eq, n_lt0, n_0lt, n_le0, n_eq0, n_gneq, n_ngeq, n_ng0, n_nglt, n_glt, n_gle, n_ltg, n_leg, n_gg, n_ge0, n_add, n_mul, n_rem, n_shl1, n_and, n_or, n_bit, n_not, n_not', n_B1, n_B0, n_BB, obind, xite_T, xite_F, xite_not, xite_same, oI_s, oI_n, Bool.false_eq_true, reduceCtorEq, eq_self, Classical.not_not, bI_T, bI_Fa, bI_0, bI_n0, bI_x, xb_0, xb_1, xite_bI, xite_bI', not_true_eq_false, not_false_eq_true, Nat.zero_add, Nat.add_zero, Nat.mul_zero, Nat.mul_one, Nat.one_mul, reduceIte, Nat.reduceEqDiff, Nat.reduceAdd, Nat.reduceMul, Nat.reduceSub, Nat.reduceLT, Nat.reduceLeDiff, Nat.reducePow, ite_true, ite_false, if_true, if_false, and_true, true_and, false_and, and_false, or_false, false_or, true_or, or_true, ne_eq, xite_t, xite_f, f1]
    exact g1
  rw [e0, B59_54]
  simp (disch := omega) only [n_cl, n_lt, n_le, n_eq, n_lt0, n_0lt, n_le0, n_eq0, n_gneq, n_ngeq, n_ng0, n_nglt, n_glt, n_gle, n_ltg, n_leg, n_gg, n_ge0, n_add, n_mul, n_rem, n_shl1, n_and, n_or, n_bit, n_not, n_not', n_B1, n_B0, n_BB, obind, xite_T, xite_F, xite_not, xite_same, oI_s, oI_n, Bool.false_eq_true, reduceCtorEq, eq_self, Classical.not_not, bI_T, bI_Fa, bI_0, bI_n0, bI_x, xb_0, xb_1, xite_bI, xite_bI', not_true_eq_false, not_false_eq_true, Nat.zero_add, Nat.add_zero, Nat.mul_zero, Nat.mul_one, Nat.one_mul, reduceIte, Nat.reduceEqDiff, Nat.reduceAdd, Nat.reduceMul, Nat.reduceSub, Nat.reduceLT, Nat.reduceLeDiff, Nat.reducePow, ite_true, ite_false, if_true, if_false, and_true, true_and, false_and, and_false, or_false, false_or, true_or, or_true, ne_eq, xite_t, xite_f, k1]
  cases hr : rp x X0 ln N with
  | none =>
    refine ⟨σ3, ?_, q27, q28, k2, xF_le hF hS⟩
    rw [xite_t rfl]
  | some q =>
    obtain ⟨X, mil⟩ := q
    have hv := g2 X mil hr
    obtain ⟨a1, a2, a3, a4⟩ := rp_w hX hak N hln X mil hr
    subst hv
    rw [xite_f (by simp), q27]
    have w1 : ∀ v, xF S59 σ (wI σ3 17 0 27 v) := fun v => xF_wI (xF_le hF hS) _ (by unfold S59 SmX; omega)
    have w2 : ∀ v u, xF S59 σ (wI (wI σ3 17 0 27 v) 17 0 28 u) := fun v u => xF_wI (w1 v) _ (by unfold S59 SmX; omega)
    have m1 : ∀ v, ML (rI (wI σ3 17 0 27 v) 18 0) (xaR X0) X0 := fun v => by simp (disch := omega) only [n_cl, n_lt, n_le, n_eq, n_lt0, n_0lt, n_le0, n_eq0, n_gneq, n_ngeq, n_ng0, n_nglt, n_glt, n_gle, n_ltg, n_leg, n_gg, n_ge0, n_add, n_mul, n_rem, n_shl1, n_and, n_or, n_bit, n_not, n_not', n_B1, n_B0, n_BB, obind, xite_T, xite_F, xite_not, xite_same, oI_s, oI_n, Bool.false_eq_true, reduceCtorEq, eq_self, Classical.not_not, bI_T, bI_Fa, bI_0, bI_n0, bI_x, xb_0, xb_1, xite_bI, xite_bI', not_true_eq_false, not_false_eq_true, Nat.zero_add, Nat.add_zero, Nat.mul_zero, Nat.mul_one, Nat.one_mul, reduceIte, Nat.reduceEqDiff, Nat.reduceAdd, Nat.reduceMul, Nat.reduceSub, Nat.reduceLT, Nat.reduceLeDiff, Nat.reducePow, ite_true, ite_false, if_true, if_false, and_true, true_and, false_and, and_false, or_false, false_or, true_or, or_true, ne_eq, xite_t, xite_f, w_I2, w_Is, w_In, w_IL, w_IP, w_IC, w_LI, w_LP, w_LC, w_PI, w_PL, w_PC]; exact k2
    have m2 : ∀ v u, ML (rI (wI (wI σ3 17 0 27 v) 17 0 28 u) 18 0) (xaR X0) X0 := fun v u => by simp (disch := omega) only [n_cl, n_lt, n_le, n_eq, n_lt0, n_0lt, n_le0, n_eq0, n_gneq, n_ngeq, n_ng0, n_nglt, n_glt, n_gle, n_ltg, n_leg, n_gg, n_ge0, n_add, n_mul, n_rem, n_shl1, n_and, n_or, n_bit, n_not, n_not', n_B1, n_B0, n_BB, obind, xite_T, xite_F, xite_not, xite_same, oI_s, oI_n, Bool.false_eq_true, reduceCtorEq, eq_self, Classical.not_not, bI_T, bI_Fa, bI_0, bI_n0, bI_x, xb_0, xb_1, xite_bI, xite_bI', not_true_eq_false, not_false_eq_true, Nat.zero_add, Nat.add_zero, Nat.mul_zero, Nat.mul_one, Nat.one_mul, reduceIte, Nat.reduceEqDiff, Nat.reduceAdd, Nat.reduceMul, Nat.reduceSub, Nat.reduceLT, Nat.reduceLeDiff, Nat.reducePow, ite_true, ite_false, if_true, if_false, and_true, true_and, false_and, and_false, or_false, false_or, true_or, or_true, ne_eq, xite_t, xite_f, w_I2, w_Is, w_In, w_IL, w_IP, w_IC, w_LI, w_LP, w_LC, w_PI, w_PL, w_PC]; exact k2
    show ∃ σ', _ ∧ rI σ' 17 0 27 = nI (cnt + 1) ∧ rI σ' 17 0 28 = oI 4 (mn mil least) ∧ _
    cases least with
    | none =>
      refine ⟨wI (wI σ3 17 0 27 (nI (cnt + 1))) 17 0 28 (nI mil), ?_, by simp (disch := omega) only [n_cl, n_lt, n_le, n_eq, n_lt0, n_0lt, n_le0, n_eq0, n_gneq, n_ngeq, n_ng0, n_nglt, n_glt, n_gle, n_ltg, n_leg, n_gg, n_ge0, n_add, n_mul, n_rem, n_shl1, n_and, n_or, n_bit, n_not, n_not', n_B1, n_B0, n_BB, obind, xite_T, xite_F, xite_not, xite_same, oI_s, oI_n, Bool.false_eq_true, reduceCtorEq, eq_self, Classical.not_not, bI_T, bI_Fa, bI_0, bI_n0, bI_x, xb_0, xb_1, xite_bI, xite_bI', not_true_eq_false, not_false_eq_true, Nat.zero_add, Nat.add_zero, Nat.mul_zero, Nat.mul_one, Nat.one_mul, reduceIte, Nat.reduceEqDiff, Nat.reduceAdd, Nat.reduceMul, Nat.reduceSub, Nat.reduceLT, Nat.reduceLeDiff, Nat.reducePow, ite_true, ite_false, if_true, if_false, and_true, true_and, false_and, and_false, or_false, false_or, true_or, or_true, ne_eq, xite_t, xite_f, w_I2, w_Is, w_In, w_IL, w_IP, w_IC, w_LI, w_LP, w_LC, w_PI, w_PL, w_PC], by simp (disch := omega) only [n_cl, n_lt, n_le, n_eq, n_lt0, n_0lt, n_le0, n_eq0, n_gneq, n_ngeq, n_ng0, n_nglt, n_glt, n_gle, n_ltg, n_leg, n_gg, n_ge0, n_add, n_mul, n_rem, n_shl1, n_and, n_or, n_bit, n_not, n_not', n_B1, n_B0, n_BB, obind, xite_T, xite_F, xite_not, xite_same, oI_s, oI_n, Bool.false_eq_true, reduceCtorEq, eq_self, Classical.not_not, bI_T, bI_Fa, bI_0, bI_n0, bI_x, xb_0, xb_1, xite_bI, xite_bI', not_true_eq_false, not_false_eq_true, Nat.zero_add, Nat.add_zero, Nat.mul_zero, Nat.mul_one, Nat.one_mul, reduceIte, Nat.reduceEqDiff, Nat.reduceAdd, Nat.reduceMul, Nat.reduceSub, Nat.reduceLT, Nat.reduceLeDiff, Nat.reducePow, ite_true, ite_false, if_true, if_false, and_true, true_and, false_and, and_false, or_false, false_or, true_or, or_true, ne_eq, xite_t, xite_f, w_I2, w_Is, w_In, w_IL, w_IP, w_IC, w_LI, w_LP, w_LC, w_PI, w_PL, w_PC]; rfl, m2 _ _, w2 _ _⟩
      simp (disch := omega) only [n_cl, n_lt, n_le, n_eq, n_lt0, n_0lt, n_le0, n_eq0, n_gneq, n_ngeq, n_ng0, n_nglt, n_glt, n_gle, n_ltg, n_leg, n_gg, n_ge0, n_add, n_mul, n_rem, n_shl1, n_and, n_or, n_bit, n_not, n_not', n_B1, n_B0, n_BB, obind, xite_T, xite_F, xite_not, xite_same, oI_s, oI_n, Bool.false_eq_true, reduceCtorEq, eq_self, Classical.not_not, bI_T, bI_Fa, bI_0, bI_n0, bI_x, xb_0, xb_1, xite_bI, xite_bI', not_true_eq_false, not_false_eq_true, Nat.zero_add, Nat.add_zero, Nat.mul_zero, Nat.mul_one, Nat.one_mul, reduceIte, Nat.reduceEqDiff, Nat.reduceAdd, Nat.reduceMul, Nat.reduceSub, Nat.reduceLT, Nat.reduceLeDiff, Nat.reducePow, ite_true, ite_false, if_true, if_false, and_true, true_and, false_and, and_false, or_false, false_or, true_or, or_true, ne_eq, xite_t, xite_f, w_I2, w_Is, w_In, w_IL, w_IP, w_IC, w_LI, w_LP, w_LC, w_PI, w_PL, w_PC, q28]
    | some v0 =>
      have hv0 := hbo v0 rfl
      by_cases hle2 : v0 ≤ mil
      · have e1 : mn mil (some v0) = some v0 := if_pos hle2
        rw [e1]
        refine ⟨wI σ3 17 0 27 (nI (cnt + 1)), ?_, by simp (disch := omega) only [n_cl, n_lt, n_le, n_eq, n_lt0, n_0lt, n_le0, n_eq0, n_gneq, n_ngeq, n_ng0, n_nglt, n_glt, n_gle, n_ltg, n_leg, n_gg, n_ge0, n_add, n_mul, n_rem, n_shl1, n_and, n_or, n_bit, n_not, n_not', n_B1, n_B0, n_BB, obind, xite_T, xite_F, xite_not, xite_same, oI_s, oI_n, Bool.false_eq_true, reduceCtorEq, eq_self, Classical.not_not, bI_T, bI_Fa, bI_0, bI_n0, bI_x, xb_0, xb_1, xite_bI, xite_bI', not_true_eq_false, not_false_eq_true, Nat.zero_add, Nat.add_zero, Nat.mul_zero, Nat.mul_one, Nat.one_mul, reduceIte, Nat.reduceEqDiff, Nat.reduceAdd, Nat.reduceMul, Nat.reduceSub, Nat.reduceLT, Nat.reduceLeDiff, Nat.reducePow, ite_true, ite_false, if_true, if_false, and_true, true_and, false_and, and_false, or_false, false_or, true_or, or_true, ne_eq, xite_t, xite_f, w_I2, w_Is, w_In, w_IL, w_IP, w_IC, w_LI, w_LP, w_LC, w_PI, w_PL, w_PC], by simp (disch := omega) only [n_cl, n_lt, n_le, n_eq, n_lt0, n_0lt, n_le0, n_eq0, n_gneq, n_ngeq, n_ng0, n_nglt, n_glt, n_gle, n_ltg, n_leg, n_gg, n_ge0, n_add, n_mul, n_rem, n_shl1, n_and, n_or, n_bit, n_not, n_not', n_B1, n_B0, n_BB, obind, xite_T, xite_F, xite_not, xite_same, oI_s, oI_n, Bool.false_eq_true, reduceCtorEq, eq_self, Classical.not_not, bI_T, bI_Fa, bI_0, bI_n0, bI_x, xb_0, xb_1, xite_bI, xite_bI', not_true_eq_false, not_false_eq_true, Nat.zero_add, Nat.add_zero, Nat.mul_zero, Nat.mul_one, Nat.one_mul, reduceIte, Nat.reduceEqDiff, Nat.reduceAdd, Nat.reduceMul, Nat.reduceSub, Nat.reduceLT, Nat.reduceLeDiff, Nat.reducePow, ite_true, ite_false, if_true, if_false, and_true, true_and, false_and, and_false, or_false, false_or, true_or, or_true, ne_eq, xite_t, xite_f, w_I2, w_Is, w_In, w_IL, w_IP, w_IC, w_LI, w_LP, w_LC, w_PI, w_PL, w_PC, q28], m1 _, w1 _⟩
        simp (disch := omega) only [n_cl, n_lt, n_le, n_eq, n_lt0, n_0lt, n_le0, n_eq0, n_gneq, n_ngeq, n_ng0, n_nglt, n_glt, n_gle, n_ltg, n_leg, n_gg, n_ge0, n_add, n_mul, n_rem, n_shl1, n_and, n_or, n_bit, n_not, n_not', n_B1, n_B0, n_BB, obind, xite_T, xite_F, xite_not, xite_same, oI_s, oI_n, Bool.false_eq_true, reduceCtorEq, eq_self, Classical.not_not, bI_T, bI_Fa, bI_0, bI_n0, bI_x, xb_0, xb_1, xite_bI, xite_bI', not_true_eq_false, not_false_eq_true, Nat.zero_add, Nat.add_zero, Nat.mul_zero, Nat.mul_one, Nat.one_mul, reduceIte, Nat.reduceEqDiff, Nat.reduceAdd, Nat.reduceMul, Nat.reduceSub, Nat.reduceLT, Nat.reduceLeDiff, Nat.reducePow, ite_true, ite_false, if_true, if_false, and_true, true_and, false_and, and_false, or_false, false_or, true_or, or_true, ne_eq, xite_t, xite_f, w_I2, w_Is, w_In, w_IL, w_IP, w_IC, w_LI, w_LP, w_LC, w_PI, w_PL, w_PC, q28]
      · have e1 : mn mil (some v0) = some mil := if_neg hle2
        rw [e1]
        refine ⟨wI (wI σ3 17 0 27 (nI (cnt + 1))) 17 0 28 (nI mil), ?_, by simp (disch := omega) only [n_cl, n_lt, n_le, n_eq, n_lt0, n_0lt, n_le0, n_eq0, n_gneq, n_ngeq, n_ng0, n_nglt, n_glt, n_gle, n_ltg, n_leg, n_gg, n_ge0, n_add, n_mul, n_rem, n_shl1, n_and, n_or, n_bit, n_not, n_not', n_B1, n_B0, n_BB, obind, xite_T, xite_F, xite_not, xite_same, oI_s, oI_n, Bool.false_eq_true, reduceCtorEq, eq_self, Classical.not_not, bI_T, bI_Fa, bI_0, bI_n0, bI_x, xb_0, xb_1, xite_bI, xite_bI', not_true_eq_false, not_false_eq_true, Nat.zero_add, Nat.add_zero, Nat.mul_zero, Nat.mul_one, Nat.one_mul, reduceIte, Nat.reduceEqDiff, Nat.reduceAdd, Nat.reduceMul, Nat.reduceSub, Nat.reduceLT, Nat.reduceLeDiff, Nat.reducePow, ite_true, ite_false, if_true, if_false, and_true, true_and, false_and, and_false, or_false, false_or, true_or, or_true, ne_eq, xite_t, xite_f, w_I2, w_Is, w_In, w_IL, w_IP, w_IC, w_LI, w_LP, w_LC, w_PI, w_PL, w_PC], by simp (disch := omega) only [n_cl, n_lt, n_le, n_eq, n_lt0, n_0lt, n_le0, n_eq0, n_gneq, n_ngeq, n_ng0, n_nglt, n_glt, n_gle, n_ltg, n_leg, n_gg, n_ge0, n_add, n_mul, n_rem, n_shl1, n_and, n_or, n_bit, n_not, n_not', n_B1, n_B0, n_BB, obind, xite_T, xite_F, xite_not, xite_same, oI_s, oI_n, Bool.false_eq_true, reduceCtorEq, eq_self, Classical.not_not, bI_T, bI_Fa, bI_0, bI_n0, bI_x, xb_0, xb_1, xite_bI, xite_bI', not_true_eq_false, not_false_eq_true, Nat.zero_add, Nat.add_zero, Nat.mul_zero, Nat.mul_one, Nat.one_mul, reduceIte, Nat.reduceEqDiff, Nat.reduceAdd, Nat.reduceMul, Nat.reduceSub, Nat.reduceLT, Nat.reduceLeDiff, Nat.reducePow, ite_true, ite_false, if_true, if_false, and_true, true_and, false_and, and_false, or_false, false_or, true_or, or_true, ne_eq, xite_t, xite_f, w_I2, w_Is, w_In, w_IL, w_IP, w_IC, w_LI, w_LP, w_LC, w_PI, w_PL, w_PC], m2 _ _, w2 _ _⟩
        simp (disch := omega) only [n_cl, n_lt, n_le, n_eq, n_lt0, n_0lt, n_le0, n_eq0, n_gneq, n_ngeq, n_ng0, n_nglt, n_glt, n_gle, n_ltg, n_leg, n_gg, n_ge0, n_add, n_mul, n_rem, n_shl1, n_and, n_or, n_bit, n_not, n_not', n_B1, n_B0, n_BB, obind, xite_T, xite_F, xite_not, xite_same, oI_s, oI_n, Bool.false_eq_true, reduceCtorEq, eq_self, Classical.not_not, bI_T, bI_Fa, bI_0, bI_n0, bI_x, xb_0, xb_1, xite_bI, xite_bI', not_true_eq_false, not_false_eq_true, Nat.zero_add, Nat.add_zero, Nat.mul_zero, Nat.mul_one, Nat.one_mul, reduceIte, Nat.reduceEqDiff, Nat.reduceAdd, Nat.reduceMul, Nat.reduceSub, Nat.reduceLT, Nat.reduceLeDiff, Nat.reducePow, ite_true, ite_false, if_true, if_false, and_true, true_and, false_and, and_false, or_false, false_or, true_or, or_true, ne_eq, xite_t, xite_f, w_I2, w_Is, w_In, w_IL, w_IP, w_IC, w_LI, w_LP, w_LC, w_PI, w_PL, w_PC, q28]
/-- what the orders from a prefix on bring -/
def oR (x : mSh) (X0 : mX) (ln : Nat → Nat) (k m left cnt : Nat) (least : mO) : Nat × mO := match rp x X0 ln k with
  | none => (cnt, least)
  | some (X, mil) => (cnt + (oC x m left X mil least).1, (oC x m left X mil least).2)
def oT (x : mSh) (X0 : mX) (ln : Nat → Nat) (k m left p : Nat) (s : Nat × mO) : Nat × mO := match rp x X0 ln k with
  | none => s
  | some (X, mil) => oS x m left X mil p s
theorem oT_bO {x : mSh} {X0 : mX} {ln : Nat → Nat} {N k m left p : Nat} {s : Nat × mO} (hX : WX (xaR X0) X0) (hak : ∀ k, k < N → akC X0 x k) (hln : ∀ j, j < k → ln j < N) (hl : ∀ j, left.testBit j = true → j < N) (hm : m + k = 4) (h : bO 300 s.2) : bO 300 (oT x X0 ln k m left p s).2 := by
  unfold oT
  cases hr : rp x X0 ln k with
  | none => exact h
  | some q =>
    obtain ⟨X, mil⟩ := q
    obtain ⟨a1, a2, a3, a4⟩ := rp_w hX hak k hln X mil hr
    show bO 300 (oS x m left X mil p s).2
    unfold oS
    by_cases hb : left.testBit p = true
    · rw [if_pos hb]
      cases hT : tC X x p with
      | none => exact h
      | some t =>
        obtain ⟨w, n, pp⟩ := t
        have ha := hak p (hl p hb)
        have hmil := tC_mil a1 ha hT
        refine oC_bO hak m _ _ _ _ (by rw [gX_R]; exact gX_W2 a1 ha hT) (fun j hj => hl j ?_) (by omega) h
        rw [nM_bit] at hj
        cases c : left.testBit j with
        | true => rfl
        | false => rw [c] at hj; cases hj
    · rw [if_neg hb]; exact h
theorem fl_idR {A : Type} {f : Nat → A → A} : ∀ n r a, (∀ k, r ≤ k → k < r + n → ∀ a, f k a = a) → fl f n r a = a := by
  intro n
  induction n with
  | zero => intro r a _; rfl
  | succ n ih =>
    intro r a h
    show fl f n (r + 1) (f r a) = a
    rw [h r (Nat.le_refl _) (by omega), ih (r + 1) a (fun k h1 h2 => h k (by omega) (by omega))]
theorem M60 (e N : Nat) (x : mSh) (X0 : mX) (he : e < 8) (hX : WX (xaR X0) X0) (hz : x.2.2.2.2.1 = 4 * N) (hN : N ≤ 5) (hak : ∀ k, k < N → akC X0 x k) : ∀ (m d k seen left : Nat) (ln : Nat → Nat) (cnt : Nat) (least : mO) (σ : xS), m + k = 5 → popf 6 left + k = N → left < 32 → seen < 32 → (∀ j, left.testBit j = (decide (j < N) && !seen.testBit j)) → (∀ j, j < k → ln j < N) →
    ML (rI σ 18 0) (xaR X0) X0 → mShl σ e x → (∀ j, j < k → rI σ 34 0 j = nI (ln j)) → rI σ 17 0 27 = nI cnt → rI σ 17 0 28 = oI 4 least → bO 300 least →
    ∃ σ', run (d + m + 14) (xentry 60 [.inr (.inr (17, (some 0))), .inl (nI e), .inl (nI k), .inl (nI seen)] σ) = some ((0, 0, none), σ') ∧ rI σ' 17 0 27 = nI (oR x X0 ln k m left cnt least).1 ∧ rI σ' 17 0 28 = oI 4 (oR x X0 ln k m left cnt least).2 ∧ ML (rI σ' 18 0) (xaR X0) X0 ∧ xF SmX σ σ' ∧ (∀ j, j < k → rI σ' 34 0 j = nI (ln j)) := by
  intro m
  have leaf : ∀ m d (k seen left : Nat) (ln : Nat → Nat) (cnt : Nat) (least : mO) (σ : xS), k = N → left = 0 → (∀ j, j < k → ln j < N) → ML (rI σ 18 0) (xaR X0) X0 → mShl σ e x → (∀ j, j < k → rI σ 34 0 j = nI (ln j)) → rI σ 17 0 27 = nI cnt → rI σ 17 0 28 = oI 4 least → bO 300 least →
      ∃ σ', run (d + 14) (xentry 60 [.inr (.inr (17, (some 0))), .inl (nI e), .inl (nI k), .inl (nI seen)] σ) = some ((0, 0, none), σ') ∧ rI σ' 17 0 27 = nI (oR x X0 ln k m left cnt least).1 ∧ rI σ' 17 0 28 = oI 4 (oR x X0 ln k m left cnt least).2 ∧ ML (rI σ' 18 0) (xaR X0) X0 ∧ xF SmX σ σ' ∧ (∀ j, j < k → rI σ' 34 0 j = nI (ln j)) := by
    intro m d k seen left ln cnt least σ hk hl hln h hs hli hc hle hbo
    subst hk hl
    have h5 := hs.2.2.2.2.1
    obtain ⟨σ1, f1, f2, f3, f4, f5⟩ := M59 d e k x X0 he hX hz hN hak ln hln cnt least σ h hs hli hc hle hbo
    refine ⟨σ1, ?_, ?_, ?_, f4, xF_le f5 (fun r j k s => s.1), fun j hj => by rw [f5.1 34 0 j (fun s => s.2 rfl)]; exact hli j hj⟩
    · rw [B60_0]
      simp (disch := omega) only [n_cl, n_lt, n_le, n_eq, n_lt0, n_0lt, n_le0, n_eq0, n_gneq, n_ngeq, n_ng0, n_nglt, n_glt, n_gle, n_ltg, n_leg, n_gg, n_ge0, n_add, n_mul, n_rem, n_shl1, n_and, n_or, n_bit, n_not, n_not', n_B1, n_B0, n_BB, obind, xite_T, xite_F, xite_not, xite_same, oI_s, oI_n, Bool.false_eq_true, reduceCtorEq, eq_self, Classical.not_not, bI_T, bI_Fa, bI_0, bI_n0, bI_x, xb_0, xb_1, xite_bI, xite_bI', not_true_eq_false, not_false_eq_true, Nat.zero_add, Nat.add_zero, Nat.mul_zero, Nat.mul_one, Nat.one_mul, reduceIte, Nat.reduceEqDiff, Nat.reduceAdd, Nat.reduceMul, Nat.reduceSub, Nat.reduceLT, Nat.reduceLeDiff, Nat.reducePow, ite_true, ite_false, if_true, if_false, and_true, true_and, false_and, and_false, or_false, false_or, true_or, or_true, ne_eq, xite_t, xite_f, h5, hz, f1]
    · rw [f2]
      unfold oR
      cases rp x X0 ln k with
      | none => rfl
      | some q =>
        obtain ⟨X, mil⟩ := q
        show _ = nI (cnt + (oC x m 0 X mil least).1)
        rw [oC_l rfl]
    · rw [f3]
      unfold oR
      cases rp x X0 ln k with
      | none => rfl
      | some q =>
        obtain ⟨X, mil⟩ := q
        show _ = oI 4 (oC x m 0 X mil least).2
        rw [oC_l rfl]
  induction m with
  | zero =>
    intro d k seen left ln cnt least σ hm hp hl hse hrel hln h hs hli hc hle hbo
    exact leaf 0 d k seen left ln cnt least σ (by omega) (left_0 left hl (by omega)) hln h hs hli hc hle hbo
  | succ m ih =>
    intro d k seen left ln cnt least σ hm hp hl hse hrel hln h hs hli hc hle hbo
    by_cases h0 : left = 0
    · subst h0
      rw [left_00] at hp
      exact leaf (m + 1) (d + m + 1) k seen 0 ln cnt least σ (by omega) rfl hln h hs hli hc hle hbo
    · have hkN : k < N := by
        apply Classical.byContradiction
        intro q
        exact h0 (left_0 left hl (by omega))
      have hlN : ∀ j, left.testBit j = true → j < N := fun j hj => by
        rw [hrel j] at hj
        by_cases c : j < N
        · exact c
        · simp [c] at hj
      have loop : ∀ j p (s : Nat × mO) σ, p + j = N → ML (rI σ 18 0) (xaR X0) X0 → mShl σ e x → (∀ j, j < k → rI σ 34 0 j = nI (ln j)) → rI σ 17 0 27 = nI (cnt + s.1) → rI σ 17 0 28 = oI 4 s.2 → bO 300 s.2 → ∃ σ', run (d + m + 15) (60, 21, [some (.inr (.inr (17, (some 0)))), some (.inl (nI (e))), some (.inl (nI (k))), some (.inl (nI (seen))), some (.inl (nI (p)))], [], σ) = some ((0, 0, none), σ') ∧ rI σ' 17 0 27 = nI (cnt + (fl (oT x X0 ln k m left) j p s).1) ∧ rI σ' 17 0 28 = oI 4 (fl (oT x X0 ln k m left) j p s).2 ∧ ML (rI σ' 18 0) (xaR X0) X0 ∧ xF SmX σ σ' ∧ (∀ j, j < k → rI σ' 34 0 j = nI (ln j)) := by
        intro j
        induction j with
        | zero =>
          intro p s σ hpN h hs hli hc hle _
          have ep : p = N := by omega
          subst ep
          refine ⟨σ, ?_, hc, hle, h, xF_refl σ, hli⟩
          rw [B60_21]
          simp (disch := omega) only [n_cl, n_lt, n_le, n_eq, n_lt0, n_0lt, n_le0, n_eq0, n_gneq, n_ngeq, n_ng0, n_nglt, n_glt, n_gle, n_ltg, n_leg, n_gg, n_ge0, n_add, n_mul, n_rem, n_shl1, n_and, n_or, n_bit, n_not, n_not', n_B1, n_B0, n_BB, obind, xite_T, xite_F, xite_not, xite_same, oI_s, oI_n, Bool.false_eq_true, reduceCtorEq, eq_self, Classical.not_not, bI_T, bI_Fa, bI_0, bI_n0, bI_x, xb_0, xb_1, xite_bI, xite_bI', not_true_eq_false, not_false_eq_true, Nat.zero_add, Nat.add_zero, Nat.mul_zero, Nat.mul_one, Nat.one_mul, reduceIte, Nat.reduceEqDiff, Nat.reduceAdd, Nat.reduceMul, Nat.reduceSub, Nat.reduceLT, Nat.reduceLeDiff, Nat.reducePow, ite_true, ite_false, if_true, if_false, and_true, true_and, false_and, and_false, or_false, false_or, true_or, or_true, ne_eq, xite_t, xite_f, hs.2.2.2.2.1, hz]
        | succ j ij =>
          intro p s σ hpN h hs hli hc hle hbo
          have h5 := hs.2.2.2.2.1
          show ∃ σ', _ ∧ rI σ' 17 0 27 = nI (cnt + (fl (oT x X0 ln k m left) j (p + 1) (oT x X0 ln k m left p s)).1) ∧ rI σ' 17 0 28 = oI 4 (fl (oT x X0 ln k m left) j (p + 1) (oT x X0 ln k m left p s)).2 ∧ _
          have hrp := hrel p
          rw [decide_eq_true (show p < N by omega), Bool.true_and] at hrp
          rw [B60_21]
          cases hsb : seen.testBit p with
          | true =>
            rw [hsb] at hrp
            have eT : oT x X0 ln k m left p s = s := by
              unfold oT
              cases rp x X0 ln k with
              | none => rfl
              | some q =>
                obtain ⟨X, mil⟩ := q
                exact if_neg (by rw [hrp]; simp)
            rw [eT]
            obtain ⟨σ2, g1, g2⟩ := ij (p + 1) s σ (by omega) h hs hli hc hle hbo
            refine ⟨σ2, ?_, g2⟩
            simp (disch := omega) only [n_cl, n_lt, n_le, n_eq, n_lt0, n_0lt, n_le0, n_eq0, n_gneq, n_ngeq, n_ng0, n_nglt, n_glt, n_gle, n_ltg, n_leg, n_gg, n_ge0, n_add, n_mul, n_rem, n_shl1, n_and, n_or, n_bit, n_not, n_not', n_B1, n_B0, n_BB, obind, xite_T, xite_F, xite_not, xite_same, oI_s, oI_n, Bool.false_eq_true, reduceCtorEq, eq_self, Classical.not_not, bI_T, bI_Fa, bI_0, bI_n0, bI_x, xb_0, xb_1, xite_bI, xite_bI', not_true_eq_false, not_false_eq_true, Nat.zero_add, Nat.add_zero, Nat.mul_zero, Nat.mul_one, Nat.one_mul, reduceIte, Nat.reduceEqDiff, Nat.reduceAdd, Nat.reduceMul, Nat.reduceSub, Nat.reduceLT, Nat.reduceLeDiff, Nat.reducePow, ite_true, ite_false, if_true, if_false, and_true, true_and, false_and, and_false, or_false, false_or, true_or, or_true, ne_eq, xite_t, xite_f, h5, hz, hsb]
            exact g1
          | false =>
            rw [hsb] at hrp
            have hrp : left.testBit p = true := hrp
            have hl1 := left_1 left hl p (by omega) hrp
            have hse2 : seen ||| 2 ^ p < 32 := Nat.or_lt_two_pow (n := 5) hse (Nat.pow_lt_pow_right (by omega) (by omega))
            have hrel2 : ∀ j, (nM left (2 ^ p)).testBit j = (decide (j < N) && !(seen ||| 2 ^ p).testBit j) := fun j => by
              rw [nM_bit, hrel j, Nat.testBit_or]
              cases decide (j < N) <;> cases seen.testBit j <;> cases (2 ^ p).testBit j <;> rfl
            have eln : ∀ j, j < k + 1 → (if j = k then p else ln j) < N := fun j hj => by
              by_cases c : j = k
              · rw [if_pos c]; omega
              · rw [if_neg c]; exact hln j (by omega)
            obtain ⟨σ1, f1, f2, f3, f4, f5, f6⟩ := ih d (k + 1) (seen ||| 2 ^ p) (nM left (2 ^ p)) (fun j => if j = k then p else ln j) (cnt + s.1) s.2 (wI σ 34 0 k (nI p)) (by omega) (by omega) hl1.2 hse2 hrel2 eln (by simp (disch := omega) only [n_cl, n_lt, n_le, n_eq, n_lt0, n_0lt, n_le0, n_eq0, n_gneq, n_ngeq, n_ng0, n_nglt, n_glt, n_gle, n_ltg, n_leg, n_gg, n_ge0, n_add, n_mul, n_rem, n_shl1, n_and, n_or, n_bit, n_not, n_not', n_B1, n_B0, n_BB, obind, xite_T, xite_F, xite_not, xite_same, oI_s, oI_n, Bool.false_eq_true, reduceCtorEq, eq_self, Classical.not_not, bI_T, bI_Fa, bI_0, bI_n0, bI_x, xb_0, xb_1, xite_bI, xite_bI', not_true_eq_false, not_false_eq_true, Nat.zero_add, Nat.add_zero, Nat.mul_zero, Nat.mul_one, Nat.one_mul, reduceIte, Nat.reduceEqDiff, Nat.reduceAdd, Nat.reduceMul, Nat.reduceSub, Nat.reduceLT, Nat.reduceLeDiff, Nat.reducePow, ite_true, ite_false, if_true, if_false, and_true, true_and, false_and, and_false, or_false, false_or, true_or, or_true, ne_eq, xite_t, xite_f, w_I2, w_Is, w_In, w_IL, w_IP, w_IC, w_LI, w_LP, w_LC, w_PI, w_PL, w_PC]; exact h) (mShl_X hs (xF_wI (xF_refl σ) _ (by unfold SmX; omega))) (fun j hj => by
              show _ = nI (if j = k then p else ln j)
              rw [w_I1]
              show (if j = k then _ else _) = _
              by_cases c : j = k
              · rw [if_pos c, if_pos c]
              · rw [if_neg c, if_neg c]; exact hli j (by omega)) (by simp (disch := omega) only [n_cl, n_lt, n_le, n_eq, n_lt0, n_0lt, n_le0, n_eq0, n_gneq, n_ngeq, n_ng0, n_nglt, n_glt, n_gle, n_ltg, n_leg, n_gg, n_ge0, n_add, n_mul, n_rem, n_shl1, n_and, n_or, n_bit, n_not, n_not', n_B1, n_B0, n_BB, obind, xite_T, xite_F, xite_not, xite_same, oI_s, oI_n, Bool.false_eq_true, reduceCtorEq, eq_self, Classical.not_not, bI_T, bI_Fa, bI_0, bI_n0, bI_x, xb_0, xb_1, xite_bI, xite_bI', not_true_eq_false, not_false_eq_true, Nat.zero_add, Nat.add_zero, Nat.mul_zero, Nat.mul_one, Nat.one_mul, reduceIte, Nat.reduceEqDiff, Nat.reduceAdd, Nat.reduceMul, Nat.reduceSub, Nat.reduceLT, Nat.reduceLeDiff, Nat.reducePow, ite_true, ite_false, if_true, if_false, and_true, true_and, false_and, and_false, or_false, false_or, true_or, or_true, ne_eq, xite_t, xite_f, w_I2, w_Is, w_In, w_IL, w_IP, w_IC, w_LI, w_LP, w_LC, w_PI, w_PL, w_PC]; exact hc) (by simp (disch := omega) only [n_cl, n_lt, n_le, n_eq, n_lt0, n_0lt, n_le0, n_eq0, n_gneq, n_ngeq, n_ng0, n_nglt, n_glt, n_gle, n_ltg, n_leg, n_gg, n_ge0, n_add, n_mul, n_rem, n_shl1, n_and, n_or, n_bit, n_not, n_not', n_B1, n_B0, n_BB, obind, xite_T, xite_F, xite_not, xite_same, oI_s, oI_n, Bool.false_eq_true, reduceCtorEq, eq_self, Classical.not_not, bI_T, bI_Fa, bI_0, bI_n0, bI_x, xb_0, xb_1, xite_bI, xite_bI', not_true_eq_false, not_false_eq_true, Nat.zero_add, Nat.add_zero, Nat.mul_zero, Nat.mul_one, Nat.one_mul, reduceIte, Nat.reduceEqDiff, Nat.reduceAdd, Nat.reduceMul, Nat.reduceSub, Nat.reduceLT, Nat.reduceLeDiff, Nat.reducePow, ite_true, ite_false, if_true, if_false, and_true, true_and, false_and, and_false, or_false, false_or, true_or, or_true, ne_eq, xite_t, xite_f, w_I2, w_Is, w_In, w_IL, w_IP, w_IC, w_LI, w_LP, w_LC, w_PI, w_PL, w_PC]; exact hle) hbo
            have hF : xF SmX σ σ1 := xF_trans (xF_wI (xF_refl σ) _ (by unfold SmX; omega)) f5
            have hli1 : ∀ j, j < k → rI σ1 34 0 j = nI (ln j) := fun j hj => by
              have := f6 j (by omega)
              rw [if_neg (by omega)] at this
              exact this
            have erp : rp x X0 (fun j => if j = k then p else ln j) (k + 1) = (match rp x X0 ln k with
              | none => none
              | some (X, mil) => match tC X x p with
                | none => none
                | some (w, n, pp) => some (gX X (some (w, n, pp)), mil + smm X pp n)) := by
              show (match rp x X0 (fun j => if j = k then p else ln j) k with
                | none => none
                | some (X, mil) => match tC X x (if k = k then p else ln k) with
                  | none => none
                  | some (w, n, pp) => some (gX X (some (w, n, pp)), mil + smm X pp n)) = _
              rw [rp_c (ln := fun j => if j = k then p else ln j) (ln' := ln) k (fun j hj => if_neg (by omega)), if_pos rfl]
            have eT : oR x X0 (fun j => if j = k then p else ln j) (k + 1) m (nM left (2 ^ p)) (cnt + s.1) s.2 = (cnt + (oT x X0 ln k m left p s).1, (oT x X0 ln k m left p s).2) := by
              unfold oR oT
              rw [erp]
              cases rp x X0 ln k with
              | none => rfl
              | some q =>
                obtain ⟨X, mil⟩ := q
                show _ = (cnt + (oS x m left X mil p s).1, (oS x m left X mil p s).2)
                unfold oS
                rw [if_pos hrp]
                cases hT : tC X x p with
                | none =>
                  show (match (match tC X x p with
                    | none => none
                    | some (w, n, pp) => some (gX X (some (w, n, pp)), mil + smm X pp n)) with
                    | none => (cnt + s.1, s.2)
                    | some (X, mil) => (cnt + s.1 + (oC x m (nM left (2 ^ p)) X mil s.2).1, (oC x m (nM left (2 ^ p)) X mil s.2).2)) = _
                  rw [hT]
                | some t =>
                  obtain ⟨w, n, pp⟩ := t
                  show (match (match tC X x p with
                    | none => none
                    | some (w, n, pp) => some (gX X (some (w, n, pp)), mil + smm X pp n)) with
                    | none => (cnt + s.1, s.2)
                    | some (X, mil) => (cnt + s.1 + (oC x m (nM left (2 ^ p)) X mil s.2).1, (oC x m (nM left (2 ^ p)) X mil s.2).2)) = _
                  rw [hT]
                  show (cnt + s.1 + _, _) = (cnt + (s.1 + _), _)
                  rw [Nat.add_assoc]
            rw [eT] at f2 f3
            obtain ⟨σ2, g1, g2, g3, g4, g5, g6⟩ := ij (p + 1) (oT x X0 ln k m left p s) σ1 (by omega) f4 (mShl_X hs hF) hli1 f2 f3 (oT_bO hX hak hln hlN (by omega) hbo)
            refine ⟨σ2, ?_, g2, g3, g4, xF_trans hF g5, g6⟩
            simp (disch := omega) only [n_cl, n_lt, n_le, n_eq, n_lt0, n_0lt, n_le0, n_eq0, n_gneq, n_ngeq, n_ng0, n_nglt, n_glt, n_gle, n_ltg, n_leg, n_gg, n_ge0, n_add, n_mul, n_rem, n_shl1, n_and, n_or, n_bit, n_not, n_not', n_B1, n_B0, n_BB, obind, xite_T, xite_F, xite_not, xite_same, oI_s, oI_n, Bool.false_eq_true, reduceCtorEq, eq_self, Classical.not_not, bI_T, bI_Fa, bI_0, bI_n0, bI_x, xb_0, xb_1, xite_bI, xite_bI', not_true_eq_false, not_false_eq_true, Nat.zero_add, Nat.add_zero, Nat.mul_zero, Nat.mul_one, Nat.one_mul, reduceIte, Nat.reduceEqDiff, Nat.reduceAdd, Nat.reduceMul, Nat.reduceSub, Nat.reduceLT, Nat.reduceLeDiff, Nat.reducePow, ite_true, ite_false, if_true, if_false, and_true, true_and, false_and, and_false, or_false, false_or, true_or, or_true, ne_eq, xite_t, xite_f, h5, hz, hsb, f1]
            exact g1
      obtain ⟨σ', f1, f2, f3, f4, f5, f6⟩ := loop N 0 (0, least) σ (by omega) h hs hli hc hle hbo
      have key : (cnt + (fl (oT x X0 ln k m left) N 0 (0, least)).1, (fl (oT x X0 ln k m left) N 0 (0, least)).2) = oR x X0 ln k (m + 1) left cnt least := by
        unfold oR
        cases hr : rp x X0 ln k with
        | none =>
          have : fl (oT x X0 ln k m left) N 0 (0, least) = (0, least) := fl_idR N 0 _ (fun p _ _ a => by unfold oT; rw [hr])
          rw [this]
          rfl
        | some q =>
          obtain ⟨X, mil⟩ := q
          have e1 : oT x X0 ln k m left = oS x m left X mil := by
            funext p s
            unfold oT
            rw [hr]
          show _ = (cnt + (oC x (m + 1) left X mil least).1, (oC x (m + 1) left X mil least).2)
          rw [oC_s h0, e1, show (5 : Nat) = N + (5 - N) by omega, fl_split]
          rw [fl_idR (f := oS x m left X mil) (5 - N) (0 + N) _ (fun p h1 h2 a => if_neg (fun hb => by have := hlN p hb; omega))]
      refine ⟨σ', ?_, by rw [f2, ← key], by rw [f3, ← key], f4, f5, f6⟩
      show run (d + m + 14 + 1) _ = _
      rw [B60_0]
      have h5 := hs.2.2.2.2.1
      simp (disch := omega) only [n_cl, n_lt, n_le, n_eq, n_lt0, n_0lt, n_le0, n_eq0, n_gneq, n_ngeq, n_ng0, n_nglt, n_glt, n_gle, n_ltg, n_leg, n_gg, n_ge0, n_add, n_mul, n_rem, n_shl1, n_and, n_or, n_bit, n_not, n_not', n_B1, n_B0, n_BB, obind, xite_T, xite_F, xite_not, xite_same, oI_s, oI_n, Bool.false_eq_true, reduceCtorEq, eq_self, Classical.not_not, bI_T, bI_Fa, bI_0, bI_n0, bI_x, xb_0, xb_1, xite_bI, xite_bI', not_true_eq_false, not_false_eq_true, Nat.zero_add, Nat.add_zero, Nat.mul_zero, Nat.mul_one, Nat.one_mul, reduceIte, Nat.reduceEqDiff, Nat.reduceAdd, Nat.reduceMul, Nat.reduceSub, Nat.reduceLT, Nat.reduceLeDiff, Nat.reducePow, ite_true, ite_false, if_true, if_false, and_true, true_and, false_and, and_false, or_false, false_or, true_or, or_true, ne_eq, xite_t, xite_f, h5, hz]
      exact f1
theorem duo_orders (d : Nat) (S : mG) (hX : WX (xaR S.1) S.1) (v w : Int32) : Duo (d + 60) (fun σ => xentry 155 [.inr (.inr (0, (some 0))), .inl v, .inl w] σ) (fun σ => xentry 61 [.inr (.inr (17, (some 0))), .inl v, .inl w] σ) S := by
  by_cases hw : inb w 2
  · by_cases hv : inb v 8
    · obtain ⟨e, he, ee⟩ := inb_of hv (by omega)
      subst ee
      by_cases h0 : cgI S.1 (S.2.2 e) = 0
      · have h1 := h0
        rw [cgI_0] at h1
        obtain ⟨h2, h3, N, hN, hz, hask⟩ := h1
        have hak : ∀ k, k < N → akC S.1 (S.2.2 e) k := fun k hk => akC_of hX (hask k hk)
        obtain ⟨l1, l2⟩ := left_N N hN
        have h2N : 2 ^ N ≤ 2 ^ 5 := Nat.pow_le_pow_right (by omega) hN
        have h1N : 1 ≤ 2 ^ N := Nat.one_le_two_pow
        refine ⟨xite (w = 0) (nI (oC (S.2.2 e) 5 (2 ^ N - 1) S.1 0 none).1) (oI 4 (oC (S.2.2 e) 5 (2 ^ N - 1) S.1 0 none).2), S, fun σ h => ?_, fun σ h => ?_⟩
        · obtain ⟨σ1, f1, f2, f3⟩ := C91 (d + 58) σ (i := 1) (j := 0) (by omega) h.1
          have hF1 : xF Smi σ (wI σ1 0 0 8 (-nI 4)) := xF_wI (xF_le f3 Sld_m) _ (by unfold Smi; omega)
          obtain ⟨σ2, g1, g2, g3, g4⟩ := C176 e N (S.2.2 e) S.1 hz hN hak 5 (d + 41) (2 ^ N - 1) 0 0 S.1 none (wI σ1 0 0 8 (-nI 4)) rfl l2 (by omega) (fun j hj => by
            rw [Nat.testBit_two_pow_sub_one] at hj
            exact of_decide_eq_true hj) (by omega) rfl (CL_F f2 (xF_wI (S := fun r j k => r = 0) (xF_refl σ1) (-nI 4) rfl) (fun r k hr => by omega) (fun j k => by omega)) (cSh_mi (h.2.2.2 e he) hF1) (by simp (disch := omega) only [n_cl, n_lt, n_le, n_eq, n_lt0, n_0lt, n_le0, n_eq0, n_gneq, n_ngeq, n_ng0, n_nglt, n_glt, n_gle, n_ltg, n_leg, n_gg, n_ge0, n_add, n_mul, n_rem, n_shl1, n_and, n_or, n_bit, n_not, n_not', n_B1, n_B0, n_BB, obind, xite_T, xite_F, xite_not, xite_same, oI_s, oI_n, Bool.false_eq_true, reduceCtorEq, eq_self, Classical.not_not, bI_T, bI_Fa, bI_0, bI_n0, bI_x, xb_0, xb_1, xite_bI, xite_bI', not_true_eq_false, not_false_eq_true, Nat.zero_add, Nat.add_zero, Nat.mul_zero, Nat.mul_one, Nat.one_mul, reduceIte, Nat.reduceEqDiff, Nat.reduceAdd, Nat.reduceMul, Nat.reduceSub, Nat.reduceLT, Nat.reduceLeDiff, Nat.reducePow, ite_true, ite_false, if_true, if_false, and_true, true_and, false_and, and_false, or_false, false_or, true_or, or_true, ne_eq, xite_t, xite_f, w_I2, w_Is, w_In, w_IL, w_IP, w_IC, w_LI, w_LP, w_LC, w_PI, w_PL, w_PC]) (fun v hv => by cases hv)
          have hF : xF Smi σ σ2 := xF_trans hF1 g4
          refine ⟨σ2, ?_, CI_Scr h (xF_le hF Smi_S), kC_F hF (fun r j k s => Scr_16 _ _ _ (Smi_S _ _ _ s))⟩
          have h5 : rI (wI σ1 0 0 8 (-nI 4)) 14 e 2 = nI (4 * N) := by
            have := (cSh_mi (h.2.2.2 e he) hF1).2.2.2.2.1
            rw [hz] at this
            exact this
          have g1 : run (d + 59) (xentry 176 [.inr (.inr (0, (some 0))), .inr (.inr (14, (some e))), .inl (nI (2 ^ N - 1)), .inl (nI 0), .inl (nI 0)] (wI σ1 0 0 8 (-nI 4))) = _ := g1
          have ediv : 4 * N / 4 = N := by omega
          show run (d + 60) (xentry 155 _ σ) = _
          rw [B155_0, C173 _ _ h.1 (h.2.2.2 e he) he hw]
          simp (disch := omega) only [n_cl, n_lt, n_le, n_eq, n_lt0, n_0lt, n_le0, n_eq0, n_gneq, n_ngeq, n_ng0, n_nglt, n_glt, n_gle, n_ltg, n_leg, n_gg, n_ge0, n_add, n_mul, n_rem, n_shl1, n_and, n_or, n_bit, n_not, n_not', n_B1, n_B0, n_BB, obind, xite_T, xite_F, xite_not, xite_same, oI_s, oI_n, Bool.false_eq_true, reduceCtorEq, eq_self, Classical.not_not, bI_T, bI_Fa, bI_0, bI_n0, bI_x, xb_0, xb_1, xite_bI, xite_bI', not_true_eq_false, not_false_eq_true, Nat.zero_add, Nat.add_zero, Nat.mul_zero, Nat.mul_one, Nat.one_mul, reduceIte, Nat.reduceEqDiff, Nat.reduceAdd, Nat.reduceMul, Nat.reduceSub, Nat.reduceLT, Nat.reduceLeDiff, Nat.reducePow, ite_true, ite_false, if_true, if_false, and_true, true_and, false_and, and_false, or_false, false_or, true_or, or_true, ne_eq, xite_t, xite_f, h0, f1, h5, n_div, ediv]
          rw [n_sub h1N, g1]
          simp (disch := omega) only [n_cl, n_lt, n_le, n_eq, n_lt0, n_0lt, n_le0, n_eq0, n_gneq, n_ngeq, n_ng0, n_nglt, n_glt, n_gle, n_ltg, n_leg, n_gg, n_ge0, n_add, n_mul, n_rem, n_shl1, n_and, n_or, n_bit, n_not, n_not', n_B1, n_B0, n_BB, obind, xite_T, xite_F, xite_not, xite_same, oI_s, oI_n, Bool.false_eq_true, reduceCtorEq, eq_self, Classical.not_not, bI_T, bI_Fa, bI_0, bI_n0, bI_x, xb_0, xb_1, xite_bI, xite_bI', not_true_eq_false, not_false_eq_true, Nat.zero_add, Nat.add_zero, Nat.mul_zero, Nat.mul_one, Nat.one_mul, reduceIte, Nat.reduceEqDiff, Nat.reduceAdd, Nat.reduceMul, Nat.reduceSub, Nat.reduceLT, Nat.reduceLeDiff, Nat.reducePow, ite_true, ite_false, if_true, if_false, and_true, true_and, false_and, and_false, or_false, false_or, true_or, or_true, ne_eq, g3]
          by_cases hw0 : w = 0
          · rw [xite_t hw0, xite_t hw0]
          · rw [xite_f hw0, xite_f hw0]
        · have hF0 : xF SmX σ (wI (wI σ 17 0 27 (nI 0)) 17 0 28 (-nI 4)) := xF_wI (xF_wI (xF_refl σ) _ (by unfold SmX; omega)) _ (by unfold SmX; omega)
          obtain ⟨σ2, g1, g2, g3, g4, g5, g6⟩ := M60 e N (S.2.2 e) S.1 he hX hz hN hak 5 (d + 40) 0 0 (2 ^ N - 1) (fun _ => 0) 0 none (wI (wI σ 17 0 27 (nI 0)) 17 0 28 (-nI 4)) rfl (by omega) l2 (by omega) (fun j => by
            rw [Nat.testBit_two_pow_sub_one, Nat.zero_testBit]
            simp) (fun j hj => by omega) (by simp (disch := omega) only [n_cl, n_lt, n_le, n_eq, n_lt0, n_0lt, n_le0, n_eq0, n_gneq, n_ngeq, n_ng0, n_nglt, n_glt, n_gle, n_ltg, n_leg, n_gg, n_ge0, n_add, n_mul, n_rem, n_shl1, n_and, n_or, n_bit, n_not, n_not', n_B1, n_B0, n_BB, obind, xite_T, xite_F, xite_not, xite_same, oI_s, oI_n, Bool.false_eq_true, reduceCtorEq, eq_self, Classical.not_not, bI_T, bI_Fa, bI_0, bI_n0, bI_x, xb_0, xb_1, xite_bI, xite_bI', not_true_eq_false, not_false_eq_true, Nat.zero_add, Nat.add_zero, Nat.mul_zero, Nat.mul_one, Nat.one_mul, reduceIte, Nat.reduceEqDiff, Nat.reduceAdd, Nat.reduceMul, Nat.reduceSub, Nat.reduceLT, Nat.reduceLeDiff, Nat.reducePow, ite_true, ite_false, if_true, if_false, and_true, true_and, false_and, and_false, or_false, false_or, true_or, or_true, ne_eq, xite_t, xite_f, w_I2, w_Is, w_In, w_IL, w_IP, w_IC, w_LI, w_LP, w_LC, w_PI, w_PL, w_PC]; exact h.1) (mShl_X (h.2.2.2 e he) hF0) (fun j hj => by omega) (by simp (disch := omega) only [n_cl, n_lt, n_le, n_eq, n_lt0, n_0lt, n_le0, n_eq0, n_gneq, n_ngeq, n_ng0, n_nglt, n_glt, n_gle, n_ltg, n_leg, n_gg, n_ge0, n_add, n_mul, n_rem, n_shl1, n_and, n_or, n_bit, n_not, n_not', n_B1, n_B0, n_BB, obind, xite_T, xite_F, xite_not, xite_same, oI_s, oI_n, Bool.false_eq_true, reduceCtorEq, eq_self, Classical.not_not, bI_T, bI_Fa, bI_0, bI_n0, bI_x, xb_0, xb_1, xite_bI, xite_bI', not_true_eq_false, not_false_eq_true, Nat.zero_add, Nat.add_zero, Nat.mul_zero, Nat.mul_one, Nat.one_mul, reduceIte, Nat.reduceEqDiff, Nat.reduceAdd, Nat.reduceMul, Nat.reduceSub, Nat.reduceLT, Nat.reduceLeDiff, Nat.reducePow, ite_true, ite_false, if_true, if_false, and_true, true_and, false_and, and_false, or_false, false_or, true_or, or_true, ne_eq, xite_t, xite_f, w_I2, w_Is, w_In, w_IL, w_IP, w_IC, w_LI, w_LP, w_LC, w_PI, w_PL, w_PC]) (by simp (disch := omega) only [n_cl, n_lt, n_le, n_eq, n_lt0, n_0lt, n_le0, n_eq0, n_gneq, n_ngeq, n_ng0, n_nglt, n_glt, n_gle, n_ltg, n_leg, n_gg, n_ge0, n_add, n_mul, n_rem, n_shl1, n_and, n_or, n_bit, n_not, n_not', n_B1, n_B0, n_BB, obind, xite_T, xite_F, xite_not, xite_same, oI_s, oI_n, Bool.false_eq_true, reduceCtorEq, eq_self, Classical.not_not, bI_T, bI_Fa, bI_0, bI_n0, bI_x, xb_0, xb_1, xite_bI, xite_bI', not_true_eq_false, not_false_eq_true, Nat.zero_add, Nat.add_zero, Nat.mul_zero, Nat.mul_one, Nat.one_mul, reduceIte, Nat.reduceEqDiff, Nat.reduceAdd, Nat.reduceMul, Nat.reduceSub, Nat.reduceLT, Nat.reduceLeDiff, Nat.reducePow, ite_true, ite_false, if_true, if_false, and_true, true_and, false_and, and_false, or_false, false_or, true_or, or_true, ne_eq, xite_t, xite_f, w_I2, w_Is, w_In, w_IL, w_IP, w_IC, w_LI, w_LP, w_LC, w_PI, w_PL, w_PC]) (fun v hv => by cases hv)
          obtain ⟨m1, m2⟩ := MI_Z h (xF_trans hF0 g5) g4
          refine ⟨σ2, ?_, m1, m2⟩
          have g1 : run (d + 59) (xentry 60 [.inr (.inr (17, (some 0))), .inl (nI e), .inl (nI 0), .inl (nI 0)] (wI (wI σ 17 0 27 (nI 0)) 17 0 28 (-nI 4))) = some ((0, 0, none), σ2) := g1
          have eR : oR (S.2.2 e) S.1 (fun _ => 0) 0 5 (2 ^ N - 1) 0 none = oC (S.2.2 e) 5 (2 ^ N - 1) S.1 0 none := by
            show (0 + (oC (S.2.2 e) 5 (2 ^ N - 1) S.1 0 none).1, (oC (S.2.2 e) 5 (2 ^ N - 1) S.1 0 none).2) = _
            rw [Nat.zero_add]
          rw [eR] at g2 g3
          show run (d + 60) (xentry 61 _ σ) = _
          rw [B61_0, M57 _ _ h.1 (h.2.2.2 e he) he hw]
          simp (disch := omega) only [n_cl, n_lt, n_le, n_eq, n_lt0, n_0lt, n_le0, n_eq0, n_gneq, n_ngeq, n_ng0, n_nglt, n_glt, n_gle, n_ltg, n_leg, n_gg, n_ge0, n_add, n_mul, n_rem, n_shl1, n_and, n_or, n_bit, n_not, n_not', n_B1, n_B0, n_BB, obind, xite_T, xite_F, xite_not, xite_same, oI_s, oI_n, Bool.false_eq_true, reduceCtorEq, eq_self, Classical.not_not, bI_T, bI_Fa, bI_0, bI_n0, bI_x, xb_0, xb_1, xite_bI, xite_bI', not_true_eq_false, not_false_eq_true, Nat.zero_add, Nat.add_zero, Nat.mul_zero, Nat.mul_one, Nat.one_mul, reduceIte, Nat.reduceEqDiff, Nat.reduceAdd, Nat.reduceMul, Nat.reduceSub, Nat.reduceLT, Nat.reduceLeDiff, Nat.reducePow, ite_true, ite_false, if_true, if_false, and_true, true_and, false_and, and_false, or_false, false_or, true_or, or_true, ne_eq, xite_t, xite_f, h0, g1, g2, g3]
          by_cases hw0 : w = 0
          · rw [xite_t hw0, xite_t hw0]
          · rw [xite_f hw0, xite_f hw0]
      · refine duo_bad (cgI S.1 (S.2.2 e)) (fun σ h => ?_) (fun σ h => ?_)
        · rw [B155_0, C173 _ _ h.1 (h.2.2.2 e he) he hw]
          simp (disch := omega) only [n_cl, n_lt, n_le, n_eq, n_lt0, n_0lt, n_le0, n_eq0, n_gneq, n_ngeq, n_ng0, n_nglt, n_glt, n_gle, n_ltg, n_leg, n_gg, n_ge0, n_add, n_mul, n_rem, n_shl1, n_and, n_or, n_bit, n_not, n_not', n_B1, n_B0, n_BB, obind, xite_T, xite_F, xite_not, xite_same, oI_s, oI_n, Bool.false_eq_true, reduceCtorEq, eq_self, Classical.not_not, bI_T, bI_Fa, bI_0, bI_n0, bI_x, xb_0, xb_1, xite_bI, xite_bI', not_true_eq_false, not_false_eq_true, Nat.zero_add, Nat.add_zero, Nat.mul_zero, Nat.mul_one, Nat.one_mul, reduceIte, Nat.reduceEqDiff, Nat.reduceAdd, Nat.reduceMul, Nat.reduceSub, Nat.reduceLT, Nat.reduceLeDiff, Nat.reducePow, ite_true, ite_false, if_true, if_false, and_true, true_and, false_and, and_false, or_false, false_or, true_or, or_true, ne_eq, h0]
        · rw [B61_0, M57 _ _ h.1 (h.2.2.2 e he) he hw]
          simp (disch := omega) only [n_cl, n_lt, n_le, n_eq, n_lt0, n_0lt, n_le0, n_eq0, n_gneq, n_ngeq, n_ng0, n_nglt, n_glt, n_gle, n_ltg, n_leg, n_gg, n_ge0, n_add, n_mul, n_rem, n_shl1, n_and, n_or, n_bit, n_not, n_not', n_B1, n_B0, n_BB, obind, xite_T, xite_F, xite_not, xite_same, oI_s, oI_n, Bool.false_eq_true, reduceCtorEq, eq_self, Classical.not_not, bI_T, bI_Fa, bI_0, bI_n0, bI_x, xb_0, xb_1, xite_bI, xite_bI', not_true_eq_false, not_false_eq_true, Nat.zero_add, Nat.add_zero, Nat.mul_zero, Nat.mul_one, Nat.one_mul, reduceIte, Nat.reduceEqDiff, Nat.reduceAdd, Nat.reduceMul, Nat.reduceSub, Nat.reduceLT, Nat.reduceLeDiff, Nat.reducePow, ite_true, ite_false, if_true, if_false, and_true, true_and, false_and, and_false, or_false, false_or, true_or, or_true, ne_eq, h0]
    · refine duo_bad (-nI 1) (fun σ h => ?_) (fun σ h => ?_)
      · rw [B155_0, B173_0, C166 _ _ _ (by omega)]
        simp (disch := omega) only [n_cl, n_lt, n_le, n_eq, n_lt0, n_0lt, n_le0, n_eq0, n_gneq, n_ngeq, n_ng0, n_nglt, n_glt, n_gle, n_ltg, n_leg, n_gg, n_ge0, n_add, n_mul, n_rem, n_shl1, n_and, n_or, n_bit, n_not, n_not', n_B1, n_B0, n_BB, obind, xite_T, xite_F, xite_not, xite_same, oI_s, oI_n, Bool.false_eq_true, reduceCtorEq, eq_self, Classical.not_not, bI_T, bI_Fa, bI_0, bI_n0, bI_x, xb_0, xb_1, xite_bI, xite_bI', not_true_eq_false, not_false_eq_true, Nat.zero_add, Nat.add_zero, Nat.mul_zero, Nat.mul_one, Nat.one_mul, reduceIte, Nat.reduceEqDiff, Nat.reduceAdd, Nat.reduceMul, Nat.reduceSub, Nat.reduceLT, Nat.reduceLeDiff, Nat.reducePow, ite_true, ite_false, if_true, if_false, and_true, true_and, false_and, and_false, or_false, false_or, true_or, or_true, ne_eq, xite_t, xite_f, hw, C171_f _ _ hv]
      · rw [B61_0, B57_0, M2]
        simp (disch := omega) only [n_cl, n_lt, n_le, n_eq, n_lt0, n_0lt, n_le0, n_eq0, n_gneq, n_ngeq, n_ng0, n_nglt, n_glt, n_gle, n_ltg, n_leg, n_gg, n_ge0, n_add, n_mul, n_rem, n_shl1, n_and, n_or, n_bit, n_not, n_not', n_B1, n_B0, n_BB, obind, xite_T, xite_F, xite_not, xite_same, oI_s, oI_n, Bool.false_eq_true, reduceCtorEq, eq_self, Classical.not_not, bI_T, bI_Fa, bI_0, bI_n0, bI_x, xb_0, xb_1, xite_bI, xite_bI', not_true_eq_false, not_false_eq_true, Nat.zero_add, Nat.add_zero, Nat.mul_zero, Nat.mul_one, Nat.one_mul, reduceIte, Nat.reduceEqDiff, Nat.reduceAdd, Nat.reduceMul, Nat.reduceSub, Nat.reduceLT, Nat.reduceLeDiff, Nat.reducePow, ite_true, ite_false, if_true, if_false, and_true, true_and, false_and, and_false, or_false, false_or, true_or, or_true, ne_eq, xite_t, xite_f, hv]
  · refine duo_bad (-nI 1) (fun σ h => ?_) (fun σ h => ?_)
    · rw [B155_0, B173_0, C166 _ _ _ (by omega)]
      simp (disch := omega) only [n_cl, n_lt, n_le, n_eq, n_lt0, n_0lt, n_le0, n_eq0, n_gneq, n_ngeq, n_ng0, n_nglt, n_glt, n_gle, n_ltg, n_leg, n_gg, n_ge0, n_add, n_mul, n_rem, n_shl1, n_and, n_or, n_bit, n_not, n_not', n_B1, n_B0, n_BB, obind, xite_T, xite_F, xite_not, xite_same, oI_s, oI_n, Bool.false_eq_true, reduceCtorEq, eq_self, Classical.not_not, bI_T, bI_Fa, bI_0, bI_n0, bI_x, xb_0, xb_1, xite_bI, xite_bI', not_true_eq_false, not_false_eq_true, Nat.zero_add, Nat.add_zero, Nat.mul_zero, Nat.mul_one, Nat.one_mul, reduceIte, Nat.reduceEqDiff, Nat.reduceAdd, Nat.reduceMul, Nat.reduceSub, Nat.reduceLT, Nat.reduceLeDiff, Nat.reducePow, ite_true, ite_false, if_true, if_false, and_true, true_and, false_and, and_false, or_false, false_or, true_or, or_true, ne_eq, xite_t, xite_f, hw]
    · rw [B61_0, B57_0, M2]
      simp (disch := omega) only [n_cl, n_lt, n_le, n_eq, n_lt0, n_0lt, n_le0, n_eq0, n_gneq, n_ngeq, n_ng0, n_nglt, n_glt, n_gle, n_ltg, n_leg, n_gg, n_ge0, n_add, n_mul, n_rem, n_shl1, n_and, n_or, n_bit, n_not, n_not', n_B1, n_B0, n_BB, obind, xite_T, xite_F, xite_not, xite_same, oI_s, oI_n, Bool.false_eq_true, reduceCtorEq, eq_self, Classical.not_not, bI_T, bI_Fa, bI_0, bI_n0, bI_x, xb_0, xb_1, xite_bI, xite_bI', not_true_eq_false, not_false_eq_true, Nat.zero_add, Nat.add_zero, Nat.mul_zero, Nat.mul_one, Nat.one_mul, reduceIte, Nat.reduceEqDiff, Nat.reduceAdd, Nat.reduceMul, Nat.reduceSub, Nat.reduceLT, Nat.reduceLeDiff, Nat.reducePow, ite_true, ite_false, if_true, if_false, and_true, true_and, false_and, and_false, or_false, false_or, true_or, or_true, ne_eq, M1c, hw]
