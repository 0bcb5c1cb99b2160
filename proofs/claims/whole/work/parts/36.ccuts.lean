/-! CUTS OF THE CLASS; MANY, SERVED -/
def S106 (i r j _ : Nat) : Prop := r = 6 ∧ j = i
theorem CL_6 {σ σ' : xS} {i : Nat} {X : mX} (h : CL σ i X) (k : xF (S106 i) σ σ') : CL σ' i X := CL_F h k (fun r k hr => by unfold S106; omega) (fun j k => by unfold S106; omega)
theorem tb_eq {a b : Bool} : (bI (a = true) = bI (b = true)) = (a = b) := by
  cases a <;> cases b <;> simp [bI_T, bI_Fa] <;> decide
theorem C106 (d : Nat) (σ : xS) {i g : Nat} {X : mX} (h : CL σ i X) (hg : g < 4) :
    ∃ σ', run (d + 3) (xentry 106 [.inr (.inr (1, (some i))), .inl (nI g)] σ) = some ((0, 0, none), σ') ∧ (∀ s, s < 2 ^ xaP X → rI σ' 6 i s = nI (lds X g s (xaR X))) ∧ xF (S106 i) σ σ' := by
  have hP6 := h.1.2.1
  have hR9 := h.1.2.2.1
  have h64 := p2_64 hP6
  have sets : ∀ m r s σ, r < xaR X → fre X g r = true → s + m = 2 ^ xaP X → CL σ i X → (∀ t, t < 2 ^ xaP X → rI σ 6 i t = nI (lds X g t r + if t < s then ldr X g t r else 0)) → ∃ σ', run (d + 3) (106, 37, [some (.inr (.inr (1, (some i)))), some (.inl (nI (g))), some (.inl (nI (r))), some (.inl (nI (s)))], [], σ) = run (d + 3) (106, 27, [some (.inr (.inr (1, (some i)))), some (.inl (nI (g))), some (.inl (nI (r + 1))), none], [], σ') ∧ (∀ t, t < 2 ^ xaP X → rI σ' 6 i t = nI (lds X g t (r + 1))) ∧ xF (S106 i) σ σ' := by
    intro m
    induction m with
    | zero =>
      intro r s σ hr hf hs h hv
      refine ⟨σ, ?_, fun t ht => ?_, xF_refl σ⟩
      · have e : s = 2 ^ xaP X := by omega
        subst e
        rw [B106_37]
        simp (disch := omega) only [n_cl, n_lt, n_le, n_eq, n_lt0, n_0lt, n_le0, n_eq0, n_gneq, n_ngeq, n_ng0, n_nglt, n_glt, n_gle, n_ltg, n_leg, n_gg, n_ge0, n_add, n_mul, n_rem, n_shl1, n_and, n_or, n_bit, n_not, n_not', n_B1, n_B0, n_BB, obind, xite_T, xite_F, xite_not, xite_same, oI_s, oI_n, Bool.false_eq_true, reduceCtorEq, eq_self, Classical.not_not, bI_T, bI_Fa, bI_0, bI_n0, bI_x, xb_0, xb_1, xite_bI, xite_bI', not_true_eq_false, not_false_eq_true, Nat.zero_add, Nat.add_zero, Nat.mul_zero, Nat.mul_one, Nat.one_mul, reduceIte, Nat.reduceEqDiff, Nat.reduceAdd, Nat.reduceMul, Nat.reduceSub, Nat.reduceLT, Nat.reduceLeDiff, Nat.reducePow, ite_true, ite_false, if_true, if_false, and_true, true_and, false_and, and_false, or_false, false_or, true_or, or_true, ne_eq, xite_t, xite_f, C100 _ _ h hr hg, hf, h.2.1]
      · rw [hv t ht, if_pos (by omega)]
        rfl
    | succ m ih =>
      intro r s σ hr hf hs h hv
      have hb := h.1.2.2.2.2.2.1 r hr
      have e1 := h.2.2.2.2.1 r hr
      have hvs := hv s (by omega)
      rw [if_neg (by omega), Nat.add_zero] at hvs
      by_cases hc : s.testBit (xaF X r) = s.testBit (xaT X r)
      · have e0 : ldr X g s r = 0 := by unfold ldr; exact if_neg (fun h => h.2 hc)
        obtain ⟨σ', f1, f2, f3⟩ := ih r (s + 1) σ hr hf (by omega) h (fun t ht => by
          rw [hv t ht]
          by_cases et : t = s
          · subst et
            rw [if_neg (by omega), if_pos (by omega), e0]
          · by_cases hts : t < s
            · rw [if_pos hts, if_pos (by omega)]
            · rw [if_neg hts, if_neg (by omega)])
        refine ⟨σ', ?_, f2, f3⟩
        rw [B106_37]
        simp (disch := omega) only [n_cl, n_lt, n_le, n_eq, n_lt0, n_0lt, n_le0, n_eq0, n_gneq, n_ngeq, n_ng0, n_nglt, n_glt, n_gle, n_ltg, n_leg, n_gg, n_ge0, n_add, n_mul, n_rem, n_shl1, n_and, n_or, n_bit, n_not, n_not', n_B1, n_B0, n_BB, obind, xite_T, xite_F, xite_not, xite_same, oI_s, oI_n, Bool.false_eq_true, reduceCtorEq, eq_self, Classical.not_not, bI_T, bI_Fa, bI_0, bI_n0, bI_x, xb_0, xb_1, xite_bI, xite_bI', not_true_eq_false, not_false_eq_true, Nat.zero_add, Nat.add_zero, Nat.mul_zero, Nat.mul_one, Nat.one_mul, reduceIte, Nat.reduceEqDiff, Nat.reduceAdd, Nat.reduceMul, Nat.reduceSub, Nat.reduceLT, Nat.reduceLeDiff, Nat.reducePow, ite_true, ite_false, if_true, if_false, and_true, true_and, false_and, and_false, or_false, false_or, true_or, or_true, ne_eq, xite_t, xite_f, C100 _ _ h hr hg, hf, h.2.1, e1.1, e1.2.1, C167, tb_eq, hc]
        exact f1
      · have e0 : ldr X g s r = 1 := by unfold ldr; exact if_pos ⟨hf, hc⟩
        have hF : xF (S106 i) σ (wI σ 6 i s (nI (lds X g s r + 1))) := xF_wI (xF_refl σ) _ ⟨rfl, rfl⟩
        obtain ⟨σ', f1, f2, f3⟩ := ih r (s + 1) (wI σ 6 i s (nI (lds X g s r + 1))) hr hf (by omega) (CL_6 h hF) (fun t ht => by
          rw [w_I1]
          show (if t = s then _ else _) = _
          by_cases et : t = s
          · subst et
            rw [if_pos rfl, if_pos (by omega), e0]
          · rw [if_neg et, hv t ht]
            by_cases hts : t < s
            · rw [if_pos hts, if_pos (by omega)]
            · rw [if_neg hts, if_neg (by omega)])
        refine ⟨σ', ?_, f2, xF_trans hF f3⟩
        rw [B106_37]
        simp (disch := omega) only [n_cl, n_lt, n_le, n_eq, n_lt0, n_0lt, n_le0, n_eq0, n_gneq, n_ngeq, n_ng0, n_nglt, n_glt, n_gle, n_ltg, n_leg, n_gg, n_ge0, n_add, n_mul, n_rem, n_shl1, n_and, n_or, n_bit, n_not, n_not', n_B1, n_B0, n_BB, obind, xite_T, xite_F, xite_not, xite_same, oI_s, oI_n, Bool.false_eq_true, reduceCtorEq, eq_self, Classical.not_not, bI_T, bI_Fa, bI_0, bI_n0, bI_x, xb_0, xb_1, xite_bI, xite_bI', not_true_eq_false, not_false_eq_true, Nat.zero_add, Nat.add_zero, Nat.mul_zero, Nat.mul_one, Nat.one_mul, reduceIte, Nat.reduceEqDiff, Nat.reduceAdd, Nat.reduceMul, Nat.reduceSub, Nat.reduceLT, Nat.reduceLeDiff, Nat.reducePow, ite_true, ite_false, if_true, if_false, and_true, true_and, false_and, and_false, or_false, false_or, true_or, or_true, ne_eq, xite_t, xite_f, C100 _ _ h hr hg, hf, h.2.1, e1.1, e1.2.1, C167, tb_eq, hc, hvs]
        exact f1
  have roads : ∀ m r σ, r + m = xaR X → CL σ i X → (∀ t, t < 2 ^ xaP X → rI σ 6 i t = nI (lds X g t r)) → ∃ σ', run (d + 3) (106, 27, [some (.inr (.inr (1, (some i)))), some (.inl (nI (g))), some (.inl (nI (r))), none], [], σ) = some ((0, 0, none), σ') ∧ (∀ t, t < 2 ^ xaP X → rI σ' 6 i t = nI (lds X g t (xaR X))) ∧ xF (S106 i) σ σ' := by
    intro m
    induction m with
    | zero =>
      intro r σ hr h hv
      have e : r = xaR X := by omega
      subst e
      refine ⟨σ, ?_, hv, xF_refl σ⟩
      rw [B106_27]
      simp (disch := omega) only [n_cl, n_lt, n_le, n_eq, n_lt0, n_0lt, n_le0, n_eq0, n_gneq, n_ngeq, n_ng0, n_nglt, n_glt, n_gle, n_ltg, n_leg, n_gg, n_ge0, n_add, n_mul, n_rem, n_shl1, n_and, n_or, n_bit, n_not, n_not', n_B1, n_B0, n_BB, obind, xite_T, xite_F, xite_not, xite_same, oI_s, oI_n, Bool.false_eq_true, reduceCtorEq, eq_self, Classical.not_not, bI_T, bI_Fa, bI_0, bI_n0, bI_x, xb_0, xb_1, xite_bI, xite_bI', not_true_eq_false, not_false_eq_true, Nat.zero_add, Nat.add_zero, Nat.mul_zero, Nat.mul_one, Nat.one_mul, reduceIte, Nat.reduceEqDiff, Nat.reduceAdd, Nat.reduceMul, Nat.reduceSub, Nat.reduceLT, Nat.reduceLeDiff, Nat.reducePow, ite_true, ite_false, if_true, if_false, and_true, true_and, false_and, and_false, or_false, false_or, true_or, or_true, ne_eq, xite_t, xite_f, h.2.2.1]
    | succ m ih =>
      intro r σ hr h hv
      by_cases hf : fre X g r = true
      · obtain ⟨σ1, f1, f2, f3⟩ := sets (2 ^ xaP X) r 0 σ (by omega) hf (by omega) h (fun t ht => by rw [hv t ht, if_neg (by omega), Nat.add_zero])
        obtain ⟨σ2, g1, g2, g3⟩ := ih (r + 1) σ1 (by omega) (CL_6 h f3) f2
        refine ⟨σ2, ?_, g2, xF_trans f3 g3⟩
        rw [B106_27]
        simp (disch := omega) only [n_cl, n_lt, n_le, n_eq, n_lt0, n_0lt, n_le0, n_eq0, n_gneq, n_ngeq, n_ng0, n_nglt, n_glt, n_gle, n_ltg, n_leg, n_gg, n_ge0, n_add, n_mul, n_rem, n_shl1, n_and, n_or, n_bit, n_not, n_not', n_B1, n_B0, n_BB, obind, xite_T, xite_F, xite_not, xite_same, oI_s, oI_n, Bool.false_eq_true, reduceCtorEq, eq_self, Classical.not_not, bI_T, bI_Fa, bI_0, bI_n0, bI_x, xb_0, xb_1, xite_bI, xite_bI', not_true_eq_false, not_false_eq_true, Nat.zero_add, Nat.add_zero, Nat.mul_zero, Nat.mul_one, Nat.one_mul, reduceIte, Nat.reduceEqDiff, Nat.reduceAdd, Nat.reduceMul, Nat.reduceSub, Nat.reduceLT, Nat.reduceLeDiff, Nat.reducePow, ite_true, ite_false, if_true, if_false, and_true, true_and, false_and, and_false, or_false, false_or, true_or, or_true, ne_eq, xite_t, xite_f, h.2.2.1]
        exact f1.trans g1
      · obtain ⟨σ2, g1, g2, g3⟩ := ih (r + 1) σ (by omega) h (fun t ht => by
          rw [hv t ht]
          show nI (lds X g t r) = nI (lds X g t r + ldr X g t r)
          unfold ldr
          rw [if_neg (fun h => hf h.1), Nat.add_zero])
        refine ⟨σ2, ?_, g2, g3⟩
        rw [B106_27]
        simp (disch := omega) only [n_cl, n_lt, n_le, n_eq, n_lt0, n_0lt, n_le0, n_eq0, n_gneq, n_ngeq, n_ng0, n_nglt, n_glt, n_gle, n_ltg, n_leg, n_gg, n_ge0, n_add, n_mul, n_rem, n_shl1, n_and, n_or, n_bit, n_not, n_not', n_B1, n_B0, n_BB, obind, xite_T, xite_F, xite_not, xite_same, oI_s, oI_n, Bool.false_eq_true, reduceCtorEq, eq_self, Classical.not_not, bI_T, bI_Fa, bI_0, bI_n0, bI_x, xb_0, xb_1, xite_bI, xite_bI', not_true_eq_false, not_false_eq_true, Nat.zero_add, Nat.add_zero, Nat.mul_zero, Nat.mul_one, Nat.one_mul, reduceIte, Nat.reduceEqDiff, Nat.reduceAdd, Nat.reduceMul, Nat.reduceSub, Nat.reduceLT, Nat.reduceLeDiff, Nat.reducePow, ite_true, ite_false, if_true, if_false, and_true, true_and, false_and, and_false, or_false, false_or, true_or, or_true, ne_eq, xite_t, xite_f, h.2.2.1]
        rw [B106_37]
        simp (disch := omega) only [n_cl, n_lt, n_le, n_eq, n_lt0, n_0lt, n_le0, n_eq0, n_gneq, n_ngeq, n_ng0, n_nglt, n_glt, n_gle, n_ltg, n_leg, n_gg, n_ge0, n_add, n_mul, n_rem, n_shl1, n_and, n_or, n_bit, n_not, n_not', n_B1, n_B0, n_BB, obind, xite_T, xite_F, xite_not, xite_same, oI_s, oI_n, Bool.false_eq_true, reduceCtorEq, eq_self, Classical.not_not, bI_T, bI_Fa, bI_0, bI_n0, bI_x, xb_0, xb_1, xite_bI, xite_bI', not_true_eq_false, not_false_eq_true, Nat.zero_add, Nat.add_zero, Nat.mul_zero, Nat.mul_one, Nat.one_mul, reduceIte, Nat.reduceEqDiff, Nat.reduceAdd, Nat.reduceMul, Nat.reduceSub, Nat.reduceLT, Nat.reduceLeDiff, Nat.reducePow, ite_true, ite_false, if_true, if_false, and_true, true_and, false_and, and_false, or_false, false_or, true_or, or_true, ne_eq, xite_t, xite_f, C100 _ _ h (show r < xaR X by omega) hg, hf]
        exact g1
  have zero : ∀ m s σ, s + m = 2 ^ xaP X → CL σ i X → (∀ t, t < s → rI σ 6 i t = nI 0) → ∃ σ', run (d + 3) (106, 2, [some (.inr (.inr (1, (some i)))), some (.inl (nI (g))), some (.inl (nI (s))), none], [], σ) = run (d + 3) (106, 27, [some (.inr (.inr (1, (some i)))), some (.inl (nI (g))), some (.inl (nI (0))), none], [], σ') ∧ (∀ t, t < 2 ^ xaP X → rI σ' 6 i t = nI 0) ∧ xF (S106 i) σ σ' := by
    intro m
    induction m with
    | zero =>
      intro s σ hs h hv
      have e : s = 2 ^ xaP X := by omega
      subst e
      refine ⟨σ, ?_, hv, xF_refl σ⟩
      rw [B106_2]
      simp (disch := omega) only [n_cl, n_lt, n_le, n_eq, n_lt0, n_0lt, n_le0, n_eq0, n_gneq, n_ngeq, n_ng0, n_nglt, n_glt, n_gle, n_ltg, n_leg, n_gg, n_ge0, n_add, n_mul, n_rem, n_shl1, n_and, n_or, n_bit, n_not, n_not', n_B1, n_B0, n_BB, obind, xite_T, xite_F, xite_not, xite_same, oI_s, oI_n, Bool.false_eq_true, reduceCtorEq, eq_self, Classical.not_not, bI_T, bI_Fa, bI_0, bI_n0, bI_x, xb_0, xb_1, xite_bI, xite_bI', not_true_eq_false, not_false_eq_true, Nat.zero_add, Nat.add_zero, Nat.mul_zero, Nat.mul_one, Nat.one_mul, reduceIte, Nat.reduceEqDiff, Nat.reduceAdd, Nat.reduceMul, Nat.reduceSub, Nat.reduceLT, Nat.reduceLeDiff, Nat.reducePow, ite_true, ite_false, if_true, if_false, and_true, true_and, false_and, and_false, or_false, false_or, true_or, or_true, ne_eq, xite_t, xite_f, h.2.1]
    | succ m ih =>
      intro s σ hs h hv
      have hF : xF (S106 i) σ (wI σ 6 i s (nI 0)) := xF_wI (xF_refl σ) _ ⟨rfl, rfl⟩
      obtain ⟨σ', f1, f2, f3⟩ := ih (s + 1) (wI σ 6 i s (nI 0)) (by omega) (CL_6 h hF) (fun t ht => by
        rw [w_I1]
        show (if t = s then _ else _) = _
        by_cases et : t = s
        · rw [if_pos et]
        · rw [if_neg et]; exact hv t (by omega))
      refine ⟨σ', ?_, f2, xF_trans hF f3⟩
      rw [B106_2]
      simp (disch := omega) only [n_cl, n_lt, n_le, n_eq, n_lt0, n_0lt, n_le0, n_eq0, n_gneq, n_ngeq, n_ng0, n_nglt, n_glt, n_gle, n_ltg, n_leg, n_gg, n_ge0, n_add, n_mul, n_rem, n_shl1, n_and, n_or, n_bit, n_not, n_not', n_B1, n_B0, n_BB, obind, xite_T, xite_F, xite_not, xite_same, oI_s, oI_n, Bool.false_eq_true, reduceCtorEq, eq_self, Classical.not_not, bI_T, bI_Fa, bI_0, bI_n0, bI_x, xb_0, xb_1, xite_bI, xite_bI', not_true_eq_false, not_false_eq_true, Nat.zero_add, Nat.add_zero, Nat.mul_zero, Nat.mul_one, Nat.one_mul, reduceIte, Nat.reduceEqDiff, Nat.reduceAdd, Nat.reduceMul, Nat.reduceSub, Nat.reduceLT, Nat.reduceLeDiff, Nat.reducePow, ite_true, ite_false, if_true, if_false, and_true, true_and, false_and, and_false, or_false, false_or, true_or, or_true, ne_eq, xite_t, xite_f, h.2.1]
      exact f1
  obtain ⟨σ1, f1, f2, f3⟩ := zero (2 ^ xaP X) 0 σ (by omega) h (fun t ht => by omega)
  obtain ⟨σ2, g1, g2, g3⟩ := roads (xaR X) 0 σ1 (by omega) (CL_6 h f3) f2
  refine ⟨σ2, ?_, g2, xF_trans f3 g3⟩
  rw [B106_0]
  exact f1.trans g1
theorem C107 (d : Nat) (σ : xS) {i a b p q : Nat} {more : Int32} {X : mX} {val : Nat → Nat} (h : CL σ i X) (ha : a < 6) (hb : b < 6) (hp : p < 6) (hq : q < 6)
    (hv : ∀ s, s < 2 ^ xaP X → s.testBit a = true → s.testBit b = false → rI σ 6 i s + (if s.testBit p = s.testBit q then nI 0 else more) = nI (val s) ∧ val s < 100) :
    run (d + 2) (xentry 107 [.inr (.inr (1, (some i))), .inl (nI a), .inl (nI b), .inl (nI p), .inl (nI q), .inl more] σ) = some ((oI 4 (c1 (cut val a b (2 ^ xaP X))), 0, none), σ) := by
  have hP6 := h.1.2.1
  have h64 := p2_64 hP6
  have loop : ∀ m s acc, s + m = 2 ^ xaP X → (∀ v t, acc = some (v, t) → v < 100) → run (d + 2) (107, 7, [some (.inr (.inr (1, (some i)))), some (.inl (nI (a))), some (.inl (nI (b))), some (.inl (nI (p))), some (.inl (nI (q))), some (.inl more), some (.inl (oI 4 (c1 acc))), some (.inl (nI (s))), none], [], σ) = some ((oI 4 (c1 (fl (cutS val a b) m s acc)), 0, none), σ) := by
    intro m
    induction m with
    | zero =>
      intro s acc hs _
      have e : s = 2 ^ xaP X := by omega
      subst e
      rw [B107_7]
      simp (disch := omega) only [n_cl, n_lt, n_le, n_eq, n_lt0, n_0lt, n_le0, n_eq0, n_gneq, n_ngeq, n_ng0, n_nglt, n_glt, n_gle, n_ltg, n_leg, n_gg, n_ge0, n_add, n_mul, n_rem, n_shl1, n_and, n_or, n_bit, n_not, n_not', n_B1, n_B0, n_BB, obind, xite_T, xite_F, xite_not, xite_same, oI_s, oI_n, Bool.false_eq_true, reduceCtorEq, eq_self, Classical.not_not, bI_T, bI_Fa, bI_0, bI_n0, bI_x, xb_0, xb_1, xite_bI, xite_bI', not_true_eq_false, not_false_eq_true, Nat.zero_add, Nat.add_zero, Nat.mul_zero, Nat.mul_one, Nat.one_mul, reduceIte, Nat.reduceEqDiff, Nat.reduceAdd, Nat.reduceMul, Nat.reduceSub, Nat.reduceLT, Nat.reduceLeDiff, Nat.reducePow, ite_true, ite_false, if_true, if_false, and_true, true_and, false_and, and_false, or_false, false_or, true_or, or_true, ne_eq, xite_t, xite_f, h.2.1]
      rfl
    | succ m ih =>
      intro s acc hs hacc
      show _ = some ((oI 4 (c1 (fl (cutS val a b) m (s + 1) (cutS val a b s acc))), 0, none), σ)
      rw [B107_7]
      cases h1 : s.testBit a with
      | false =>
        have e : cutS val a b s acc = acc := by unfold cutS; rw [if_neg (by simp [h1])]
        rw [e]
        simp (disch := omega) only [n_cl, n_lt, n_le, n_eq, n_lt0, n_0lt, n_le0, n_eq0, n_gneq, n_ngeq, n_ng0, n_nglt, n_glt, n_gle, n_ltg, n_leg, n_gg, n_ge0, n_add, n_mul, n_rem, n_shl1, n_and, n_or, n_bit, n_not, n_not', n_B1, n_B0, n_BB, obind, xite_T, xite_F, xite_not, xite_same, oI_s, oI_n, Bool.false_eq_true, reduceCtorEq, eq_self, Classical.not_not, bI_T, bI_Fa, bI_0, bI_n0, bI_x, xb_0, xb_1, xite_bI, xite_bI', not_true_eq_false, not_false_eq_true, Nat.zero_add, Nat.add_zero, Nat.mul_zero, Nat.mul_one, Nat.one_mul, reduceIte, Nat.reduceEqDiff, Nat.reduceAdd, Nat.reduceMul, Nat.reduceSub, Nat.reduceLT, Nat.reduceLeDiff, Nat.reducePow, ite_true, ite_false, if_true, if_false, and_true, true_and, false_and, and_false, or_false, false_or, true_or, or_true, ne_eq, xite_t, xite_f, h.2.1, C167, h1]
        exact ih (s + 1) acc (by omega) hacc
      | true =>
        cases h2 : s.testBit b with
        | true =>
          have e : cutS val a b s acc = acc := by unfold cutS; rw [if_neg (by simp [h2])]
          rw [e]
          simp (disch := omega) only [n_cl, n_lt, n_le, n_eq, n_lt0, n_0lt, n_le0, n_eq0, n_gneq, n_ngeq, n_ng0, n_nglt, n_glt, n_gle, n_ltg, n_leg, n_gg, n_ge0, n_add, n_mul, n_rem, n_shl1, n_and, n_or, n_bit, n_not, n_not', n_B1, n_B0, n_BB, obind, xite_T, xite_F, xite_not, xite_same, oI_s, oI_n, Bool.false_eq_true, reduceCtorEq, eq_self, Classical.not_not, bI_T, bI_Fa, bI_0, bI_n0, bI_x, xb_0, xb_1, xite_bI, xite_bI', not_true_eq_false, not_false_eq_true, Nat.zero_add, Nat.add_zero, Nat.mul_zero, Nat.mul_one, Nat.one_mul, reduceIte, Nat.reduceEqDiff, Nat.reduceAdd, Nat.reduceMul, Nat.reduceSub, Nat.reduceLT, Nat.reduceLeDiff, Nat.reducePow, ite_true, ite_false, if_true, if_false, and_true, true_and, false_and, and_false, or_false, false_or, true_or, or_true, ne_eq, xite_t, xite_f, h.2.1, C167, h1, h2]
          exact ih (s + 1) acc (by omega) hacc
        | false =>
          obtain ⟨hv1, hv2⟩ := hv s (by omega) h1 h2
          have key : ∀ x, rI σ 6 i s + x = nI (val s) → run (d + 2) (107, 68, [some (.inr (.inr (1, (some i)))), some (.inl (nI (a))), some (.inl (nI (b))), some (.inl (nI (p))), some (.inl (nI (q))), some (.inl more), some (.inl (oI 4 (c1 acc))), some (.inl (nI (s))), none], [.inl x, .inl (rI σ 6 i s)], σ) = some ((oI 4 (c1 (fl (cutS val a b) m (s + 1) (cutS val a b s acc))), 0, none), σ) := by
            intro x hx
            rw [B107_68, hx]
            cases acc with
            | none =>
              have e : cutS val a b s none = some (val s, s) := by unfold cutS; rw [if_pos ⟨h1, h2⟩]
              rw [e]
              show xite (-nI 4 = -nI 4) _ _ = _
              rw [xite_t rfl, n_add]
              exact ih (s + 1) (some (val s, s)) (by omega) (fun v t ht => by cases ht; exact hv2)
            | some q =>
              obtain ⟨v0, t0⟩ := q
              have hv0 := hacc v0 t0 rfl
              show xite (nI v0 = -nI 4) _ (xite (nI v0 ≤ nI (val s)) _ _) = _
              by_cases hle : v0 ≤ val s
              · have e : cutS val a b s (some (v0, t0)) = some (v0, t0) := by unfold cutS; rw [if_pos ⟨h1, h2⟩]; exact if_pos hle
                rw [e]
                simp (disch := omega) only [n_cl, n_lt, n_le, n_eq, n_lt0, n_0lt, n_le0, n_eq0, n_gneq, n_ngeq, n_ng0, n_nglt, n_glt, n_gle, n_ltg, n_leg, n_gg, n_ge0, n_add, n_mul, n_rem, n_shl1, n_and, n_or, n_bit, n_not, n_not', n_B1, n_B0, n_BB, obind, xite_T, xite_F, xite_not, xite_same, oI_s, oI_n, Bool.false_eq_true, reduceCtorEq, eq_self, Classical.not_not, bI_T, bI_Fa, bI_0, bI_n0, bI_x, xb_0, xb_1, xite_bI, xite_bI', not_true_eq_false, not_false_eq_true, Nat.zero_add, Nat.add_zero, Nat.mul_zero, Nat.mul_one, Nat.one_mul, reduceIte, Nat.reduceEqDiff, Nat.reduceAdd, Nat.reduceMul, Nat.reduceSub, Nat.reduceLT, Nat.reduceLeDiff, Nat.reducePow, ite_true, ite_false, if_true, if_false, and_true, true_and, false_and, and_false, or_false, false_or, true_or, or_true, ne_eq, xite_t, xite_f, ]
                exact ih (s + 1) (some (v0, t0)) (by omega) hacc
              · have e : cutS val a b s (some (v0, t0)) = some (val s, s) := by unfold cutS; rw [if_pos ⟨h1, h2⟩]; exact if_neg hle
                rw [e]
                simp (disch := omega) only [n_cl, n_lt, n_le, n_eq, n_lt0, n_0lt, n_le0, n_eq0, n_gneq, n_ngeq, n_ng0, n_nglt, n_glt, n_gle, n_ltg, n_leg, n_gg, n_ge0, n_add, n_mul, n_rem, n_shl1, n_and, n_or, n_bit, n_not, n_not', n_B1, n_B0, n_BB, obind, xite_T, xite_F, xite_not, xite_same, oI_s, oI_n, Bool.false_eq_true, reduceCtorEq, eq_self, Classical.not_not, bI_T, bI_Fa, bI_0, bI_n0, bI_x, xb_0, xb_1, xite_bI, xite_bI', not_true_eq_false, not_false_eq_true, Nat.zero_add, Nat.add_zero, Nat.mul_zero, Nat.mul_one, Nat.one_mul, reduceIte, Nat.reduceEqDiff, Nat.reduceAdd, Nat.reduceMul, Nat.reduceSub, Nat.reduceLT, Nat.reduceLeDiff, Nat.reducePow, ite_true, ite_false, if_true, if_false, and_true, true_and, false_and, and_false, or_false, false_or, true_or, or_true, ne_eq, xite_t, xite_f, ]
                exact ih (s + 1) (some (val s, s)) (by omega) (fun v t ht => by cases ht; exact hv2)
          simp (disch := omega) only [n_cl, n_lt, n_le, n_eq, n_lt0, n_0lt, n_le0, n_eq0, n_gneq, n_ngeq, n_ng0, n_nglt, n_glt, n_gle, n_ltg, n_leg, n_gg, n_ge0, n_add, n_mul, n_rem, n_shl1, n_and, n_or, n_bit, n_not, n_not', n_B1, n_B0, n_BB, obind, xite_T, xite_F, xite_not, xite_same, oI_s, oI_n, Bool.false_eq_true, reduceCtorEq, eq_self, Classical.not_not, bI_T, bI_Fa, bI_0, bI_n0, bI_x, xb_0, xb_1, xite_bI, xite_bI', not_true_eq_false, not_false_eq_true, Nat.zero_add, Nat.add_zero, Nat.mul_zero, Nat.mul_one, Nat.one_mul, reduceIte, Nat.reduceEqDiff, Nat.reduceAdd, Nat.reduceMul, Nat.reduceSub, Nat.reduceLT, Nat.reduceLeDiff, Nat.reducePow, ite_true, ite_false, if_true, if_false, and_true, true_and, false_and, and_false, or_false, false_or, true_or, or_true, ne_eq, xite_t, xite_f, h.2.1, C167, h1, h2, tb_eq]
          by_cases hc : s.testBit p = s.testBit q
          · rw [xite_t hc]
            rw [if_pos hc] at hv1
            exact key _ hv1
          · rw [xite_f hc]
            rw [if_neg hc] at hv1
            exact key _ hv1
  rw [B107_0]
  exact loop (2 ^ xaP X) 0 none (by omega) (fun v t ht => by cases ht)
theorem C108 (d : Nat) (σ : xS) {i a b : Nat} {X : mX} {val : Nat → Nat} (h : CL σ i X) (ha : a < xaP X) (hb : b < 6) (hab : ¬ a = b) (hv : ∀ s, s < 2 ^ xaP X → rI σ 6 i s = nI (val s) ∧ val s < 100) :
    run (d + 2) (xentry 108 [.inr (.inr (1, (some i))), .inl (nI a), .inl (nI b)] σ) = some ((oI 4 (c2 (cut val a b (2 ^ xaP X))), 0, none), σ) := by
  have hP6 := h.1.2.1
  have h64 := p2_64 hP6
  obtain ⟨v0, t0, hc⟩ := cut_some (val := val) ha hab
  obtain ⟨j1, j2, j3, j4, j5, j6⟩ := (cut_spec (2 ^ xaP X)).1 v0 t0 hc
  have loop : ∀ m best, m ≤ 2 ^ xaP X → best < 2 ^ xaP X → best.testBit a = true → best.testBit b = false → (∀ s, m ≤ s → s < 2 ^ xaP X → s.testBit a = true → s.testBit b = false → val best ≤ val s) → (∀ s, m ≤ s → s < best → s.testBit a = true → s.testBit b = false → val best < val s) → run (d + 2) (108, 14, [some (.inr (.inr (1, (some i)))), some (.inl (nI (a))), some (.inl (nI (b))), some (.inl (nI (best))), some (.inl (nI m - nI 1))], [], σ) = some ((nI t0, 0, none), σ) := by
    intro m
    induction m with
    | zero =>
      intro best hm hb1 hb2 hb3 hb4 hb5
      have e : best = t0 := by
        have a1 := hb4 t0 (by omega) j1 j2 j3
        have a2 := j5 best hb1 hb2 hb3
        by_cases hl : best < t0
        · have := j6 best hl hb2 hb3
          omega
        · by_cases hl2 : t0 < best
          · have := hb5 t0 (by omega) hl2 j2 j3
            omega
          · omega
      rw [B108_14, xite_t (by decide), e]
    | succ m ih =>
      intro best hm hb1 hb2 hb3 hb4 hb5
      have em : nI (m + 1) - nI 1 = nI m := by rw [n_sub (by omega)]; rfl
      have em2 : nI m + -nI 1 = nI m - nI 1 := (Int32.sub_eq_add_neg _ _).symm
      rw [B108_14, em, em2]
      have pass : (m.testBit a = true → m.testBit b = false → val best < val m) → run (d + 2) (108, 14, [some (.inr (.inr (1, (some i)))), some (.inl (nI (a))), some (.inl (nI (b))), some (.inl (nI (best))), some (.inl (nI m - nI 1))], [], σ) = some ((nI t0, 0, none), σ) := by
        intro hp
        refine ih best (by omega) hb1 hb2 hb3 (fun s hs hs2 h1 h2 => ?_) (fun s hs hs2 h1 h2 => ?_)
        · by_cases e : s = m
          · subst e; exact Nat.le_of_lt (hp h1 h2)
          · exact hb4 s (by omega) hs2 h1 h2
        · by_cases e : s = m
          · subst e; exact hp h1 h2
          · exact hb5 s (by omega) hs2 h1 h2
      have v1 := hv m (by omega)
      have v2 := hv best hb1
      cases h1 : m.testBit a with
      | false =>
        simp (disch := omega) only [n_cl, n_lt, n_le, n_eq, n_lt0, n_0lt, n_le0, n_eq0, n_gneq, n_ngeq, n_ng0, n_nglt, n_glt, n_gle, n_ltg, n_leg, n_gg, n_ge0, n_add, n_mul, n_rem, n_shl1, n_and, n_or, n_bit, n_not, n_not', n_B1, n_B0, n_BB, obind, xite_T, xite_F, xite_not, xite_same, oI_s, oI_n, Bool.false_eq_true, reduceCtorEq, eq_self, Classical.not_not, bI_T, bI_Fa, bI_0, bI_n0, bI_x, xb_0, xb_1, xite_bI, xite_bI', not_true_eq_false, not_false_eq_true, Nat.zero_add, Nat.add_zero, Nat.mul_zero, Nat.mul_one, Nat.one_mul, reduceIte, Nat.reduceEqDiff, Nat.reduceAdd, Nat.reduceMul, Nat.reduceSub, Nat.reduceLT, Nat.reduceLeDiff, Nat.reducePow, ite_true, ite_false, if_true, if_false, and_true, true_and, false_and, and_false, or_false, false_or, true_or, or_true, ne_eq, xite_t, xite_f, C167, h1]
        exact pass (fun h => by rw [h1] at h; cases h)
      | true =>
        cases h2 : m.testBit b with
        | true =>
          simp (disch := omega) only [n_cl, n_lt, n_le, n_eq, n_lt0, n_0lt, n_le0, n_eq0, n_gneq, n_ngeq, n_ng0, n_nglt, n_glt, n_gle, n_ltg, n_leg, n_gg, n_ge0, n_add, n_mul, n_rem, n_shl1, n_and, n_or, n_bit, n_not, n_not', n_B1, n_B0, n_BB, obind, xite_T, xite_F, xite_not, xite_same, oI_s, oI_n, Bool.false_eq_true, reduceCtorEq, eq_self, Classical.not_not, bI_T, bI_Fa, bI_0, bI_n0, bI_x, xb_0, xb_1, xite_bI, xite_bI', not_true_eq_false, not_false_eq_true, Nat.zero_add, Nat.add_zero, Nat.mul_zero, Nat.mul_one, Nat.one_mul, reduceIte, Nat.reduceEqDiff, Nat.reduceAdd, Nat.reduceMul, Nat.reduceSub, Nat.reduceLT, Nat.reduceLeDiff, Nat.reducePow, ite_true, ite_false, if_true, if_false, and_true, true_and, false_and, and_false, or_false, false_or, true_or, or_true, ne_eq, xite_t, xite_f, C167, h1, h2]
          exact pass (fun _ h => by rw [h2] at h; cases h)
        | false =>
          by_cases hlt : val best < val m
          · simp (disch := omega) only [n_cl, n_lt, n_le, n_eq, n_lt0, n_0lt, n_le0, n_eq0, n_gneq, n_ngeq, n_ng0, n_nglt, n_glt, n_gle, n_ltg, n_leg, n_gg, n_ge0, n_add, n_mul, n_rem, n_shl1, n_and, n_or, n_bit, n_not, n_not', n_B1, n_B0, n_BB, obind, xite_T, xite_F, xite_not, xite_same, oI_s, oI_n, Bool.false_eq_true, reduceCtorEq, eq_self, Classical.not_not, bI_T, bI_Fa, bI_0, bI_n0, bI_x, xb_0, xb_1, xite_bI, xite_bI', not_true_eq_false, not_false_eq_true, Nat.zero_add, Nat.add_zero, Nat.mul_zero, Nat.mul_one, Nat.one_mul, reduceIte, Nat.reduceEqDiff, Nat.reduceAdd, Nat.reduceMul, Nat.reduceSub, Nat.reduceLT, Nat.reduceLeDiff, Nat.reducePow, ite_true, ite_false, if_true, if_false, and_true, true_and, false_and, and_false, or_false, false_or, true_or, or_true, ne_eq, xite_t, xite_f, C167, h1, h2, v1.1, v2.1]
            exact pass (fun _ _ => hlt)
          · simp (disch := omega) only [n_cl, n_lt, n_le, n_eq, n_lt0, n_0lt, n_le0, n_eq0, n_gneq, n_ngeq, n_ng0, n_nglt, n_glt, n_gle, n_ltg, n_leg, n_gg, n_ge0, n_add, n_mul, n_rem, n_shl1, n_and, n_or, n_bit, n_not, n_not', n_B1, n_B0, n_BB, obind, xite_T, xite_F, xite_not, xite_same, oI_s, oI_n, Bool.false_eq_true, reduceCtorEq, eq_self, Classical.not_not, bI_T, bI_Fa, bI_0, bI_n0, bI_x, xb_0, xb_1, xite_bI, xite_bI', not_true_eq_false, not_false_eq_true, Nat.zero_add, Nat.add_zero, Nat.mul_zero, Nat.mul_one, Nat.one_mul, reduceIte, Nat.reduceEqDiff, Nat.reduceAdd, Nat.reduceMul, Nat.reduceSub, Nat.reduceLT, Nat.reduceLeDiff, Nat.reducePow, ite_true, ite_false, if_true, if_false, and_true, true_and, false_and, and_false, or_false, false_or, true_or, or_true, ne_eq, xite_t, xite_f, C167, h1, h2, v1.1, v2.1]
            refine ih m (by omega) (by omega) h1 h2 (fun s hs hs2 h1 h2 => ?_) (fun s hs hs2 h1 h2 => by omega)
            by_cases e : s = m
            · rw [e]; exact Nat.le_refl _
            · have := hb4 s (by omega) hs2 h1 h2
              omega
  have h2a : 2 ^ a < 2 ^ xaP X := Nat.pow_lt_pow_right (by omega) ha
  rw [B108_0, hc]
  simp (disch := omega) only [n_cl, n_lt, n_le, n_eq, n_lt0, n_0lt, n_le0, n_eq0, n_gneq, n_ngeq, n_ng0, n_nglt, n_glt, n_gle, n_ltg, n_leg, n_gg, n_ge0, n_add, n_mul, n_rem, n_shl1, n_and, n_or, n_bit, n_not, n_not', n_B1, n_B0, n_BB, obind, xite_T, xite_F, xite_not, xite_same, oI_s, oI_n, Bool.false_eq_true, reduceCtorEq, eq_self, Classical.not_not, bI_T, bI_Fa, bI_0, bI_n0, bI_x, xb_0, xb_1, xite_bI, xite_bI', not_true_eq_false, not_false_eq_true, Nat.zero_add, Nat.add_zero, Nat.mul_zero, Nat.mul_one, Nat.one_mul, reduceIte, Nat.reduceEqDiff, Nat.reduceAdd, Nat.reduceMul, Nat.reduceSub, Nat.reduceLT, Nat.reduceLeDiff, Nat.reducePow, ite_true, ite_false, if_true, if_false, and_true, true_and, false_and, and_false, or_false, false_or, true_or, or_true, ne_eq, xite_t, xite_f, h.2.1]
  have := loop (2 ^ xaP X) (2 ^ a) (Nat.le_refl _) h2a Nat.testBit_two_pow_self (by rw [Nat.testBit_two_pow]; simp [hab]) (fun s h1 h2 => by omega) (fun s h1 h2 => by omega)
  exact this
def errand (X : mX) (g a b : Int32) : Prop := inb g 4 ∧ inb a (xaP X) ∧ inb b (xaP X) ∧ ¬ a = b
theorem errand_of {X : mX} {g a b : Int32} (hX : WX (xaR X) X) (h : errand X g a b) : ∃ g' a' b', g = nI g' ∧ a = nI a' ∧ b = nI b' ∧ g' < 4 ∧ a' < xaP X ∧ b' < xaP X ∧ ¬ a' = b' := by
  have h1 := hX.2.1
  obtain ⟨g', hg, e2⟩ := inb_of h.1 (by omega)
  obtain ⟨a', ha, e3⟩ := inb_of h.2.1 (by omega)
  obtain ⟨b', hb, e4⟩ := inb_of h.2.2.1 (by omega)
  exact ⟨g', a', b', e2, e3, e4, hg, ha, hb, fun e => h.2.2.2 (by rw [e3, e4, e])⟩
theorem M41 (d : Nat) (σ : xS) (g a b : Int32) {n : Nat} {X : mX} (h : ML (rI σ 18 0) n X) : run (d + 4) (xentry 41 [.inr (.inr (17, (some 0))), .inl g, .inl a, .inl b] σ) = some ((bI (errand X g a b), 0, none), σ) := by
  rw [B41_0, M6]
  simp (disch := omega) only [n_cl, n_lt, n_le, n_eq, n_lt0, n_0lt, n_le0, n_eq0, n_gneq, n_ngeq, n_ng0, n_nglt, n_glt, n_gle, n_ltg, n_leg, n_gg, n_ge0, n_add, n_mul, n_rem, n_shl1, n_and, n_or, n_bit, n_not, n_not', n_B1, n_B0, n_BB, obind, xite_T, xite_F, xite_not, xite_same, oI_s, oI_n, Bool.false_eq_true, reduceCtorEq, eq_self, Classical.not_not, bI_T, bI_Fa, bI_0, bI_n0, bI_x, xb_0, xb_1, xite_bI, xite_bI', not_true_eq_false, not_false_eq_true, Nat.zero_add, Nat.add_zero, Nat.mul_zero, Nat.mul_one, Nat.one_mul, reduceIte, Nat.reduceEqDiff, Nat.reduceAdd, Nat.reduceMul, Nat.reduceSub, Nat.reduceLT, Nat.reduceLeDiff, Nat.reducePow, ite_true, ite_false, if_true, if_false, and_true, true_and, false_and, and_false, or_false, false_or, true_or, or_true, ne_eq, ]
  by_cases h2 : inb g 4
  · rw [xite_t h2, M7 _ _ _ _ h]
    simp (disch := omega) only [n_cl, n_lt, n_le, n_eq, n_lt0, n_0lt, n_le0, n_eq0, n_gneq, n_ngeq, n_ng0, n_nglt, n_glt, n_gle, n_ltg, n_leg, n_gg, n_ge0, n_add, n_mul, n_rem, n_shl1, n_and, n_or, n_bit, n_not, n_not', n_B1, n_B0, n_BB, obind, xite_T, xite_F, xite_not, xite_same, oI_s, oI_n, Bool.false_eq_true, reduceCtorEq, eq_self, Classical.not_not, bI_T, bI_Fa, bI_0, bI_n0, bI_x, xb_0, xb_1, xite_bI, xite_bI', not_true_eq_false, not_false_eq_true, Nat.zero_add, Nat.add_zero, Nat.mul_zero, Nat.mul_one, Nat.one_mul, reduceIte, Nat.reduceEqDiff, Nat.reduceAdd, Nat.reduceMul, Nat.reduceSub, Nat.reduceLT, Nat.reduceLeDiff, Nat.reducePow, ite_true, ite_false, if_true, if_false, and_true, true_and, false_and, and_false, or_false, false_or, true_or, or_true, ne_eq, ]
    congr 3
    unfold errand
    simp (disch := omega) only [n_cl, n_lt, n_le, n_eq, n_lt0, n_0lt, n_le0, n_eq0, n_gneq, n_ngeq, n_ng0, n_nglt, n_glt, n_gle, n_ltg, n_leg, n_gg, n_ge0, n_add, n_mul, n_rem, n_shl1, n_and, n_or, n_bit, n_not, n_not', n_B1, n_B0, n_BB, obind, xite_T, xite_F, xite_not, xite_same, oI_s, oI_n, Bool.false_eq_true, reduceCtorEq, eq_self, Classical.not_not, bI_T, bI_Fa, bI_0, bI_n0, bI_x, xb_0, xb_1, xite_bI, xite_bI', not_true_eq_false, not_false_eq_true, Nat.zero_add, Nat.add_zero, Nat.mul_zero, Nat.mul_one, Nat.one_mul, reduceIte, Nat.reduceEqDiff, Nat.reduceAdd, Nat.reduceMul, Nat.reduceSub, Nat.reduceLT, Nat.reduceLeDiff, Nat.reducePow, ite_true, ite_false, if_true, if_false, and_true, true_and, false_and, and_false, or_false, false_or, true_or, or_true, ne_eq, h2]
  · rw [xite_f h2, bI_f (fun h => h2 h.1)]
theorem C169 (d : Nat) (σ : xS) (g a b : Int32) {X : mX} (h : CL σ 0 X) : run (d + 4) (xentry 169 [.inr (.inr (0, (some 0))), .inl g, .inl a, .inl b] σ) = some ((bI (errand X g a b), 0, none), σ) := by
  rw [B169_0, C166 _ _ _ (by omega)]
  simp (disch := omega) only [n_cl, n_lt, n_le, n_eq, n_lt0, n_0lt, n_le0, n_eq0, n_gneq, n_ngeq, n_ng0, n_nglt, n_glt, n_gle, n_ltg, n_leg, n_gg, n_ge0, n_add, n_mul, n_rem, n_shl1, n_and, n_or, n_bit, n_not, n_not', n_B1, n_B0, n_BB, obind, xite_T, xite_F, xite_not, xite_same, oI_s, oI_n, Bool.false_eq_true, reduceCtorEq, eq_self, Classical.not_not, bI_T, bI_Fa, bI_0, bI_n0, bI_x, xb_0, xb_1, xite_bI, xite_bI', not_true_eq_false, not_false_eq_true, Nat.zero_add, Nat.add_zero, Nat.mul_zero, Nat.mul_one, Nat.one_mul, reduceIte, Nat.reduceEqDiff, Nat.reduceAdd, Nat.reduceMul, Nat.reduceSub, Nat.reduceLT, Nat.reduceLeDiff, Nat.reducePow, ite_true, ite_false, if_true, if_false, and_true, true_and, false_and, and_false, or_false, false_or, true_or, or_true, ne_eq, ]
  by_cases h2 : inb g 4
  · rw [xite_t h2, C93 _ _ _ _ h]
    simp (disch := omega) only [n_cl, n_lt, n_le, n_eq, n_lt0, n_0lt, n_le0, n_eq0, n_gneq, n_ngeq, n_ng0, n_nglt, n_glt, n_gle, n_ltg, n_leg, n_gg, n_ge0, n_add, n_mul, n_rem, n_shl1, n_and, n_or, n_bit, n_not, n_not', n_B1, n_B0, n_BB, obind, xite_T, xite_F, xite_not, xite_same, oI_s, oI_n, Bool.false_eq_true, reduceCtorEq, eq_self, Classical.not_not, bI_T, bI_Fa, bI_0, bI_n0, bI_x, xb_0, xb_1, xite_bI, xite_bI', not_true_eq_false, not_false_eq_true, Nat.zero_add, Nat.add_zero, Nat.mul_zero, Nat.mul_one, Nat.one_mul, reduceIte, Nat.reduceEqDiff, Nat.reduceAdd, Nat.reduceMul, Nat.reduceSub, Nat.reduceLT, Nat.reduceLeDiff, Nat.reducePow, ite_true, ite_false, if_true, if_false, and_true, true_and, false_and, and_false, or_false, false_or, true_or, or_true, ne_eq, ]
    congr 3
    unfold errand
    simp (disch := omega) only [n_cl, n_lt, n_le, n_eq, n_lt0, n_0lt, n_le0, n_eq0, n_gneq, n_ngeq, n_ng0, n_nglt, n_glt, n_gle, n_ltg, n_leg, n_gg, n_ge0, n_add, n_mul, n_rem, n_shl1, n_and, n_or, n_bit, n_not, n_not', n_B1, n_B0, n_BB, obind, xite_T, xite_F, xite_not, xite_same, oI_s, oI_n, Bool.false_eq_true, reduceCtorEq, eq_self, Classical.not_not, bI_T, bI_Fa, bI_0, bI_n0, bI_x, xb_0, xb_1, xite_bI, xite_bI', not_true_eq_false, not_false_eq_true, Nat.zero_add, Nat.add_zero, Nat.mul_zero, Nat.mul_one, Nat.one_mul, reduceIte, Nat.reduceEqDiff, Nat.reduceAdd, Nat.reduceMul, Nat.reduceSub, Nat.reduceLT, Nat.reduceLeDiff, Nat.reducePow, ite_true, ite_false, if_true, if_false, and_true, true_and, false_and, and_false, or_false, false_or, true_or, or_true, ne_eq, h2]
  · rw [xite_f h2, bI_f (fun h => h2 h.1)]
theorem S106_S (r j k : Nat) (h : S106 0 r j k) : Scr r j k := by unfold S106 at h; unfold Scr; omega
theorem MI_44 {σ σ' : xS} {S : mG} (h : MI σ S) (k : xF (fun r _ k => r = 17 ∧ ¬ k = 10 ∨ r = 33 ∨ r = 34) σ σ') : MI σ' S ∧ kM σ σ' := by
  refine ⟨?_, xF_le k (fun r j k s => by unfold Smd; omega)⟩
  obtain ⟨a, b, c, e⟩ := h
  unfold MI mShl
  rw [xF_I k (r := 18) (i := 0) (fun k => by omega), k.1 17 0 10 (by omega), xF_I k (r := 19) (i := 0) (fun k => by omega), xF_I k (r := 22) (i := 0) (fun k => by omega), xF_I k (r := 23) (i := 0) (fun k => by omega), xF_I k (r := 24) (i := 0) (fun k => by omega), xF_I k (r := 25) (i := 0) (fun k => by omega), xF_I k (r := 26) (i := 0) (fun k => by omega), xF_I k (r := 27) (i := 0) (fun k => by omega)]
  exact ⟨a, b, c, e⟩
theorem duo_many (d : Nat) (S : mG) (hX : WX (xaR S.1) S.1) (g a b w : Int32) : Duo (d + 60) (fun σ => xentry 147 [.inr (.inr (0, (some 0))), .inl g, .inl a, .inl b, .inl w] σ) (fun σ => xentry 45 [.inr (.inr (17, (some 0))), .inl g, .inl a, .inl b, .inl w] σ) S := by
  by_cases h1 : errand S.1 g a b
  · by_cases h2 : inb w 2
    · obtain ⟨g', a', b', e1, e2, e3, hg, ha, hb, hab⟩ := errand_of hX h1
      subst e1 e2 e3
      have hP6 := hX.2.1
      have hR9 := hX.2.2.1
      refine ⟨xite (w = nI 0) (oI 4 (c1 (cut (fun s => lds S.1 g' s (xaR S.1)) a' b' (2 ^ xaP S.1)))) (oI 4 (c2 (cut (fun s => lds S.1 g' s (xaR S.1)) a' b' (2 ^ xaP S.1)))), S, fun σ h => ?_, fun σ h => ?_⟩
      · obtain ⟨σ1, f1, f2, f3⟩ := C106 (d + 56) σ h.1 hg
        have hC := CL_6 h.1 f3
        refine ⟨σ1, ?_, CI_Scr h (xF_le f3 S106_S), kC_F f3 (fun r j k s => Scr_16 _ _ _ (S106_S _ _ _ s))⟩
        have k1 := C107 (d + 57) σ1 (p := a') (q := a') (more := nI 0) (val := fun s => lds S.1 g' s (xaR S.1)) hC (show a' < 6 by omega) (show b' < 6 by omega) (by omega) (by omega) (fun s hs _ _ => by
          have := @lds_le S.1 g' s (xaR S.1)
          rw [if_pos rfl, f2 s hs, n_add, Nat.add_zero]
          exact ⟨rfl, by omega⟩)
        have k2 := C108 (d + 57) σ1 (val := fun s => lds S.1 g' s (xaR S.1)) hC ha (show b' < 6 by omega) hab (fun s hs => by
          have := @lds_le S.1 g' s (xaR S.1)
          exact ⟨f2 s hs, by omega⟩)
        show run (d + 60) (xentry 147 _ σ) = _
        rw [B147_0, C169 _ _ _ _ _ h.1]
        rcases inb2 h2 with e | e <;> subst e <;> simp (disch := omega) only [n_cl, n_lt, n_le, n_eq, n_lt0, n_0lt, n_le0, n_eq0, n_gneq, n_ngeq, n_ng0, n_nglt, n_glt, n_gle, n_ltg, n_leg, n_gg, n_ge0, n_add, n_mul, n_rem, n_shl1, n_and, n_or, n_bit, n_not, n_not', n_B1, n_B0, n_BB, obind, xite_T, xite_F, xite_not, xite_same, oI_s, oI_n, Bool.false_eq_true, reduceCtorEq, eq_self, Classical.not_not, bI_T, bI_Fa, bI_0, bI_n0, bI_x, xb_0, xb_1, xite_bI, xite_bI', not_true_eq_false, not_false_eq_true, Nat.zero_add, Nat.add_zero, Nat.mul_zero, Nat.mul_one, Nat.one_mul, reduceIte, Nat.reduceEqDiff, Nat.reduceAdd, Nat.reduceMul, Nat.reduceSub, Nat.reduceLT, Nat.reduceLeDiff, Nat.reducePow, ite_true, ite_false, if_true, if_false, and_true, true_and, false_and, and_false, or_false, false_or, true_or, or_true, ne_eq, xite_t, xite_f, h1, h2, C166, f1, k1, k2]
      · obtain ⟨σ1, f1, f2, f3⟩ := M44 (d + 55) σ (n := xaR S.1) (g := g') (a := a') (b := b') h.1 (Nat.le_refl _) hg (by omega) (by omega)
        obtain ⟨m1, m2⟩ := MI_44 h (xF_le f3 (fun r j k s => by unfold S44 at s; omega))
        refine ⟨σ1, ?_, m1, m2⟩
        show run (d + 60) (xentry 45 _ σ) = _
        rw [B45_0, M41 _ _ _ _ _ h.1]
        rcases inb2 h2 with e | e <;> subst e <;> simp (disch := omega) only [n_cl, n_lt, n_le, n_eq, n_lt0, n_0lt, n_le0, n_eq0, n_gneq, n_ngeq, n_ng0, n_nglt, n_glt, n_gle, n_ltg, n_leg, n_gg, n_ge0, n_add, n_mul, n_rem, n_shl1, n_and, n_or, n_bit, n_not, n_not', n_B1, n_B0, n_BB, obind, xite_T, xite_F, xite_not, xite_same, oI_s, oI_n, Bool.false_eq_true, reduceCtorEq, eq_self, Classical.not_not, bI_T, bI_Fa, bI_0, bI_n0, bI_x, xb_0, xb_1, xite_bI, xite_bI', not_true_eq_false, not_false_eq_true, Nat.zero_add, Nat.add_zero, Nat.mul_zero, Nat.mul_one, Nat.one_mul, reduceIte, Nat.reduceEqDiff, Nat.reduceAdd, Nat.reduceMul, Nat.reduceSub, Nat.reduceLT, Nat.reduceLeDiff, Nat.reducePow, ite_true, ite_false, if_true, if_false, and_true, true_and, false_and, and_false, or_false, false_or, true_or, or_true, ne_eq, xite_t, xite_f, h1, h2, M1c, h.1.2.2.1, f1, f2]
    · refine duo_bad (-nI 1) (fun σ h => ?_) (fun σ h => ?_)
      · rw [B147_0, C169 _ _ _ _ _ h.1]
        simp (disch := omega) only [n_cl, n_lt, n_le, n_eq, n_lt0, n_0lt, n_le0, n_eq0, n_gneq, n_ngeq, n_ng0, n_nglt, n_glt, n_gle, n_ltg, n_leg, n_gg, n_ge0, n_add, n_mul, n_rem, n_shl1, n_and, n_or, n_bit, n_not, n_not', n_B1, n_B0, n_BB, obind, xite_T, xite_F, xite_not, xite_same, oI_s, oI_n, Bool.false_eq_true, reduceCtorEq, eq_self, Classical.not_not, bI_T, bI_Fa, bI_0, bI_n0, bI_x, xb_0, xb_1, xite_bI, xite_bI', not_true_eq_false, not_false_eq_true, Nat.zero_add, Nat.add_zero, Nat.mul_zero, Nat.mul_one, Nat.one_mul, reduceIte, Nat.reduceEqDiff, Nat.reduceAdd, Nat.reduceMul, Nat.reduceSub, Nat.reduceLT, Nat.reduceLeDiff, Nat.reducePow, ite_true, ite_false, if_true, if_false, and_true, true_and, false_and, and_false, or_false, false_or, true_or, or_true, ne_eq, h1, h2, C166]
      · rw [B45_0, M41 _ _ _ _ _ h.1]
        simp (disch := omega) only [n_cl, n_lt, n_le, n_eq, n_lt0, n_0lt, n_le0, n_eq0, n_gneq, n_ngeq, n_ng0, n_nglt, n_glt, n_gle, n_ltg, n_leg, n_gg, n_ge0, n_add, n_mul, n_rem, n_shl1, n_and, n_or, n_bit, n_not, n_not', n_B1, n_B0, n_BB, obind, xite_T, xite_F, xite_not, xite_same, oI_s, oI_n, Bool.false_eq_true, reduceCtorEq, eq_self, Classical.not_not, bI_T, bI_Fa, bI_0, bI_n0, bI_x, xb_0, xb_1, xite_bI, xite_bI', not_true_eq_false, not_false_eq_true, Nat.zero_add, Nat.add_zero, Nat.mul_zero, Nat.mul_one, Nat.one_mul, reduceIte, Nat.reduceEqDiff, Nat.reduceAdd, Nat.reduceMul, Nat.reduceSub, Nat.reduceLT, Nat.reduceLeDiff, Nat.reducePow, ite_true, ite_false, if_true, if_false, and_true, true_and, false_and, and_false, or_false, false_or, true_or, or_true, ne_eq, h1, h2, M1c]
  · refine duo_bad (-nI 1) (fun σ h => ?_) (fun σ h => ?_)
    · rw [B147_0, C169 _ _ _ _ _ h.1]
      simp (disch := omega) only [n_cl, n_lt, n_le, n_eq, n_lt0, n_0lt, n_le0, n_eq0, n_gneq, n_ngeq, n_ng0, n_nglt, n_glt, n_gle, n_ltg, n_leg, n_gg, n_ge0, n_add, n_mul, n_rem, n_shl1, n_and, n_or, n_bit, n_not, n_not', n_B1, n_B0, n_BB, obind, xite_T, xite_F, xite_not, xite_same, oI_s, oI_n, Bool.false_eq_true, reduceCtorEq, eq_self, Classical.not_not, bI_T, bI_Fa, bI_0, bI_n0, bI_x, xb_0, xb_1, xite_bI, xite_bI', not_true_eq_false, not_false_eq_true, Nat.zero_add, Nat.add_zero, Nat.mul_zero, Nat.mul_one, Nat.one_mul, reduceIte, Nat.reduceEqDiff, Nat.reduceAdd, Nat.reduceMul, Nat.reduceSub, Nat.reduceLT, Nat.reduceLeDiff, Nat.reducePow, ite_true, ite_false, if_true, if_false, and_true, true_and, false_and, and_false, or_false, false_or, true_or, or_true, ne_eq, h1]
    · rw [B45_0, M41 _ _ _ _ _ h.1]
      simp (disch := omega) only [n_cl, n_lt, n_le, n_eq, n_lt0, n_0lt, n_le0, n_eq0, n_gneq, n_ngeq, n_ng0, n_nglt, n_glt, n_gle, n_ltg, n_leg, n_gg, n_ge0, n_add, n_mul, n_rem, n_shl1, n_and, n_or, n_bit, n_not, n_not', n_B1, n_B0, n_BB, obind, xite_T, xite_F, xite_not, xite_same, oI_s, oI_n, Bool.false_eq_true, reduceCtorEq, eq_self, Classical.not_not, bI_T, bI_Fa, bI_0, bI_n0, bI_x, xb_0, xb_1, xite_bI, xite_bI', not_true_eq_false, not_false_eq_true, Nat.zero_add, Nat.add_zero, Nat.mul_zero, Nat.mul_one, Nat.one_mul, reduceIte, Nat.reduceEqDiff, Nat.reduceAdd, Nat.reduceMul, Nat.reduceSub, Nat.reduceLT, Nat.reduceLeDiff, Nat.reducePow, ite_true, ite_false, if_true, if_false, and_true, true_and, false_and, and_false, or_false, false_or, true_or, or_true, ne_eq, h1]
