/-! SERVED, SPITE, NEWLY -/
/-- all villages of a set can be served -/
def csv (X : mX) (g a v : Nat) : Prop := ∀ s, s < 2 ^ xaP X → s.testBit a = true → popf 6 (nM v s) ≤ lds X g s (xaR X)
theorem nM_lt {a b n : Nat} (h : a < 2 ^ n) : nM a b < 2 ^ n := Nat.xor_lt_two_pow h (Nat.lt_of_le_of_lt Nat.and_le_left h)
theorem M46 (d : Nat) (σ : xS) {g a v : Nat} {X : mX} (h : ML (rI σ 18 0) (xaR X) X) (hg : g < 4) (ha : a < 6) (hv : v < 64) : run (d + 4) (xentry 46 [.inr (.inr (17, (some 0))), .inl (nI g), .inl (nI a), .inl (nI v)] σ) = some ((bI (csv X g a v), 0, none), σ) := by
  have hP6 := h.1.2.1
  have hR9 := h.1.2.2.1
  have hp0 := h.2.1
  have hr0 := h.2.2.1
  have h64 := p2_64 hP6
  have loop : ∀ m s, s + m = 2 ^ xaP X → run (d + 4) (46, 3, [some (.inr (.inr (17, (some 0)))), some (.inl (nI (g))), some (.inl (nI (a))), some (.inl (nI (v))), some (.inl (nI (s)))], [], σ) = some ((bI (∀ t, s ≤ t → t < 2 ^ xaP X → t.testBit a = true → popf 6 (nM v t) ≤ lds X g t (xaR X)), 0, none), σ) := by
    intro m
    induction m with
    | zero =>
      intro s hs
      rw [B46_3, bI_t (fun t h1 h2 => by omega)]
      simp (disch := omega) only [n_cl, n_lt, n_le, n_eq, n_lt0, n_0lt, n_le0, n_eq0, n_gneq, n_ngeq, n_ng0, n_nglt, n_glt, n_gle, n_ltg, n_leg, n_gg, n_ge0, n_add, n_mul, n_rem, n_shl1, n_and, n_or, n_bit, n_not, n_not', n_B1, n_B0, n_BB, obind, xite_T, xite_F, xite_not, xite_same, oI_s, oI_n, Bool.false_eq_true, reduceCtorEq, eq_self, Classical.not_not, bI_T, bI_Fa, bI_0, bI_n0, bI_x, xb_0, xb_1, xite_bI, xite_bI', not_true_eq_false, not_false_eq_true, Nat.zero_add, Nat.add_zero, Nat.mul_zero, Nat.mul_one, Nat.one_mul, reduceIte, Nat.reduceEqDiff, Nat.reduceAdd, Nat.reduceMul, Nat.reduceSub, Nat.reduceLT, Nat.reduceLeDiff, Nat.reducePow, ite_true, ite_false, if_true, if_false, and_true, true_and, false_and, and_false, or_false, false_or, true_or, or_true, ne_eq, xite_t, xite_f, hp0]
    | succ m ih =>
      intro s hs
      have e := ih (s + 1) (by omega)
      have hl := @lds_le X g s (xaR X)
      have hm : nM v s < 64 := nM_lt (n := 6) hv
      have hp := popf_le _ hm
      rw [B46_3]
      cases h1 : s.testBit a with
      | false =>
        simp (disch := omega) only [n_cl, n_lt, n_le, n_eq, n_lt0, n_0lt, n_le0, n_eq0, n_gneq, n_ngeq, n_ng0, n_nglt, n_glt, n_gle, n_ltg, n_leg, n_gg, n_ge0, n_add, n_mul, n_rem, n_shl1, n_and, n_or, n_bit, n_not, n_not', n_B1, n_B0, n_BB, obind, xite_T, xite_F, xite_not, xite_same, oI_s, oI_n, Bool.false_eq_true, reduceCtorEq, eq_self, Classical.not_not, bI_T, bI_Fa, bI_0, bI_n0, bI_x, xb_0, xb_1, xite_bI, xite_bI', not_true_eq_false, not_false_eq_true, Nat.zero_add, Nat.add_zero, Nat.mul_zero, Nat.mul_one, Nat.one_mul, reduceIte, Nat.reduceEqDiff, Nat.reduceAdd, Nat.reduceMul, Nat.reduceSub, Nat.reduceLT, Nat.reduceLeDiff, Nat.reducePow, ite_true, ite_false, if_true, if_false, and_true, true_and, false_and, and_false, or_false, false_or, true_or, or_true, ne_eq, xite_t, xite_f, hp0, h1]
        rw [e]
        congr 4
        exact propext ⟨fun k t h1' h2 h3 => by
          by_cases et : t = s
          · subst et; rw [h1] at h3; cases h3
          · exact k t (by omega) h2 h3, fun k t h1 h2 h3 => k t (by omega) h2 h3⟩
      | true =>
        simp (disch := omega) only [n_cl, n_lt, n_le, n_eq, n_lt0, n_0lt, n_le0, n_eq0, n_gneq, n_ngeq, n_ng0, n_nglt, n_glt, n_gle, n_ltg, n_leg, n_gg, n_ge0, n_add, n_mul, n_rem, n_shl1, n_and, n_or, n_bit, n_not, n_not', n_B1, n_B0, n_BB, obind, xite_T, xite_F, xite_not, xite_same, oI_s, oI_n, Bool.false_eq_true, reduceCtorEq, eq_self, Classical.not_not, bI_T, bI_Fa, bI_0, bI_n0, bI_x, xb_0, xb_1, xite_bI, xite_bI', not_true_eq_false, not_false_eq_true, Nat.zero_add, Nat.add_zero, Nat.mul_zero, Nat.mul_one, Nat.one_mul, reduceIte, Nat.reduceEqDiff, Nat.reduceAdd, Nat.reduceMul, Nat.reduceSub, Nat.reduceLT, Nat.reduceLeDiff, Nat.reducePow, ite_true, ite_false, if_true, if_false, and_true, true_and, false_and, and_false, or_false, false_or, true_or, or_true, ne_eq, xite_t, xite_f, hp0, hr0, h1, M43 _ _ h (Nat.le_refl _) hg (show s < 64 by omega), M15]
        by_cases hle : popf 6 (nM v s) ≤ lds X g s (xaR X)
        · rw [xite_t hle, e]
          congr 4
          exact propext ⟨fun k t h1' h2 h3 => by
            by_cases et : t = s
            · subst et; exact hle
            · exact k t (by omega) h2 h3, fun k t h1 h2 h3 => k t (by omega) h2 h3⟩
        · rw [xite_f hle, bI_f (fun k => hle (k s (Nat.le_refl _) (by omega) h1))]
  rw [B46_0, loop (2 ^ xaP X) 0 (by omega)]
  congr 4
  exact propext ⟨fun k t h2 h3 => k t (by omega) h2 h3, fun k t _ h2 h3 => k t h2 h3⟩
noncomputable def svS (X : mX) (g a v s best : Nat) : Nat := xite (nM s v = 0 ∧ popf 6 best < popf 6 s ∧ csv X g a s) s best
theorem svS_le {X : mX} {g a v s best : Nat} (h1 : s < 64) (h2 : best < 64) : svS X g a v s best < 64 := by
  unfold svS
  by_cases h : nM s v = 0 ∧ popf 6 best < popf 6 s ∧ csv X g a s
  · rw [xite_t h]; exact h1
  · rw [xite_f h]; exact h2
theorem fl_svS {X : mX} {g a v : Nat} : ∀ m s best, s + m ≤ 64 → best < 64 → fl (svS X g a v) m s best < 64 := by
  intro m
  induction m with
  | zero => intro s best _ h; exact h
  | succ m ih => intro s best hs h; exact ih (s + 1) _ (by omega) (svS_le (by omega) h)
theorem M47 (d : Nat) (σ : xS) {g a v : Nat} {w : Int32} {X : mX} (h : ML (rI σ 18 0) (xaR X) X) (hg : g < 4) (ha : a < 6) (hv : v < 64) : ∀ m s best, s + m = v + 1 → best < 64 → run (d + 5) (47, 63, [some (.inr (.inr (17, (some 0)))), some (.inl (nI (g))), some (.inl (nI (a))), some (.inl (nI (v))), some (.inl w), some (.inl (nI (best))), some (.inl (nI (s)))], [], σ) = some ((xite (w = 0) (nI (popf 6 (fl (svS X g a v) m s best))) (nI (fl (svS X g a v) m s best)), 0, none), σ) := by
  intro m
  induction m with
  | zero =>
    intro s best hs hb
    rw [B47_63]
    simp (disch := omega) only [n_cl, n_lt, n_le, n_eq, n_lt0, n_0lt, n_le0, n_eq0, n_gneq, n_ngeq, n_ng0, n_nglt, n_glt, n_gle, n_ltg, n_leg, n_gg, n_ge0, n_add, n_mul, n_rem, n_shl1, n_and, n_or, n_bit, n_not, n_not', n_B1, n_B0, n_BB, obind, xite_T, xite_F, xite_not, xite_same, oI_s, oI_n, Bool.false_eq_true, reduceCtorEq, eq_self, Classical.not_not, bI_T, bI_Fa, bI_0, bI_n0, bI_x, xb_0, xb_1, xite_bI, xite_bI', not_true_eq_false, not_false_eq_true, Nat.zero_add, Nat.add_zero, Nat.mul_zero, Nat.mul_one, Nat.one_mul, reduceIte, Nat.reduceEqDiff, Nat.reduceAdd, Nat.reduceMul, Nat.reduceSub, Nat.reduceLT, Nat.reduceLeDiff, Nat.reducePow, ite_true, ite_false, if_true, if_false, and_true, true_and, false_and, and_false, or_false, false_or, true_or, or_true, ne_eq, xite_t, xite_f, M15]
    by_cases hw : w = 0
    · rw [xite_t hw, xite_t hw]; rfl
    · rw [xite_f hw, xite_f hw]; rfl
  | succ m ih =>
    intro s best hs hb
    show _ = some ((xite (w = 0) (nI (popf 6 (fl (svS X g a v) m (s + 1) (svS X g a v s best)))) (nI (fl (svS X g a v) m (s + 1) (svS X g a v s best))), 0, none), σ)
    have hm : nM s v < 64 := nM_lt (n := 6) (show s < 2 ^ 6 by omega)
    have p1 := popf_le s (by omega)
    have p2 := popf_le best hb
    have pass : ¬ (nM s v = 0 ∧ popf 6 best < popf 6 s ∧ csv X g a s) → svS X g a v s best = best := fun h => xite_f h
    rw [B47_63]
    simp (disch := omega) only [n_cl, n_lt, n_le, n_eq, n_lt0, n_0lt, n_le0, n_eq0, n_gneq, n_ngeq, n_ng0, n_nglt, n_glt, n_gle, n_ltg, n_leg, n_gg, n_ge0, n_add, n_mul, n_rem, n_shl1, n_and, n_or, n_bit, n_not, n_not', n_B1, n_B0, n_BB, obind, xite_T, xite_F, xite_not, xite_same, oI_s, oI_n, Bool.false_eq_true, reduceCtorEq, eq_self, Classical.not_not, bI_T, bI_Fa, bI_0, bI_n0, bI_x, xb_0, xb_1, xite_bI, xite_bI', not_true_eq_false, not_false_eq_true, Nat.zero_add, Nat.add_zero, Nat.mul_zero, Nat.mul_one, Nat.one_mul, reduceIte, Nat.reduceEqDiff, Nat.reduceAdd, Nat.reduceMul, Nat.reduceSub, Nat.reduceLT, Nat.reduceLeDiff, Nat.reducePow, ite_true, ite_false, if_true, if_false, and_true, true_and, false_and, and_false, or_false, false_or, true_or, or_true, ne_eq, xite_t, xite_f, M15]
    by_cases h1 : nM s v = 0
    · rw [xite_t h1]
      by_cases h2 : popf 6 best < popf 6 s
      · rw [xite_f (by omega), M46 _ _ h hg ha (show s < 64 by omega)]
        simp (disch := omega) only [n_cl, n_lt, n_le, n_eq, n_lt0, n_0lt, n_le0, n_eq0, n_gneq, n_ngeq, n_ng0, n_nglt, n_glt, n_gle, n_ltg, n_leg, n_gg, n_ge0, n_add, n_mul, n_rem, n_shl1, n_and, n_or, n_bit, n_not, n_not', n_B1, n_B0, n_BB, obind, xite_T, xite_F, xite_not, xite_same, oI_s, oI_n, Bool.false_eq_true, reduceCtorEq, eq_self, Classical.not_not, bI_T, bI_Fa, bI_0, bI_n0, bI_x, xb_0, xb_1, xite_bI, xite_bI', not_true_eq_false, not_false_eq_true, Nat.zero_add, Nat.add_zero, Nat.mul_zero, Nat.mul_one, Nat.one_mul, reduceIte, Nat.reduceEqDiff, Nat.reduceAdd, Nat.reduceMul, Nat.reduceSub, Nat.reduceLT, Nat.reduceLeDiff, Nat.reducePow, ite_true, ite_false, if_true, if_false, and_true, true_and, false_and, and_false, or_false, false_or, true_or, or_true, ne_eq, ]
        by_cases h3 : csv X g a s
        · have e : svS X g a v s best = s := xite_t ⟨h1, h2, h3⟩
          rw [xite_t h3, e]
          exact ih (s + 1) s (by omega) (by omega)
        · rw [xite_f h3, pass (fun h => h3 h.2.2)]
          exact ih (s + 1) best (by omega) hb
      · rw [xite_t (by omega), pass (fun h => h2 h.2.1)]
        exact ih (s + 1) best (by omega) hb
    · rw [xite_f h1, pass (fun h => h1 h.1)]
      exact ih (s + 1) best (by omega) hb
theorem C110 (d : Nat) (σ : xS) {i g a v : Nat} {X : mX} (h : CL σ i X) (ha : a < 6) (hv : v < 64) (h6 : ∀ s, s < 2 ^ xaP X → rI σ 6 i s = nI (lds X g s (xaR X))) : run (d + 2) (xentry 110 [.inr (.inr (1, (some i))), .inl (nI a), .inl (nI v)] σ) = some ((bI (csv X g a v), 0, none), σ) := by
  have hP6 := h.1.2.1
  have hR9 := h.1.2.2.1
  have hp0 := h.2.1
  have h64 := p2_64 hP6
  have loop : ∀ m s, s + m = 2 ^ xaP X → run (d + 2) (110, 2, [some (.inr (.inr (1, (some i)))), some (.inl (nI (a))), some (.inl (nI (v))), some (.inl (nI (s)))], [], σ) = some ((bI (∀ t, s ≤ t → t < 2 ^ xaP X → t.testBit a = true → popf 6 (nM v t) ≤ lds X g t (xaR X)), 0, none), σ) := by
    intro m
    induction m with
    | zero =>
      intro s hs
      rw [B110_2, bI_t (fun t h1 h2 => by omega)]
      simp (disch := omega) only [n_cl, n_lt, n_le, n_eq, n_lt0, n_0lt, n_le0, n_eq0, n_gneq, n_ngeq, n_ng0, n_nglt, n_glt, n_gle, n_ltg, n_leg, n_gg, n_ge0, n_add, n_mul, n_rem, n_shl1, n_and, n_or, n_bit, n_not, n_not', n_B1, n_B0, n_BB, obind, xite_T, xite_F, xite_not, xite_same, oI_s, oI_n, Bool.false_eq_true, reduceCtorEq, eq_self, Classical.not_not, bI_T, bI_Fa, bI_0, bI_n0, bI_x, xb_0, xb_1, xite_bI, xite_bI', not_true_eq_false, not_false_eq_true, Nat.zero_add, Nat.add_zero, Nat.mul_zero, Nat.mul_one, Nat.one_mul, reduceIte, Nat.reduceEqDiff, Nat.reduceAdd, Nat.reduceMul, Nat.reduceSub, Nat.reduceLT, Nat.reduceLeDiff, Nat.reducePow, ite_true, ite_false, if_true, if_false, and_true, true_and, false_and, and_false, or_false, false_or, true_or, or_true, ne_eq, xite_t, xite_f, hp0]
    | succ m ih =>
      intro s hs
      have e := ih (s + 1) (by omega)
      have hl := @lds_le X g s (xaR X)
      have hm : nM v s < 64 := nM_lt (n := 6) hv
      have hp := popf_le _ hm
      rw [B110_2]
      cases h1 : s.testBit a with
      | false =>
        simp (disch := omega) only [n_cl, n_lt, n_le, n_eq, n_lt0, n_0lt, n_le0, n_eq0, n_gneq, n_ngeq, n_ng0, n_nglt, n_glt, n_gle, n_ltg, n_leg, n_gg, n_ge0, n_add, n_mul, n_rem, n_shl1, n_and, n_or, n_bit, n_not, n_not', n_B1, n_B0, n_BB, obind, xite_T, xite_F, xite_not, xite_same, oI_s, oI_n, Bool.false_eq_true, reduceCtorEq, eq_self, Classical.not_not, bI_T, bI_Fa, bI_0, bI_n0, bI_x, xb_0, xb_1, xite_bI, xite_bI', not_true_eq_false, not_false_eq_true, Nat.zero_add, Nat.add_zero, Nat.mul_zero, Nat.mul_one, Nat.one_mul, reduceIte, Nat.reduceEqDiff, Nat.reduceAdd, Nat.reduceMul, Nat.reduceSub, Nat.reduceLT, Nat.reduceLeDiff, Nat.reducePow, ite_true, ite_false, if_true, if_false, and_true, true_and, false_and, and_false, or_false, false_or, true_or, or_true, ne_eq, xite_t, xite_f, hp0, h1, C167]
        rw [e]
        congr 4
        exact propext ⟨fun k t h1' h2 h3 => by
          by_cases et : t = s
          · subst et; rw [h1] at h3; cases h3
          · exact k t (by omega) h2 h3, fun k t h1 h2 h3 => k t (by omega) h2 h3⟩
      | true =>
        simp (disch := omega) only [n_cl, n_lt, n_le, n_eq, n_lt0, n_0lt, n_le0, n_eq0, n_gneq, n_ngeq, n_ng0, n_nglt, n_glt, n_gle, n_ltg, n_leg, n_gg, n_ge0, n_add, n_mul, n_rem, n_shl1, n_and, n_or, n_bit, n_not, n_not', n_B1, n_B0, n_BB, obind, xite_T, xite_F, xite_not, xite_same, oI_s, oI_n, Bool.false_eq_true, reduceCtorEq, eq_self, Classical.not_not, bI_T, bI_Fa, bI_0, bI_n0, bI_x, xb_0, xb_1, xite_bI, xite_bI', not_true_eq_false, not_false_eq_true, Nat.zero_add, Nat.add_zero, Nat.mul_zero, Nat.mul_one, Nat.one_mul, reduceIte, Nat.reduceEqDiff, Nat.reduceAdd, Nat.reduceMul, Nat.reduceSub, Nat.reduceLT, Nat.reduceLeDiff, Nat.reducePow, ite_true, ite_false, if_true, if_false, and_true, true_and, false_and, and_false, or_false, false_or, true_or, or_true, ne_eq, xite_t, xite_f, hp0, h1, C167, C77, h6 s (by omega)]
        by_cases hle : popf 6 (nM v s) ≤ lds X g s (xaR X)
        · rw [xite_t hle, e]
          congr 4
          exact propext ⟨fun k t h1' h2 h3 => by
            by_cases et : t = s
            · subst et; exact hle
            · exact k t (by omega) h2 h3, fun k t h1 h2 h3 => k t (by omega) h2 h3⟩
        · rw [xite_f hle, bI_f (fun k => hle (k s (Nat.le_refl _) (by omega) h1))]
  rw [B110_0, loop (2 ^ xaP X) 0 (by omega)]
  congr 4
  exact propext ⟨fun k t h2 h3 => k t (by omega) h2 h3, fun k t _ h2 h3 => k t h2 h3⟩
theorem C109 (d : Nat) (σ : xS) {i g a v : Nat} {X : mX} (h : CL σ i X) (ha : a < 6) (hv : v < 64) (h6 : ∀ s, s < 2 ^ xaP X → rI σ 6 i s = nI (lds X g s (xaR X))) : run (d + 3) (xentry 109 [.inr (.inr (1, (some i))), .inl (nI a), .inl (nI v)] σ) = some ((nI (fl (svS X g a v) v 1 0), 0, none), σ) := by
  have loop : ∀ m s best, s + m = v + 1 → best < 64 → run (d + 3) (109, 5, [some (.inr (.inr (1, (some i)))), some (.inl (nI (a))), some (.inl (nI (v))), some (.inl (nI (best))), some (.inl (nI (s))), none], [], σ) = some ((nI (fl (svS X g a v) m s best), 0, none), σ) := by
    intro m
    induction m with
    | zero =>
      intro s best hs hb
      rw [B109_5]
      simp (disch := omega) only [n_cl, n_lt, n_le, n_eq, n_lt0, n_0lt, n_le0, n_eq0, n_gneq, n_ngeq, n_ng0, n_nglt, n_glt, n_gle, n_ltg, n_leg, n_gg, n_ge0, n_add, n_mul, n_rem, n_shl1, n_and, n_or, n_bit, n_not, n_not', n_B1, n_B0, n_BB, obind, xite_T, xite_F, xite_not, xite_same, oI_s, oI_n, Bool.false_eq_true, reduceCtorEq, eq_self, Classical.not_not, bI_T, bI_Fa, bI_0, bI_n0, bI_x, xb_0, xb_1, xite_bI, xite_bI', not_true_eq_false, not_false_eq_true, Nat.zero_add, Nat.add_zero, Nat.mul_zero, Nat.mul_one, Nat.one_mul, reduceIte, Nat.reduceEqDiff, Nat.reduceAdd, Nat.reduceMul, Nat.reduceSub, Nat.reduceLT, Nat.reduceLeDiff, Nat.reducePow, ite_true, ite_false, if_true, if_false, and_true, true_and, false_and, and_false, or_false, false_or, true_or, or_true, ne_eq, xite_t, xite_f, ]
      rfl
    | succ m ih =>
      intro s best hs hb
      show _ = some ((nI (fl (svS X g a v) m (s + 1) (svS X g a v s best)), 0, none), σ)
      have hm : nM s v < 64 := nM_lt (n := 6) (show s < 2 ^ 6 by omega)
      have p1 := popf_le s (by omega)
      have p2 := popf_le best hb
      have pass : ¬ (nM s v = 0 ∧ popf 6 best < popf 6 s ∧ csv X g a s) → svS X g a v s best = best := fun h => xite_f h
      rw [B109_5]
      simp (disch := omega) only [n_cl, n_lt, n_le, n_eq, n_lt0, n_0lt, n_le0, n_eq0, n_gneq, n_ngeq, n_ng0, n_nglt, n_glt, n_gle, n_ltg, n_leg, n_gg, n_ge0, n_add, n_mul, n_rem, n_shl1, n_and, n_or, n_bit, n_not, n_not', n_B1, n_B0, n_BB, obind, xite_T, xite_F, xite_not, xite_same, oI_s, oI_n, Bool.false_eq_true, reduceCtorEq, eq_self, Classical.not_not, bI_T, bI_Fa, bI_0, bI_n0, bI_x, xb_0, xb_1, xite_bI, xite_bI', not_true_eq_false, not_false_eq_true, Nat.zero_add, Nat.add_zero, Nat.mul_zero, Nat.mul_one, Nat.one_mul, reduceIte, Nat.reduceEqDiff, Nat.reduceAdd, Nat.reduceMul, Nat.reduceSub, Nat.reduceLT, Nat.reduceLeDiff, Nat.reducePow, ite_true, ite_false, if_true, if_false, and_true, true_and, false_and, and_false, or_false, false_or, true_or, or_true, ne_eq, xite_t, xite_f, C77, B109_37]
      by_cases h1 : nM s v = 0
      · rw [xite_t h1]
        by_cases h2 : popf 6 best < popf 6 s
        · rw [xite_f (by omega), C110 _ _ h ha (show s < 64 by omega) h6]
          simp (disch := omega) only [n_cl, n_lt, n_le, n_eq, n_lt0, n_0lt, n_le0, n_eq0, n_gneq, n_ngeq, n_ng0, n_nglt, n_glt, n_gle, n_ltg, n_leg, n_gg, n_ge0, n_add, n_mul, n_rem, n_shl1, n_and, n_or, n_bit, n_not, n_not', n_B1, n_B0, n_BB, obind, xite_T, xite_F, xite_not, xite_same, oI_s, oI_n, Bool.false_eq_true, reduceCtorEq, eq_self, Classical.not_not, bI_T, bI_Fa, bI_0, bI_n0, bI_x, xb_0, xb_1, xite_bI, xite_bI', not_true_eq_false, not_false_eq_true, Nat.zero_add, Nat.add_zero, Nat.mul_zero, Nat.mul_one, Nat.one_mul, reduceIte, Nat.reduceEqDiff, Nat.reduceAdd, Nat.reduceMul, Nat.reduceSub, Nat.reduceLT, Nat.reduceLeDiff, Nat.reducePow, ite_true, ite_false, if_true, if_false, and_true, true_and, false_and, and_false, or_false, false_or, true_or, or_true, ne_eq, ]
          by_cases h3 : csv X g a s
          · have e : svS X g a v s best = s := xite_t ⟨h1, h2, h3⟩
            rw [xite_t h3, e]
            exact ih (s + 1) s (by omega) (by omega)
          · rw [xite_f h3, pass (fun h => h3 h.2.2)]
            exact ih (s + 1) best (by omega) hb
        · rw [xite_t (by omega), pass (fun h => h2 h.2.1)]
          exact ih (s + 1) best (by omega) hb
      · rw [xite_f h1, pass (fun h => h1 h.1)]
        exact ih (s + 1) best (by omega) hb
  have e0 : svS X g a v 0 0 = 0 := xite_same
  have := loop (v + 1) 0 0 (by omega) (by omega)
  rw [show fl (svS X g a v) (v + 1) 0 0 = fl (svS X g a v) v 1 (svS X g a v 0 0) from rfl, e0] at this
  rw [B109_0]
  exact this
theorem duo_served (d : Nat) (S : mG) (hX : WX (xaR S.1) S.1) (g a v w : Int32) : Duo (d + 60) (fun σ => xentry 148 [.inr (.inr (0, (some 0))), .inl g, .inl a, .inl v, .inl w] σ) (fun σ => xentry 47 [.inr (.inr (17, (some 0))), .inl g, .inl a, .inl v, .inl w] σ) S := by
  have hP6 := hX.2.1
  have hP2 := hX.1
  have h64 := p2_64 hP6
  have h1P : 1 ≤ 2 ^ xaP S.1 := Nat.one_le_two_pow
  by_cases h1 : inb g 4
  · by_cases h2 : inb a (xaP S.1)
    · by_cases h3 : inb w 2
      · by_cases h4 : inb v (2 ^ xaP S.1)
        · obtain ⟨g', hg, eg⟩ := inb_of h1 (by omega)
          obtain ⟨a', ha, ea⟩ := inb_of h2 (by omega)
          obtain ⟨v', hv, ev⟩ := inb_of h4 (by omega)
          subst eg ea ev
          by_cases h5 : v'.testBit a' = true
          · refine duo_bad (-nI 1) (fun σ h => ?_) (fun σ h => ?_)
            · rw [B148_0, C166 _ _ _ (by omega)]
              simp (disch := omega) only [n_cl, n_lt, n_le, n_eq, n_lt0, n_0lt, n_le0, n_eq0, n_gneq, n_ngeq, n_ng0, n_nglt, n_glt, n_gle, n_ltg, n_leg, n_gg, n_ge0, n_add, n_mul, n_rem, n_shl1, n_and, n_or, n_bit, n_not, n_not', n_B1, n_B0, n_BB, obind, xite_T, xite_F, xite_not, xite_same, oI_s, oI_n, Bool.false_eq_true, reduceCtorEq, eq_self, Classical.not_not, bI_T, bI_Fa, bI_0, bI_n0, bI_x, xb_0, xb_1, xite_bI, xite_bI', not_true_eq_false, not_false_eq_true, Nat.zero_add, Nat.add_zero, Nat.mul_zero, Nat.mul_one, Nat.one_mul, reduceIte, Nat.reduceEqDiff, Nat.reduceAdd, Nat.reduceMul, Nat.reduceSub, Nat.reduceLT, Nat.reduceLeDiff, Nat.reducePow, ite_true, ite_false, if_true, if_false, and_true, true_and, false_and, and_false, or_false, false_or, true_or, or_true, ne_eq, xite_t, xite_f, h1, h2, h3, h4, C166, C92 _ _ _ h.1, h.1.2.1, C167, h5]
            · rw [B47_0, M6]
              simp (disch := omega) only [n_cl, n_lt, n_le, n_eq, n_lt0, n_0lt, n_le0, n_eq0, n_gneq, n_ngeq, n_ng0, n_nglt, n_glt, n_gle, n_ltg, n_leg, n_gg, n_ge0, n_add, n_mul, n_rem, n_shl1, n_and, n_or, n_bit, n_not, n_not', n_B1, n_B0, n_BB, obind, xite_T, xite_F, xite_not, xite_same, oI_s, oI_n, Bool.false_eq_true, reduceCtorEq, eq_self, Classical.not_not, bI_T, bI_Fa, bI_0, bI_n0, bI_x, xb_0, xb_1, xite_bI, xite_bI', not_true_eq_false, not_false_eq_true, Nat.zero_add, Nat.add_zero, Nat.mul_zero, Nat.mul_one, Nat.one_mul, reduceIte, Nat.reduceEqDiff, Nat.reduceAdd, Nat.reduceMul, Nat.reduceSub, Nat.reduceLT, Nat.reduceLeDiff, Nat.reducePow, ite_true, ite_false, if_true, if_false, and_true, true_and, false_and, and_false, or_false, false_or, true_or, or_true, ne_eq, xite_t, xite_f, h1, h2, h3, h4, M3 _ _ _ h.1, h.1.2.1]
              rw [M1r _ _ _ _ (2 ^ xaP S.1) (n_pred (by omega))]
              simp (disch := omega) only [n_cl, n_lt, n_le, n_eq, n_lt0, n_0lt, n_le0, n_eq0, n_gneq, n_ngeq, n_ng0, n_nglt, n_glt, n_gle, n_ltg, n_leg, n_gg, n_ge0, n_add, n_mul, n_rem, n_shl1, n_and, n_or, n_bit, n_not, n_not', n_B1, n_B0, n_BB, obind, xite_T, xite_F, xite_not, xite_same, oI_s, oI_n, Bool.false_eq_true, reduceCtorEq, eq_self, Classical.not_not, bI_T, bI_Fa, bI_0, bI_n0, bI_x, xb_0, xb_1, xite_bI, xite_bI', not_true_eq_false, not_false_eq_true, Nat.zero_add, Nat.add_zero, Nat.mul_zero, Nat.mul_one, Nat.one_mul, reduceIte, Nat.reduceEqDiff, Nat.reduceAdd, Nat.reduceMul, Nat.reduceSub, Nat.reduceLT, Nat.reduceLeDiff, Nat.reducePow, ite_true, ite_false, if_true, if_false, and_true, true_and, false_and, and_false, or_false, false_or, true_or, or_true, ne_eq, xite_t, xite_f, h4, h5]
          · have h5' : v'.testBit a' = false := by cases hq : v'.testBit a' with | true => exact absurd hq h5 | false => rfl
            have hb := fl_svS (X := S.1) (g := g') (a := a') (v := v') v' 1 0 (by omega) (by omega)
            refine ⟨xite (w = 0) (nI (popf 6 (fl (svS S.1 g' a' v') v' 1 0))) (nI (fl (svS S.1 g' a' v') v' 1 0)), S, fun σ h => ?_, fun σ h => ⟨σ, ?_, h, xF_refl σ⟩⟩
            · obtain ⟨σ1, f1, f2, f3⟩ := C106 (d + 56) σ h.1 hg
              have hC := CL_6 h.1 f3
              refine ⟨σ1, ?_, CI_Scr h (xF_le f3 S106_S), kC_F f3 (fun r j k s => Scr_16 _ _ _ (S106_S _ _ _ s))⟩
              have k1 := C109 (d + 56) σ1 (v := v') hC (show a' < 6 by omega) (by omega) f2
              show run (d + 60) (xentry 148 _ σ) = _
              rw [B148_0, C166 _ _ _ (by omega)]
              simp (disch := omega) only [n_cl, n_lt, n_le, n_eq, n_lt0, n_0lt, n_le0, n_eq0, n_gneq, n_ngeq, n_ng0, n_nglt, n_glt, n_gle, n_ltg, n_leg, n_gg, n_ge0, n_add, n_mul, n_rem, n_shl1, n_and, n_or, n_bit, n_not, n_not', n_B1, n_B0, n_BB, obind, xite_T, xite_F, xite_not, xite_same, oI_s, oI_n, Bool.false_eq_true, reduceCtorEq, eq_self, Classical.not_not, bI_T, bI_Fa, bI_0, bI_n0, bI_x, xb_0, xb_1, xite_bI, xite_bI', not_true_eq_false, not_false_eq_true, Nat.zero_add, Nat.add_zero, Nat.mul_zero, Nat.mul_one, Nat.one_mul, reduceIte, Nat.reduceEqDiff, Nat.reduceAdd, Nat.reduceMul, Nat.reduceSub, Nat.reduceLT, Nat.reduceLeDiff, Nat.reducePow, ite_true, ite_false, if_true, if_false, and_true, true_and, false_and, and_false, or_false, false_or, true_or, or_true, ne_eq, xite_t, xite_f, h1, h2, h3, h4, C166, C92 _ _ _ h.1, h.1.2.1, C167, h5', f1, k1, C77]
              by_cases hw : w = 0
              · rw [xite_t hw, xite_t hw]
              · rw [xite_f hw, xite_f hw]
            · show run (d + 60) (xentry 47 _ σ) = _
              rw [B47_0, M6]
              simp (disch := omega) only [n_cl, n_lt, n_le, n_eq, n_lt0, n_0lt, n_le0, n_eq0, n_gneq, n_ngeq, n_ng0, n_nglt, n_glt, n_gle, n_ltg, n_leg, n_gg, n_ge0, n_add, n_mul, n_rem, n_shl1, n_and, n_or, n_bit, n_not, n_not', n_B1, n_B0, n_BB, obind, xite_T, xite_F, xite_not, xite_same, oI_s, oI_n, Bool.false_eq_true, reduceCtorEq, eq_self, Classical.not_not, bI_T, bI_Fa, bI_0, bI_n0, bI_x, xb_0, xb_1, xite_bI, xite_bI', not_true_eq_false, not_false_eq_true, Nat.zero_add, Nat.add_zero, Nat.mul_zero, Nat.mul_one, Nat.one_mul, reduceIte, Nat.reduceEqDiff, Nat.reduceAdd, Nat.reduceMul, Nat.reduceSub, Nat.reduceLT, Nat.reduceLeDiff, Nat.reducePow, ite_true, ite_false, if_true, if_false, and_true, true_and, false_and, and_false, or_false, false_or, true_or, or_true, ne_eq, xite_t, xite_f, h1, h2, h3, h4, M3 _ _ _ h.1, h.1.2.1]
              rw [M1r _ _ _ _ (2 ^ xaP S.1) (n_pred (by omega))]
              simp (disch := omega) only [n_cl, n_lt, n_le, n_eq, n_lt0, n_0lt, n_le0, n_eq0, n_gneq, n_ngeq, n_ng0, n_nglt, n_glt, n_gle, n_ltg, n_leg, n_gg, n_ge0, n_add, n_mul, n_rem, n_shl1, n_and, n_or, n_bit, n_not, n_not', n_B1, n_B0, n_BB, obind, xite_T, xite_F, xite_not, xite_same, oI_s, oI_n, Bool.false_eq_true, reduceCtorEq, eq_self, Classical.not_not, bI_T, bI_Fa, bI_0, bI_n0, bI_x, xb_0, xb_1, xite_bI, xite_bI', not_true_eq_false, not_false_eq_true, Nat.zero_add, Nat.add_zero, Nat.mul_zero, Nat.mul_one, Nat.one_mul, reduceIte, Nat.reduceEqDiff, Nat.reduceAdd, Nat.reduceMul, Nat.reduceSub, Nat.reduceLT, Nat.reduceLeDiff, Nat.reducePow, ite_true, ite_false, if_true, if_false, and_true, true_and, false_and, and_false, or_false, false_or, true_or, or_true, ne_eq, xite_t, xite_f, h4, h5', M1c, h3]
              exact M47 (d + 55) σ h.1 hg (by omega) (by omega) v' 1 0 (by omega) (by omega)
        · refine duo_bad (-nI 1) (fun σ h => ?_) (fun σ h => ?_)
          · rw [B148_0, C166 _ _ _ (by omega)]
            simp (disch := omega) only [n_cl, n_lt, n_le, n_eq, n_lt0, n_0lt, n_le0, n_eq0, n_gneq, n_ngeq, n_ng0, n_nglt, n_glt, n_gle, n_ltg, n_leg, n_gg, n_ge0, n_add, n_mul, n_rem, n_shl1, n_and, n_or, n_bit, n_not, n_not', n_B1, n_B0, n_BB, obind, xite_T, xite_F, xite_not, xite_same, oI_s, oI_n, Bool.false_eq_true, reduceCtorEq, eq_self, Classical.not_not, bI_T, bI_Fa, bI_0, bI_n0, bI_x, xb_0, xb_1, xite_bI, xite_bI', not_true_eq_false, not_false_eq_true, Nat.zero_add, Nat.add_zero, Nat.mul_zero, Nat.mul_one, Nat.one_mul, reduceIte, Nat.reduceEqDiff, Nat.reduceAdd, Nat.reduceMul, Nat.reduceSub, Nat.reduceLT, Nat.reduceLeDiff, Nat.reducePow, ite_true, ite_false, if_true, if_false, and_true, true_and, false_and, and_false, or_false, false_or, true_or, or_true, ne_eq, xite_t, xite_f, h1, h2, h3, h4, C166, C92 _ _ _ h.1, h.1.2.1]
          · rw [B47_0, M6]
            simp (disch := omega) only [n_cl, n_lt, n_le, n_eq, n_lt0, n_0lt, n_le0, n_eq0, n_gneq, n_ngeq, n_ng0, n_nglt, n_glt, n_gle, n_ltg, n_leg, n_gg, n_ge0, n_add, n_mul, n_rem, n_shl1, n_and, n_or, n_bit, n_not, n_not', n_B1, n_B0, n_BB, obind, xite_T, xite_F, xite_not, xite_same, oI_s, oI_n, Bool.false_eq_true, reduceCtorEq, eq_self, Classical.not_not, bI_T, bI_Fa, bI_0, bI_n0, bI_x, xb_0, xb_1, xite_bI, xite_bI', not_true_eq_false, not_false_eq_true, Nat.zero_add, Nat.add_zero, Nat.mul_zero, Nat.mul_one, Nat.one_mul, reduceIte, Nat.reduceEqDiff, Nat.reduceAdd, Nat.reduceMul, Nat.reduceSub, Nat.reduceLT, Nat.reduceLeDiff, Nat.reducePow, ite_true, ite_false, if_true, if_false, and_true, true_and, false_and, and_false, or_false, false_or, true_or, or_true, ne_eq, xite_t, xite_f, h1, h2, h3, h4, M3 _ _ _ h.1, h.1.2.1]
            rw [M1r _ _ _ _ (2 ^ xaP S.1) (n_pred (by omega))]
            simp (disch := omega) only [n_cl, n_lt, n_le, n_eq, n_lt0, n_0lt, n_le0, n_eq0, n_gneq, n_ngeq, n_ng0, n_nglt, n_glt, n_gle, n_ltg, n_leg, n_gg, n_ge0, n_add, n_mul, n_rem, n_shl1, n_and, n_or, n_bit, n_not, n_not', n_B1, n_B0, n_BB, obind, xite_T, xite_F, xite_not, xite_same, oI_s, oI_n, Bool.false_eq_true, reduceCtorEq, eq_self, Classical.not_not, bI_T, bI_Fa, bI_0, bI_n0, bI_x, xb_0, xb_1, xite_bI, xite_bI', not_true_eq_false, not_false_eq_true, Nat.zero_add, Nat.add_zero, Nat.mul_zero, Nat.mul_one, Nat.one_mul, reduceIte, Nat.reduceEqDiff, Nat.reduceAdd, Nat.reduceMul, Nat.reduceSub, Nat.reduceLT, Nat.reduceLeDiff, Nat.reducePow, ite_true, ite_false, if_true, if_false, and_true, true_and, false_and, and_false, or_false, false_or, true_or, or_true, ne_eq, xite_t, xite_f, h4]
      · refine duo_bad (-nI 1) (fun σ h => ?_) (fun σ h => ?_)
        · rw [B148_0, C166 _ _ _ (by omega)]
          simp (disch := omega) only [n_cl, n_lt, n_le, n_eq, n_lt0, n_0lt, n_le0, n_eq0, n_gneq, n_ngeq, n_ng0, n_nglt, n_glt, n_gle, n_ltg, n_leg, n_gg, n_ge0, n_add, n_mul, n_rem, n_shl1, n_and, n_or, n_bit, n_not, n_not', n_B1, n_B0, n_BB, obind, xite_T, xite_F, xite_not, xite_same, oI_s, oI_n, Bool.false_eq_true, reduceCtorEq, eq_self, Classical.not_not, bI_T, bI_Fa, bI_0, bI_n0, bI_x, xb_0, xb_1, xite_bI, xite_bI', not_true_eq_false, not_false_eq_true, Nat.zero_add, Nat.add_zero, Nat.mul_zero, Nat.mul_one, Nat.one_mul, reduceIte, Nat.reduceEqDiff, Nat.reduceAdd, Nat.reduceMul, Nat.reduceSub, Nat.reduceLT, Nat.reduceLeDiff, Nat.reducePow, ite_true, ite_false, if_true, if_false, and_true, true_and, false_and, and_false, or_false, false_or, true_or, or_true, ne_eq, xite_t, xite_f, h1, h2, h3, C166, C92 _ _ _ h.1]
        · rw [B47_0, M6]
          simp (disch := omega) only [n_cl, n_lt, n_le, n_eq, n_lt0, n_0lt, n_le0, n_eq0, n_gneq, n_ngeq, n_ng0, n_nglt, n_glt, n_gle, n_ltg, n_leg, n_gg, n_ge0, n_add, n_mul, n_rem, n_shl1, n_and, n_or, n_bit, n_not, n_not', n_B1, n_B0, n_BB, obind, xite_T, xite_F, xite_not, xite_same, oI_s, oI_n, Bool.false_eq_true, reduceCtorEq, eq_self, Classical.not_not, bI_T, bI_Fa, bI_0, bI_n0, bI_x, xb_0, xb_1, xite_bI, xite_bI', not_true_eq_false, not_false_eq_true, Nat.zero_add, Nat.add_zero, Nat.mul_zero, Nat.mul_one, Nat.one_mul, reduceIte, Nat.reduceEqDiff, Nat.reduceAdd, Nat.reduceMul, Nat.reduceSub, Nat.reduceLT, Nat.reduceLeDiff, Nat.reducePow, ite_true, ite_false, if_true, if_false, and_true, true_and, false_and, and_false, or_false, false_or, true_or, or_true, ne_eq, xite_t, xite_f, h1, h2, M3 _ _ _ h.1, h.1.2.1]
          rw [M1r _ _ _ _ (2 ^ xaP S.1) (n_pred (by omega))]
          simp (disch := omega) only [n_cl, n_lt, n_le, n_eq, n_lt0, n_0lt, n_le0, n_eq0, n_gneq, n_ngeq, n_ng0, n_nglt, n_glt, n_gle, n_ltg, n_leg, n_gg, n_ge0, n_add, n_mul, n_rem, n_shl1, n_and, n_or, n_bit, n_not, n_not', n_B1, n_B0, n_BB, obind, xite_T, xite_F, xite_not, xite_same, oI_s, oI_n, Bool.false_eq_true, reduceCtorEq, eq_self, Classical.not_not, bI_T, bI_Fa, bI_0, bI_n0, bI_x, xb_0, xb_1, xite_bI, xite_bI', not_true_eq_false, not_false_eq_true, Nat.zero_add, Nat.add_zero, Nat.mul_zero, Nat.mul_one, Nat.one_mul, reduceIte, Nat.reduceEqDiff, Nat.reduceAdd, Nat.reduceMul, Nat.reduceSub, Nat.reduceLT, Nat.reduceLeDiff, Nat.reducePow, ite_true, ite_false, if_true, if_false, and_true, true_and, false_and, and_false, or_false, false_or, true_or, or_true, ne_eq, xite_t, xite_f, M1c, h3]
    · refine duo_bad (-nI 1) (fun σ h => ?_) (fun σ h => ?_)
      · rw [B148_0, C166 _ _ _ (by omega)]
        simp (disch := omega) only [n_cl, n_lt, n_le, n_eq, n_lt0, n_0lt, n_le0, n_eq0, n_gneq, n_ngeq, n_ng0, n_nglt, n_glt, n_gle, n_ltg, n_leg, n_gg, n_ge0, n_add, n_mul, n_rem, n_shl1, n_and, n_or, n_bit, n_not, n_not', n_B1, n_B0, n_BB, obind, xite_T, xite_F, xite_not, xite_same, oI_s, oI_n, Bool.false_eq_true, reduceCtorEq, eq_self, Classical.not_not, bI_T, bI_Fa, bI_0, bI_n0, bI_x, xb_0, xb_1, xite_bI, xite_bI', not_true_eq_false, not_false_eq_true, Nat.zero_add, Nat.add_zero, Nat.mul_zero, Nat.mul_one, Nat.one_mul, reduceIte, Nat.reduceEqDiff, Nat.reduceAdd, Nat.reduceMul, Nat.reduceSub, Nat.reduceLT, Nat.reduceLeDiff, Nat.reducePow, ite_true, ite_false, if_true, if_false, and_true, true_and, false_and, and_false, or_false, false_or, true_or, or_true, ne_eq, xite_t, xite_f, h1, h2, C92 _ _ _ h.1]
      · rw [B47_0, M6]
        simp (disch := omega) only [n_cl, n_lt, n_le, n_eq, n_lt0, n_0lt, n_le0, n_eq0, n_gneq, n_ngeq, n_ng0, n_nglt, n_glt, n_gle, n_ltg, n_leg, n_gg, n_ge0, n_add, n_mul, n_rem, n_shl1, n_and, n_or, n_bit, n_not, n_not', n_B1, n_B0, n_BB, obind, xite_T, xite_F, xite_not, xite_same, oI_s, oI_n, Bool.false_eq_true, reduceCtorEq, eq_self, Classical.not_not, bI_T, bI_Fa, bI_0, bI_n0, bI_x, xb_0, xb_1, xite_bI, xite_bI', not_true_eq_false, not_false_eq_true, Nat.zero_add, Nat.add_zero, Nat.mul_zero, Nat.mul_one, Nat.one_mul, reduceIte, Nat.reduceEqDiff, Nat.reduceAdd, Nat.reduceMul, Nat.reduceSub, Nat.reduceLT, Nat.reduceLeDiff, Nat.reducePow, ite_true, ite_false, if_true, if_false, and_true, true_and, false_and, and_false, or_false, false_or, true_or, or_true, ne_eq, xite_t, xite_f, h1, h2, M3 _ _ _ h.1]
  · refine duo_bad (-nI 1) (fun σ h => ?_) (fun σ h => ?_)
    · rw [B148_0, C166 _ _ _ (by omega)]
      simp (disch := omega) only [n_cl, n_lt, n_le, n_eq, n_lt0, n_0lt, n_le0, n_eq0, n_gneq, n_ngeq, n_ng0, n_nglt, n_glt, n_gle, n_ltg, n_leg, n_gg, n_ge0, n_add, n_mul, n_rem, n_shl1, n_and, n_or, n_bit, n_not, n_not', n_B1, n_B0, n_BB, obind, xite_T, xite_F, xite_not, xite_same, oI_s, oI_n, Bool.false_eq_true, reduceCtorEq, eq_self, Classical.not_not, bI_T, bI_Fa, bI_0, bI_n0, bI_x, xb_0, xb_1, xite_bI, xite_bI', not_true_eq_false, not_false_eq_true, Nat.zero_add, Nat.add_zero, Nat.mul_zero, Nat.mul_one, Nat.one_mul, reduceIte, Nat.reduceEqDiff, Nat.reduceAdd, Nat.reduceMul, Nat.reduceSub, Nat.reduceLT, Nat.reduceLeDiff, Nat.reducePow, ite_true, ite_false, if_true, if_false, and_true, true_and, false_and, and_false, or_false, false_or, true_or, or_true, ne_eq, xite_t, xite_f, h1]
    · rw [B47_0, M6]
      simp (disch := omega) only [n_cl, n_lt, n_le, n_eq, n_lt0, n_0lt, n_le0, n_eq0, n_gneq, n_ngeq, n_ng0, n_nglt, n_glt, n_gle, n_ltg, n_leg, n_gg, n_ge0, n_add, n_mul, n_rem, n_shl1, n_and, n_or, n_bit, n_not, n_not', n_B1, n_B0, n_BB, obind, xite_T, xite_F, xite_not, xite_same, oI_s, oI_n, Bool.false_eq_true, reduceCtorEq, eq_self, Classical.not_not, bI_T, bI_Fa, bI_0, bI_n0, bI_x, xb_0, xb_1, xite_bI, xite_bI', not_true_eq_false, not_false_eq_true, Nat.zero_add, Nat.add_zero, Nat.mul_zero, Nat.mul_one, Nat.one_mul, reduceIte, Nat.reduceEqDiff, Nat.reduceAdd, Nat.reduceMul, Nat.reduceSub, Nat.reduceLT, Nat.reduceLeDiff, Nat.reducePow, ite_true, ite_false, if_true, if_false, and_true, true_and, false_and, and_false, or_false, false_or, true_or, or_true, ne_eq, xite_t, xite_f, h1]
