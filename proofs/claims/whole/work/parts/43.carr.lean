/-! ROWS OF CARRIAGES: RUN; JUDGE -/
theorem C126 (d : Nat) (σ : xS) {e k : Nat} {x : mSh} (h : cSh σ e x) (hk : k < x.2.2.2.2.1) : run (d + 2) (xentry 126 [.inr (.inr (14, (some e))), .inl (nI k)] σ) = some ((x.2.2.2.2.2 k, 0, none), σ) := by
  obtain ⟨e1, e2, e3, e4, e5, e6⟩ := h
  have hz := e1.2.2.2
  rw [B126_0, C124 _ _ _ e5 hz]
  simp (disch := omega) only [n_cl, n_lt, n_le, n_eq, n_lt0, n_0lt, n_le0, n_eq0, n_gneq, n_ngeq, n_ng0, n_nglt, n_glt, n_gle, n_ltg, n_leg, n_gg, n_ge0, n_add, n_mul, n_rem, n_shl1, n_and, n_or, n_bit, n_not, n_not', n_B1, n_B0, n_BB, obind, xite_T, xite_F, xite_not, xite_same, oI_s, oI_n, Bool.false_eq_true, reduceCtorEq, eq_self, Classical.not_not, bI_T, bI_Fa, bI_0, bI_n0, bI_x, xb_0, xb_1, xite_bI, xite_bI', not_true_eq_false, not_false_eq_true, Nat.zero_add, Nat.add_zero, Nat.mul_zero, Nat.mul_one, Nat.one_mul, reduceIte, Nat.reduceEqDiff, Nat.reduceAdd, Nat.reduceMul, Nat.reduceSub, Nat.reduceLT, Nat.reduceLeDiff, Nat.reducePow, ite_true, ite_false, if_true, if_false, and_true, true_and, false_and, and_false, or_false, false_or, true_or, or_true, ne_eq, xite_t, xite_f, inb_nI, hk]
  rw [e6 k (by omega)]
theorem C126_f (d : Nat) (σ : xS) {e : Nat} {v : Int32} {x : mSh} (h : cSh σ e x) (hk : ¬ inb v x.2.2.2.2.1) : run (d + 2) (xentry 126 [.inr (.inr (14, (some e))), .inl v] σ) = some ((-nI 1, 0, none), σ) := by
  obtain ⟨e1, e2, e3, e4, e5, e6⟩ := h
  rw [B126_0, C124 _ _ _ e5 e1.2.2.2]
  simp (disch := omega) only [n_cl, n_lt, n_le, n_eq, n_lt0, n_0lt, n_le0, n_eq0, n_gneq, n_ngeq, n_ng0, n_nglt, n_glt, n_gle, n_ltg, n_leg, n_gg, n_ge0, n_add, n_mul, n_rem, n_shl1, n_and, n_or, n_bit, n_not, n_not', n_B1, n_B0, n_BB, obind, xite_T, xite_F, xite_not, xite_same, oI_s, oI_n, Bool.false_eq_true, reduceCtorEq, eq_self, Classical.not_not, bI_T, bI_Fa, bI_0, bI_n0, bI_x, xb_0, xb_1, xite_bI, xite_bI', not_true_eq_false, not_false_eq_true, Nat.zero_add, Nat.add_zero, Nat.mul_zero, Nat.mul_one, Nat.one_mul, reduceIte, Nat.reduceEqDiff, Nat.reduceAdd, Nat.reduceMul, Nat.reduceSub, Nat.reduceLT, Nat.reduceLeDiff, Nat.reducePow, ite_true, ite_false, if_true, if_false, and_true, true_and, false_and, and_false, or_false, false_or, true_or, or_true, ne_eq, hk]
theorem M55 (d : Nat) (σ : xS) {e k : Nat} {x : mSh} (h : mShl σ e x) (he : e < 8) (hk : k < 100) : run (d + 1) (xentry 55 [.inr (.inr (17, (some 0))), .inl (nI e), .inl (nI k)] σ) = some ((x.2.2.2.2.2 k, 0, none), σ) := by
  obtain ⟨e1, e2, e3, e4, e5, e6⟩ := h
  rw [B55_0]
  simp (disch := omega) only [n_cl, n_lt, n_le, n_eq, n_lt0, n_0lt, n_le0, n_eq0, n_gneq, n_ngeq, n_ng0, n_nglt, n_glt, n_gle, n_ltg, n_leg, n_gg, n_ge0, n_add, n_mul, n_rem, n_shl1, n_and, n_or, n_bit, n_not, n_not', n_B1, n_B0, n_BB, obind, xite_T, xite_F, xite_not, xite_same, oI_s, oI_n, Bool.false_eq_true, reduceCtorEq, eq_self, Classical.not_not, bI_T, bI_Fa, bI_0, bI_n0, bI_x, xb_0, xb_1, xite_bI, xite_bI', not_true_eq_false, not_false_eq_true, Nat.zero_add, Nat.add_zero, Nat.mul_zero, Nat.mul_one, Nat.one_mul, reduceIte, Nat.reduceEqDiff, Nat.reduceAdd, Nat.reduceMul, Nat.reduceSub, Nat.reduceLT, Nat.reduceLeDiff, Nat.reducePow, ite_true, ite_false, if_true, if_false, and_true, true_and, false_and, and_false, or_false, false_or, true_or, or_true, ne_eq, xite_t, xite_f, e6 k hk]
/-- a row of carriages that can be told -/
def okC (X : mX) (x : mSh) : Prop := ∃ N, N ≤ 5 ∧ x.2.2.2.2.1 = 4 * N ∧ ∀ k, k < N → asked X (x.2.2.2.2.2 (4 * k)) (x.2.2.2.2.2 (4 * k + 1)) (x.2.2.2.2.2 (4 * k + 2)) (x.2.2.2.2.2 (4 * k + 3))
def akd (X : mX) (x : mSh) (k N : Nat) : Prop := ∀ j, k ≤ j → j < N → asked X (x.2.2.2.2.2 (4 * j)) (x.2.2.2.2.2 (4 * j + 1)) (x.2.2.2.2.2 (4 * j + 2)) (x.2.2.2.2.2 (4 * j + 3))
theorem C173_l (d : Nat) (σ : xS) {e N : Nat} {x : mSh} {X : mX} (h : CL σ 0 X) (hs : cSh σ e x) (hN : N ≤ 5) (hz : x.2.2.2.2.1 = 4 * N) : ∀ m k, k + m = N → run (d + 5) (173, 57, [some (.inr (.inr (0, (some 0)))), none, none, none, some (.inr (.inr (14, (some e)))), some (.inl (nI (4 * k)))], [], σ) = some ((xite (akd X x k N) (nI 0) (-nI 13), 0, none), σ) := by
  intro m
  have h5 := hs.2.2.2.2.1
  induction m with
  | zero =>
    intro k hk
    rw [B173_57, xite_t (p := akd X x k N) (fun j h1 h2 => by omega), h5, hz]
    simp (disch := omega) only [n_cl, n_lt, n_le, n_eq, n_lt0, n_0lt, n_le0, n_eq0, n_gneq, n_ngeq, n_ng0, n_nglt, n_glt, n_gle, n_ltg, n_leg, n_gg, n_ge0, n_add, n_mul, n_rem, n_shl1, n_and, n_or, n_bit, n_not, n_not', n_B1, n_B0, n_BB, obind, xite_T, xite_F, xite_not, xite_same, oI_s, oI_n, Bool.false_eq_true, reduceCtorEq, eq_self, Classical.not_not, bI_T, bI_Fa, bI_0, bI_n0, bI_x, xb_0, xb_1, xite_bI, xite_bI', not_true_eq_false, not_false_eq_true, Nat.zero_add, Nat.add_zero, Nat.mul_zero, Nat.mul_one, Nat.one_mul, reduceIte, Nat.reduceEqDiff, Nat.reduceAdd, Nat.reduceMul, Nat.reduceSub, Nat.reduceLT, Nat.reduceLeDiff, Nat.reducePow, ite_true, ite_false, if_true, if_false, and_true, true_and, false_and, and_false, or_false, false_or, true_or, or_true, ne_eq, xite_t, xite_f, ]
  | succ m ih =>
    intro k hk
    have e1 := C126 (d + 2) σ hs (show 4 * k < x.2.2.2.2.1 by omega)
    have e2 := C126 (d + 2) σ hs (show 4 * k + 1 < x.2.2.2.2.1 by omega)
    have e3 := C126 (d + 2) σ hs (show 4 * k + 2 < x.2.2.2.2.1 by omega)
    have e4 := C126 (d + 2) σ hs (show 4 * k + 3 < x.2.2.2.2.1 by omega)
    have e := ih (k + 1) (by omega)
    rw [show 4 * (k + 1) = 4 * k + 4 by omega] at e
    rw [B173_57, h5, hz]
    simp (disch := omega) only [n_cl, n_lt, n_le, n_eq, n_lt0, n_0lt, n_le0, n_eq0, n_gneq, n_ngeq, n_ng0, n_nglt, n_glt, n_gle, n_ltg, n_leg, n_gg, n_ge0, n_add, n_mul, n_rem, n_shl1, n_and, n_or, n_bit, n_not, n_not', n_B1, n_B0, n_BB, obind, xite_T, xite_F, xite_not, xite_same, oI_s, oI_n, Bool.false_eq_true, reduceCtorEq, eq_self, Classical.not_not, bI_T, bI_Fa, bI_0, bI_n0, bI_x, xb_0, xb_1, xite_bI, xite_bI', not_true_eq_false, not_false_eq_true, Nat.zero_add, Nat.add_zero, Nat.mul_zero, Nat.mul_one, Nat.one_mul, reduceIte, Nat.reduceEqDiff, Nat.reduceAdd, Nat.reduceMul, Nat.reduceSub, Nat.reduceLT, Nat.reduceLeDiff, Nat.reducePow, ite_true, ite_false, if_true, if_false, and_true, true_and, false_and, and_false, or_false, false_or, true_or, or_true, ne_eq, xite_t, xite_f, e1, e2, e3, e4, C170 _ _ _ _ _ _ _ h]
    by_cases ha : asked X (x.2.2.2.2.2 (4 * k)) (x.2.2.2.2.2 (4 * k + 1)) (x.2.2.2.2.2 (4 * k + 2)) (x.2.2.2.2.2 (4 * k + 3))
    · rw [xite_t ha]
      refine e.trans ?_
      congr 4
      exact propext ⟨fun q j h1 h2 => by
        by_cases ej : j = k
        · rw [ej]; exact ha
        · exact q j (by omega) h2, fun q j h1 h2 => q j (by omega) h2⟩
    · rw [xite_f ha, xite_f (p := akd X x k N) (fun q => ha (q k (Nat.le_refl _) (by omega)))]
theorem M54_l (d : Nat) (σ : xS) {e N n : Nat} {x : mSh} {X : mX} (h : ML (rI σ 18 0) n X) (hs : mShl σ e x) (he : e < 8) (hN : N ≤ 5) (hz : x.2.2.2.2.1 = 4 * N) : ∀ m k, k + m = N → run (d + 5) (54, 40, [some (.inr (.inr (17, (some 0)))), some (.inl (nI (e))), none, some (.inl (nI (4 * k)))], [], σ) = some ((xite (akd X x k N) (nI 0) (-nI 13), 0, none), σ) := by
  intro m
  have h5 := hs.2.2.2.2.1
  induction m with
  | zero =>
    intro k hk
    rw [B54_40, xite_t (p := akd X x k N) (fun j h1 h2 => by omega)]
    simp (disch := omega) only [n_cl, n_lt, n_le, n_eq, n_lt0, n_0lt, n_le0, n_eq0, n_gneq, n_ngeq, n_ng0, n_nglt, n_glt, n_gle, n_ltg, n_leg, n_gg, n_ge0, n_add, n_mul, n_rem, n_shl1, n_and, n_or, n_bit, n_not, n_not', n_B1, n_B0, n_BB, obind, xite_T, xite_F, xite_not, xite_same, oI_s, oI_n, Bool.false_eq_true, reduceCtorEq, eq_self, Classical.not_not, bI_T, bI_Fa, bI_0, bI_n0, bI_x, xb_0, xb_1, xite_bI, xite_bI', not_true_eq_false, not_false_eq_true, Nat.zero_add, Nat.add_zero, Nat.mul_zero, Nat.mul_one, Nat.one_mul, reduceIte, Nat.reduceEqDiff, Nat.reduceAdd, Nat.reduceMul, Nat.reduceSub, Nat.reduceLT, Nat.reduceLeDiff, Nat.reducePow, ite_true, ite_false, if_true, if_false, and_true, true_and, false_and, and_false, or_false, false_or, true_or, or_true, ne_eq, xite_t, xite_f, h5, hz]
  | succ m ih =>
    intro k hk
    have e := ih (k + 1) (by omega)
    rw [show 4 * (k + 1) = 4 * k + 4 by omega] at e
    rw [B54_40]
    simp (disch := omega) only [n_cl, n_lt, n_le, n_eq, n_lt0, n_0lt, n_le0, n_eq0, n_gneq, n_ngeq, n_ng0, n_nglt, n_glt, n_gle, n_ltg, n_leg, n_gg, n_ge0, n_add, n_mul, n_rem, n_shl1, n_and, n_or, n_bit, n_not, n_not', n_B1, n_B0, n_BB, obind, xite_T, xite_F, xite_not, xite_same, oI_s, oI_n, Bool.false_eq_true, reduceCtorEq, eq_self, Classical.not_not, bI_T, bI_Fa, bI_0, bI_n0, bI_x, xb_0, xb_1, xite_bI, xite_bI', not_true_eq_false, not_false_eq_true, Nat.zero_add, Nat.add_zero, Nat.mul_zero, Nat.mul_one, Nat.one_mul, reduceIte, Nat.reduceEqDiff, Nat.reduceAdd, Nat.reduceMul, Nat.reduceSub, Nat.reduceLT, Nat.reduceLeDiff, Nat.reducePow, ite_true, ite_false, if_true, if_false, and_true, true_and, false_and, and_false, or_false, false_or, true_or, or_true, ne_eq, xite_t, xite_f, h5, hz, M55 _ _ hs he, M36 _ _ _ _ _ _ h]
    by_cases ha : asked X (x.2.2.2.2.2 (4 * k)) (x.2.2.2.2.2 (4 * k + 1)) (x.2.2.2.2.2 (4 * k + 2)) (x.2.2.2.2.2 (4 * k + 3))
    · rw [xite_t ha]
      refine e.trans ?_
      congr 4
      exact propext ⟨fun q j h1 h2 => by
        by_cases ej : j = k
        · rw [ej]; exact ha
        · exact q j (by omega) h2, fun q j h1 h2 => q j (by omega) h2⟩
    · rw [xite_f ha, xite_f (p := akd X x k N) (fun q => ha (q k (Nat.le_refl _) (by omega)))]
noncomputable def cgI (X : mX) (x : mSh) : Int32 := xite (x.1 = 2 ∧ x.2.2.2.1 = 0) (xite (okC X x) (nI 0) (-nI 13)) (rrI x True)
theorem cgI_0 {X : mX} {x : mSh} : (cgI X x = 0) = (x.1 = 2 ∧ x.2.2.2.1 = 0 ∧ okC X x) := by
  unfold cgI
  by_cases h : x.1 = 2 ∧ x.2.2.2.1 = 0
  · rw [xite_t h]
    by_cases h2 : okC X x
    · rw [xite_t h2, n_0]
      exact (eq_true rfl).trans (eq_true ⟨h.1, h.2, h2⟩).symm
    · rw [xite_f h2, n_ng0 (by omega) (by omega)]
      exact (eq_false (fun q => h2 q.2.2)).symm
  · rw [xite_f h, rrI_0]
    exact propext ⟨fun q => absurd ⟨q.1, q.2 trivial⟩ h, fun q => absurd ⟨q.1, q.2.1⟩ h⟩
theorem okC_1 {X : mX} {x : mSh} (h : ¬ (x.2.2.2.2.1 % 4 = 0 ∧ x.2.2.2.2.1 ≤ 20)) : ¬ okC X x := fun ⟨N, h1, h2, _⟩ => h (by omega)
theorem C173 (d : Nat) (σ : xS) {e : Nat} {w : Int32} {x : mSh} {X : mX} (h : CL σ 0 X) (hs : cSh σ e x) (he : e < 8) (hw : inb w 2) : run (d + 6) (xentry 173 [.inr (.inr (0, (some 0))), .inl (nI e), .inl w] σ) = some ((cgI X x, 0, none), σ) := by
  have h5 := hs.2.2.2.2.1
  have hz := hs.1.2.2.2
  have e171 := C171 (d + 3) σ (b := 1) hs he (by omega)
  rw [show (1 = 1) = True from eq_self 1] at e171
  rw [B173_0, C166 _ _ _ (by omega)]
  simp (disch := omega) only [n_cl, n_lt, n_le, n_eq, n_lt0, n_0lt, n_le0, n_eq0, n_gneq, n_ngeq, n_ng0, n_nglt, n_glt, n_gle, n_ltg, n_leg, n_gg, n_ge0, n_add, n_mul, n_rem, n_shl1, n_and, n_or, n_bit, n_not, n_not', n_B1, n_B0, n_BB, obind, xite_T, xite_F, xite_not, xite_same, oI_s, oI_n, Bool.false_eq_true, reduceCtorEq, eq_self, Classical.not_not, bI_T, bI_Fa, bI_0, bI_n0, bI_x, xb_0, xb_1, xite_bI, xite_bI', not_true_eq_false, not_false_eq_true, Nat.zero_add, Nat.add_zero, Nat.mul_zero, Nat.mul_one, Nat.one_mul, reduceIte, Nat.reduceEqDiff, Nat.reduceAdd, Nat.reduceMul, Nat.reduceSub, Nat.reduceLT, Nat.reduceLeDiff, Nat.reducePow, ite_true, ite_false, if_true, if_false, and_true, true_and, false_and, and_false, or_false, false_or, true_or, or_true, ne_eq, xite_t, xite_f, hw, e171, rrI_0]
  unfold cgI
  by_cases h1 : x.1 = 2 ∧ x.2.2.2.1 = 0
  · rw [xite_t (show x.1 = 2 ∧ (True → x.2.2.2.1 = 0) from ⟨h1.1, fun _ => h1.2⟩), xite_t h1]
    simp (disch := omega) only [n_cl, n_lt, n_le, n_eq, n_lt0, n_0lt, n_le0, n_eq0, n_gneq, n_ngeq, n_ng0, n_nglt, n_glt, n_gle, n_ltg, n_leg, n_gg, n_ge0, n_add, n_mul, n_rem, n_shl1, n_and, n_or, n_bit, n_not, n_not', n_B1, n_B0, n_BB, obind, xite_T, xite_F, xite_not, xite_same, oI_s, oI_n, Bool.false_eq_true, reduceCtorEq, eq_self, Classical.not_not, bI_T, bI_Fa, bI_0, bI_n0, bI_x, xb_0, xb_1, xite_bI, xite_bI', not_true_eq_false, not_false_eq_true, Nat.zero_add, Nat.add_zero, Nat.mul_zero, Nat.mul_one, Nat.one_mul, reduceIte, Nat.reduceEqDiff, Nat.reduceAdd, Nat.reduceMul, Nat.reduceSub, Nat.reduceLT, Nat.reduceLeDiff, Nat.reducePow, ite_true, ite_false, if_true, if_false, and_true, true_and, false_and, and_false, or_false, false_or, true_or, or_true, ne_eq, xite_t, xite_f, h5]
    by_cases h2 : x.2.2.2.2.1 % 4 = 0 ∧ x.2.2.2.2.1 ≤ 20
    · obtain ⟨h2a, h2b⟩ := h2
      have hl : run (d + 5 + 1) (173, 57, [some (.inr (.inr (0, (some 0)))), none, none, none, some (.inr (.inr (14, (some e)))), some (.inl (nI (0)))], [], σ) = _ := C173_l (d + 1) σ (N := x.2.2.2.2.1 / 4) h hs (by omega) (by omega) (x.2.2.2.2.1 / 4) 0 (by omega)
      simp (disch := omega) only [n_cl, n_lt, n_le, n_eq, n_lt0, n_0lt, n_le0, n_eq0, n_gneq, n_ngeq, n_ng0, n_nglt, n_glt, n_gle, n_ltg, n_leg, n_gg, n_ge0, n_add, n_mul, n_rem, n_shl1, n_and, n_or, n_bit, n_not, n_not', n_B1, n_B0, n_BB, obind, xite_T, xite_F, xite_not, xite_same, oI_s, oI_n, Bool.false_eq_true, reduceCtorEq, eq_self, Classical.not_not, bI_T, bI_Fa, bI_0, bI_n0, bI_x, xb_0, xb_1, xite_bI, xite_bI', not_true_eq_false, not_false_eq_true, Nat.zero_add, Nat.add_zero, Nat.mul_zero, Nat.mul_one, Nat.one_mul, reduceIte, Nat.reduceEqDiff, Nat.reduceAdd, Nat.reduceMul, Nat.reduceSub, Nat.reduceLT, Nat.reduceLeDiff, Nat.reducePow, ite_true, ite_false, if_true, if_false, and_true, true_and, false_and, and_false, or_false, false_or, true_or, or_true, ne_eq, xite_t, xite_f, h2a, h2b]
      rw [hl]
      congr 4
      exact propext ⟨fun q => ⟨x.2.2.2.2.1 / 4, by omega, by omega, fun k hk => q k (by omega) hk⟩, fun ⟨N, q1, q2, q3⟩ j _ hj => q3 j (by omega)⟩
    · rw [xite_f (okC_1 h2)]
      by_cases h2a : x.2.2.2.2.1 % 4 = 0
      · simp (disch := omega) only [n_cl, n_lt, n_le, n_eq, n_lt0, n_0lt, n_le0, n_eq0, n_gneq, n_ngeq, n_ng0, n_nglt, n_glt, n_gle, n_ltg, n_leg, n_gg, n_ge0, n_add, n_mul, n_rem, n_shl1, n_and, n_or, n_bit, n_not, n_not', n_B1, n_B0, n_BB, obind, xite_T, xite_F, xite_not, xite_same, oI_s, oI_n, Bool.false_eq_true, reduceCtorEq, eq_self, Classical.not_not, bI_T, bI_Fa, bI_0, bI_n0, bI_x, xb_0, xb_1, xite_bI, xite_bI', not_true_eq_false, not_false_eq_true, Nat.zero_add, Nat.add_zero, Nat.mul_zero, Nat.mul_one, Nat.one_mul, reduceIte, Nat.reduceEqDiff, Nat.reduceAdd, Nat.reduceMul, Nat.reduceSub, Nat.reduceLT, Nat.reduceLeDiff, Nat.reducePow, ite_true, ite_false, if_true, if_false, and_true, true_and, false_and, and_false, or_false, false_or, true_or, or_true, ne_eq, xite_t, xite_f, h2a]
      · simp (disch := omega) only [n_cl, n_lt, n_le, n_eq, n_lt0, n_0lt, n_le0, n_eq0, n_gneq, n_ngeq, n_ng0, n_nglt, n_glt, n_gle, n_ltg, n_leg, n_gg, n_ge0, n_add, n_mul, n_rem, n_shl1, n_and, n_or, n_bit, n_not, n_not', n_B1, n_B0, n_BB, obind, xite_T, xite_F, xite_not, xite_same, oI_s, oI_n, Bool.false_eq_true, reduceCtorEq, eq_self, Classical.not_not, bI_T, bI_Fa, bI_0, bI_n0, bI_x, xb_0, xb_1, xite_bI, xite_bI', not_true_eq_false, not_false_eq_true, Nat.zero_add, Nat.add_zero, Nat.mul_zero, Nat.mul_one, Nat.one_mul, reduceIte, Nat.reduceEqDiff, Nat.reduceAdd, Nat.reduceMul, Nat.reduceSub, Nat.reduceLT, Nat.reduceLeDiff, Nat.reducePow, ite_true, ite_false, if_true, if_false, and_true, true_and, false_and, and_false, or_false, false_or, true_or, or_true, ne_eq, xite_t, xite_f, h2a]
  · rw [xite_f (show ¬ (x.1 = 2 ∧ (True → x.2.2.2.1 = 0)) from fun q => h1 ⟨q.1, q.2 trivial⟩), xite_f h1]
theorem M57 (d : Nat) (σ : xS) {e n : Nat} {w : Int32} {x : mSh} {X : mX} (h : ML (rI σ 18 0) n X) (hs : mShl σ e x) (he : e < 8) (hw : inb w 2) : run (d + 7) (xentry 57 [.inr (.inr (17, (some 0))), .inl (nI e), .inl w] σ) = some ((cgI X x, 0, none), σ) := by
  have h5 := hs.2.2.2.2.1
  have hz := hs.1.2.2.2
  have e29 := M29 (d + 2) σ (w := nI 0) (p := True) hs he (Or.inl ⟨trivial, rfl⟩)
  rw [B57_0, M2]
  simp (disch := omega) only [n_cl, n_lt, n_le, n_eq, n_lt0, n_0lt, n_le0, n_eq0, n_gneq, n_ngeq, n_ng0, n_nglt, n_glt, n_gle, n_ltg, n_leg, n_gg, n_ge0, n_add, n_mul, n_rem, n_shl1, n_and, n_or, n_bit, n_not, n_not', n_B1, n_B0, n_BB, obind, xite_T, xite_F, xite_not, xite_same, oI_s, oI_n, Bool.false_eq_true, reduceCtorEq, eq_self, Classical.not_not, bI_T, bI_Fa, bI_0, bI_n0, bI_x, xb_0, xb_1, xite_bI, xite_bI', not_true_eq_false, not_false_eq_true, Nat.zero_add, Nat.add_zero, Nat.mul_zero, Nat.mul_one, Nat.one_mul, reduceIte, Nat.reduceEqDiff, Nat.reduceAdd, Nat.reduceMul, Nat.reduceSub, Nat.reduceLT, Nat.reduceLeDiff, Nat.reducePow, ite_true, ite_false, if_true, if_false, and_true, true_and, false_and, and_false, or_false, false_or, true_or, or_true, ne_eq, xite_t, xite_f, inb_nI, he, M1c, hw]
  rw [B54_0, e29]
  simp (disch := omega) only [n_cl, n_lt, n_le, n_eq, n_lt0, n_0lt, n_le0, n_eq0, n_gneq, n_ngeq, n_ng0, n_nglt, n_glt, n_gle, n_ltg, n_leg, n_gg, n_ge0, n_add, n_mul, n_rem, n_shl1, n_and, n_or, n_bit, n_not, n_not', n_B1, n_B0, n_BB, obind, xite_T, xite_F, xite_not, xite_same, oI_s, oI_n, Bool.false_eq_true, reduceCtorEq, eq_self, Classical.not_not, bI_T, bI_Fa, bI_0, bI_n0, bI_x, xb_0, xb_1, xite_bI, xite_bI', not_true_eq_false, not_false_eq_true, Nat.zero_add, Nat.add_zero, Nat.mul_zero, Nat.mul_one, Nat.one_mul, reduceIte, Nat.reduceEqDiff, Nat.reduceAdd, Nat.reduceMul, Nat.reduceSub, Nat.reduceLT, Nat.reduceLeDiff, Nat.reducePow, ite_true, ite_false, if_true, if_false, and_true, true_and, false_and, and_false, or_false, false_or, true_or, or_true, ne_eq, xite_t, xite_f, rrI_0]
  unfold cgI
  by_cases h1 : x.1 = 2 ∧ x.2.2.2.1 = 0
  · rw [xite_t (show x.1 = 2 ∧ (True → x.2.2.2.1 = 0) from ⟨h1.1, fun _ => h1.2⟩), xite_t h1]
    simp (disch := omega) only [n_cl, n_lt, n_le, n_eq, n_lt0, n_0lt, n_le0, n_eq0, n_gneq, n_ngeq, n_ng0, n_nglt, n_glt, n_gle, n_ltg, n_leg, n_gg, n_ge0, n_add, n_mul, n_rem, n_shl1, n_and, n_or, n_bit, n_not, n_not', n_B1, n_B0, n_BB, obind, xite_T, xite_F, xite_not, xite_same, oI_s, oI_n, Bool.false_eq_true, reduceCtorEq, eq_self, Classical.not_not, bI_T, bI_Fa, bI_0, bI_n0, bI_x, xb_0, xb_1, xite_bI, xite_bI', not_true_eq_false, not_false_eq_true, Nat.zero_add, Nat.add_zero, Nat.mul_zero, Nat.mul_one, Nat.one_mul, reduceIte, Nat.reduceEqDiff, Nat.reduceAdd, Nat.reduceMul, Nat.reduceSub, Nat.reduceLT, Nat.reduceLeDiff, Nat.reducePow, ite_true, ite_false, if_true, if_false, and_true, true_and, false_and, and_false, or_false, false_or, true_or, or_true, ne_eq, xite_t, xite_f, h5]
    by_cases h2 : x.2.2.2.2.1 % 4 = 0 ∧ x.2.2.2.2.1 ≤ 20
    · obtain ⟨h2a, h2b⟩ := h2
      have hl : run (d + 5 + 1) (54, 40, [some (.inr (.inr (17, (some 0)))), some (.inl (nI (e))), none, some (.inl (nI (0)))], [], σ) = _ := M54_l (d + 1) σ (N := x.2.2.2.2.1 / 4) h hs he (by omega) (by omega) (x.2.2.2.2.1 / 4) 0 (by omega)
      simp (disch := omega) only [n_cl, n_lt, n_le, n_eq, n_lt0, n_0lt, n_le0, n_eq0, n_gneq, n_ngeq, n_ng0, n_nglt, n_glt, n_gle, n_ltg, n_leg, n_gg, n_ge0, n_add, n_mul, n_rem, n_shl1, n_and, n_or, n_bit, n_not, n_not', n_B1, n_B0, n_BB, obind, xite_T, xite_F, xite_not, xite_same, oI_s, oI_n, Bool.false_eq_true, reduceCtorEq, eq_self, Classical.not_not, bI_T, bI_Fa, bI_0, bI_n0, bI_x, xb_0, xb_1, xite_bI, xite_bI', not_true_eq_false, not_false_eq_true, Nat.zero_add, Nat.add_zero, Nat.mul_zero, Nat.mul_one, Nat.one_mul, reduceIte, Nat.reduceEqDiff, Nat.reduceAdd, Nat.reduceMul, Nat.reduceSub, Nat.reduceLT, Nat.reduceLeDiff, Nat.reducePow, ite_true, ite_false, if_true, if_false, and_true, true_and, false_and, and_false, or_false, false_or, true_or, or_true, ne_eq, xite_t, xite_f, h2a, h2b]
      rw [hl]
      simp (disch := omega) only [n_cl, n_lt, n_le, n_eq, n_lt0, n_0lt, n_le0, n_eq0, n_gneq, n_ngeq, n_ng0, n_nglt, n_glt, n_gle, n_ltg, n_leg, n_gg, n_ge0, n_add, n_mul, n_rem, n_shl1, n_and, n_or, n_bit, n_not, n_not', n_B1, n_B0, n_BB, obind, xite_T, xite_F, xite_not, xite_same, oI_s, oI_n, Bool.false_eq_true, reduceCtorEq, eq_self, Classical.not_not, bI_T, bI_Fa, bI_0, bI_n0, bI_x, xb_0, xb_1, xite_bI, xite_bI', not_true_eq_false, not_false_eq_true, Nat.zero_add, Nat.add_zero, Nat.mul_zero, Nat.mul_one, Nat.one_mul, reduceIte, Nat.reduceEqDiff, Nat.reduceAdd, Nat.reduceMul, Nat.reduceSub, Nat.reduceLT, Nat.reduceLeDiff, Nat.reducePow, ite_true, ite_false, if_true, if_false, and_true, true_and, false_and, and_false, or_false, false_or, true_or, or_true, ne_eq, ]
      congr 4
      exact propext ⟨fun q => ⟨x.2.2.2.2.1 / 4, by omega, by omega, fun k hk => q k (by omega) hk⟩, fun ⟨N, q1, q2, q3⟩ j _ hj => q3 j (by omega)⟩
    · rw [xite_f (okC_1 h2)]
      by_cases h2a : x.2.2.2.2.1 % 4 = 0
      · simp (disch := omega) only [n_cl, n_lt, n_le, n_eq, n_lt0, n_0lt, n_le0, n_eq0, n_gneq, n_ngeq, n_ng0, n_nglt, n_glt, n_gle, n_ltg, n_leg, n_gg, n_ge0, n_add, n_mul, n_rem, n_shl1, n_and, n_or, n_bit, n_not, n_not', n_B1, n_B0, n_BB, obind, xite_T, xite_F, xite_not, xite_same, oI_s, oI_n, Bool.false_eq_true, reduceCtorEq, eq_self, Classical.not_not, bI_T, bI_Fa, bI_0, bI_n0, bI_x, xb_0, xb_1, xite_bI, xite_bI', not_true_eq_false, not_false_eq_true, Nat.zero_add, Nat.add_zero, Nat.mul_zero, Nat.mul_one, Nat.one_mul, reduceIte, Nat.reduceEqDiff, Nat.reduceAdd, Nat.reduceMul, Nat.reduceSub, Nat.reduceLT, Nat.reduceLeDiff, Nat.reducePow, ite_true, ite_false, if_true, if_false, and_true, true_and, false_and, and_false, or_false, false_or, true_or, or_true, ne_eq, xite_t, xite_f, h2a]
      · simp (disch := omega) only [n_cl, n_lt, n_le, n_eq, n_lt0, n_0lt, n_le0, n_eq0, n_gneq, n_ngeq, n_ng0, n_nglt, n_glt, n_gle, n_ltg, n_leg, n_gg, n_ge0, n_add, n_mul, n_rem, n_shl1, n_and, n_or, n_bit, n_not, n_not', n_B1, n_B0, n_BB, obind, xite_T, xite_F, xite_not, xite_same, oI_s, oI_n, Bool.false_eq_true, reduceCtorEq, eq_self, Classical.not_not, bI_T, bI_Fa, bI_0, bI_n0, bI_x, xb_0, xb_1, xite_bI, xite_bI', not_true_eq_false, not_false_eq_true, Nat.zero_add, Nat.add_zero, Nat.mul_zero, Nat.mul_one, Nat.one_mul, reduceIte, Nat.reduceEqDiff, Nat.reduceAdd, Nat.reduceMul, Nat.reduceSub, Nat.reduceLT, Nat.reduceLeDiff, Nat.reducePow, ite_true, ite_false, if_true, if_false, and_true, true_and, false_and, and_false, or_false, false_or, true_or, or_true, ne_eq, xite_t, xite_f, h2a]
  · rw [xite_f (show ¬ (x.1 = 2 ∧ (True → x.2.2.2.1 = 0)) from fun q => h1 ⟨q.1, q.2 trivial⟩), xite_f h1]
    simp (disch := omega) only [n_cl, n_lt, n_le, n_eq, n_lt0, n_0lt, n_le0, n_eq0, n_gneq, n_ngeq, n_ng0, n_nglt, n_glt, n_gle, n_ltg, n_leg, n_gg, n_ge0, n_add, n_mul, n_rem, n_shl1, n_and, n_or, n_bit, n_not, n_not', n_B1, n_B0, n_BB, obind, xite_T, xite_F, xite_not, xite_same, oI_s, oI_n, Bool.false_eq_true, reduceCtorEq, eq_self, Classical.not_not, bI_T, bI_Fa, bI_0, bI_n0, bI_x, xb_0, xb_1, xite_bI, xite_bI', not_true_eq_false, not_false_eq_true, Nat.zero_add, Nat.add_zero, Nat.mul_zero, Nat.mul_one, Nat.one_mul, reduceIte, Nat.reduceEqDiff, Nat.reduceAdd, Nat.reduceMul, Nat.reduceSub, Nat.reduceLT, Nat.reduceLeDiff, Nat.reducePow, ite_true, ite_false, if_true, if_false, and_true, true_and, false_and, and_false, or_false, false_or, true_or, or_true, ne_eq, ]
/-- the k-th carriage of a row -/
def cu (x : mSh) (j : Nat) : Nat := (x.2.2.2.2.2 j).toNatClampNeg
def tC (X : mX) (x : mSh) (k : Nat) : mW := tW X (xaK X (cu x (4 * k))) (xaG X (cu x (4 * k))) (cu x (4 * k + 1)) (cu x (4 * k + 2)) (cu x (4 * k + 3))
/-- a carriage as asked in the land X0 -/
def akC (X0 : mX) (x : mSh) (k : Nat) : Prop := x.2.2.2.2.2 (4 * k) = nI (cu x (4 * k)) ∧ x.2.2.2.2.2 (4 * k + 1) = nI (cu x (4 * k + 1)) ∧ x.2.2.2.2.2 (4 * k + 2) = nI (cu x (4 * k + 2)) ∧ x.2.2.2.2.2 (4 * k + 3) = nI (cu x (4 * k + 3)) ∧ cu x (4 * k) < xaC X0 ∧ cu x (4 * k + 1) < 4 ∧ cu x (4 * k + 2) < 6 ∧ cu x (4 * k + 3) < 6 ∧ ¬ cu x (4 * k + 2) = cu x (4 * k + 3)
theorem akC_of {X : mX} {x : mSh} {k : Nat} (hX : WX (xaR X) X) (h : asked X (x.2.2.2.2.2 (4 * k)) (x.2.2.2.2.2 (4 * k + 1)) (x.2.2.2.2.2 (4 * k + 2)) (x.2.2.2.2.2 (4 * k + 3))) : akC X x k := by
  obtain ⟨c, g, a, b, e1, e2, e3, e4, h1, h2, h3, h4, h5⟩ := asked_of hX h
  have hC6 := hX.2.2.2.1
  have u1 : cu x (4 * k) = c := by unfold cu; rw [e1, n_cl (by omega)]
  have u2 : cu x (4 * k + 1) = g := by unfold cu; rw [e2, n_cl (by omega)]
  have u3 : cu x (4 * k + 2) = a := by unfold cu; rw [e3, n_cl (by omega)]
  have u4 : cu x (4 * k + 3) = b := by unfold cu; rw [e4, n_cl (by omega)]
  unfold akC
  rw [u1, u2, u3, u4]
  exact ⟨e1, e2, e3, e4, h1, h2, h3, h4, h5⟩
theorem C175 (d : Nat) (σ : xS) {e k N : Nat} {x : mSh} {X X0 : mX} (h : CL σ 1 X) (hs : cSh σ e x) (hC : xaC X = xaC X0) (hz : x.2.2.2.2.1 = 4 * N) (hk : k < N) (hN : N ≤ 5) (ha : akC X0 x k) :
    ∃ σ', run (d + 11) (xentry 175 [.inr (.inr (0, (some 0))), .inr (.inr (14, (some e))), .inl (nI k)] σ) = some ((mW_I X (tC X x k), 0, none), σ') ∧ CL σ' 1 (gX X (tC X x k)) ∧ xF Smi σ σ' ∧ rI σ' 0 0 8 = rI σ 0 0 8 := by
  obtain ⟨a1, a2, a3, a4, a5, a6, a7, a8, a9⟩ := ha
  obtain ⟨σ', f1, f2, f3⟩ := C174 d σ h (show cu x (4 * k) < xaC X by omega) a6 a7 a8 a9
  refine ⟨σ', ?_, f2, xF_le f3 S174_m, f3.1 0 0 8 (by unfold S174; omega)⟩
  have e1 := C126 (d + 8) σ hs (show 4 * k < x.2.2.2.2.1 by omega)
  have e2 := C126 (d + 8) σ hs (show 4 * k + 1 < x.2.2.2.2.1 by omega)
  have e3 := C126 (d + 8) σ hs (show 4 * k + 2 < x.2.2.2.2.1 by omega)
  have e4 := C126 (d + 8) σ hs (show 4 * k + 3 < x.2.2.2.2.1 by omega)
  rw [B175_0]
  simp (disch := omega) only [n_cl, n_lt, n_le, n_eq, n_lt0, n_0lt, n_le0, n_eq0, n_gneq, n_ngeq, n_ng0, n_nglt, n_glt, n_gle, n_ltg, n_leg, n_gg, n_ge0, n_add, n_mul, n_rem, n_shl1, n_and, n_or, n_bit, n_not, n_not', n_B1, n_B0, n_BB, obind, xite_T, xite_F, xite_not, xite_same, oI_s, oI_n, Bool.false_eq_true, reduceCtorEq, eq_self, Classical.not_not, bI_T, bI_Fa, bI_0, bI_n0, bI_x, xb_0, xb_1, xite_bI, xite_bI', not_true_eq_false, not_false_eq_true, Nat.zero_add, Nat.add_zero, Nat.mul_zero, Nat.mul_one, Nat.one_mul, reduceIte, Nat.reduceEqDiff, Nat.reduceAdd, Nat.reduceMul, Nat.reduceSub, Nat.reduceLT, Nat.reduceLeDiff, Nat.reducePow, ite_true, ite_false, if_true, if_false, and_true, true_and, false_and, and_false, or_false, false_or, true_or, or_true, ne_eq, xite_t, xite_f, e1, e2, e3, e4, a1, a2, a3, a4, f1]
  rfl
theorem M56 (d : Nat) (σ : xS) {e k N n : Nat} {x : mSh} {X X0 : mX} (h : ML (rI σ 18 0) n X) (hn : xaR X ≤ n) (hs : mShl σ e x) (he : e < 8) (hC : xaC X = xaC X0) (hk : k < N) (hN : N ≤ 5) (ha : akC X0 x k) :
    ∃ σ', run (d + 11) (xentry 56 [.inr (.inr (17, (some 0))), .inl (nI e), .inl (nI k)] σ) = some ((bI (¬ tC X x k = none), 0, none), σ') ∧ mA σ' X (tC X x k) ∧ ML (rI σ' 18 0) n (gX X (tC X x k)) ∧ xF (fun r i k => S20 r i k ∨ SM r i k) σ σ' := by
  obtain ⟨a1, a2, a3, a4, a5, a6, a7, a8, a9⟩ := ha
  obtain ⟨σ', f1, f2, f3, f4⟩ := M22 d σ h hn (show cu x (4 * k) < xaC X by omega) a6 a7 a8
  refine ⟨σ', ?_, f2, f3, f4⟩
  rw [B56_0]
  simp (disch := omega) only [n_cl, n_lt, n_le, n_eq, n_lt0, n_0lt, n_le0, n_eq0, n_gneq, n_ngeq, n_ng0, n_nglt, n_glt, n_gle, n_ltg, n_leg, n_gg, n_ge0, n_add, n_mul, n_rem, n_shl1, n_and, n_or, n_bit, n_not, n_not', n_B1, n_B0, n_BB, obind, xite_T, xite_F, xite_not, xite_same, oI_s, oI_n, Bool.false_eq_true, reduceCtorEq, eq_self, Classical.not_not, bI_T, bI_Fa, bI_0, bI_n0, bI_x, xb_0, xb_1, xite_bI, xite_bI', not_true_eq_false, not_false_eq_true, Nat.zero_add, Nat.add_zero, Nat.mul_zero, Nat.mul_one, Nat.one_mul, reduceIte, Nat.reduceEqDiff, Nat.reduceAdd, Nat.reduceMul, Nat.reduceSub, Nat.reduceLT, Nat.reduceLeDiff, Nat.reducePow, ite_true, ite_false, if_true, if_false, and_true, true_and, false_and, and_false, or_false, false_or, true_or, or_true, ne_eq, xite_t, xite_f, M55 _ _ hs he, a1, a2, a3, a4, f1]
  rfl
theorem cSh_mi {σ σ' : xS} {e : Nat} {x : mSh} (h : cSh σ e x) (k : xF Smi σ σ') : cSh σ' e x := cSh_G h (xH_F (n := 0) k (fun j k => by unfold Smi; omega)) (by unfold Smi; omega) (by unfold Smi; omega) (fun k => by unfold Smi; omega) (fun k => by unfold Smi; omega)
theorem mShl_X {σ σ' : xS} {e : Nat} {x : mSh} (h : mShl σ e x) (k : xF SmX σ σ') : mShl σ' e x := mShl_F h k (fun r hr => by unfold SmX; omega) (fun j hj => by unfold SmX; omega)
theorem tC_mil {X X0 : mX} {x : mSh} {k w n : Nat} {p : Nat → Nat × Nat} (hX : WX (xaR X) X) (ha : akC X0 x k) (h : tC X x k = some (w, n, p)) : smm X p n ≤ 54 := tW_mil hX ha.2.2.2.2.2.1 h
theorem gX_C {X : mX} {W : mW} : xaC (gX X W) = xaC X ∧ xaP (gX X W) = xaP X := by
  cases W with
  | none => exact ⟨rfl, rfl⟩
  | some t => exact ⟨rfl, rfl⟩
def rnS (x : mSh) (k : Nat) (s : mX × Nat × Nat) : mX × Nat × Nat := match tC s.1 x k with
  | none => s
  | some (w, n, p) => (gX s.1 (some (w, n, p)), s.2.1 + 1, s.2.2 + smm s.1 p n)
theorem duo_run (d : Nat) (S : mG) (hX : WX (xaR S.1) S.1) (v w : Int32) : Duo (d + 60) (fun σ => xentry 154 [.inr (.inr (0, (some 0))), .inl v, .inl w] σ) (fun σ => xentry 58 [.inr (.inr (17, (some 0))), .inl v, .inl w] σ) S := by
  by_cases hw : inb w 2
  · by_cases hv : inb v 8
    · obtain ⟨e, he, ee⟩ := inb_of hv (by omega)
      subst ee
      by_cases h0 : cgI S.1 (S.2.2 e) = 0
      · have h1 := h0
        rw [cgI_0] at h1
        obtain ⟨h2, h3, N, hN, hz, hask⟩ := h1
        have hak : ∀ k, k < N → akC S.1 (S.2.2 e) k := fun k hk => akC_of hX (hask k hk)
        have lc : ∀ m k (s : mX × Nat × Nat) σ, k + m = N → xaC s.1 = xaC S.1 → CL σ 1 s.1 → cSh σ e (S.2.2 e) → ∃ σ', run (d + 60) (154, 33, [some (.inr (.inr (0, (some 0)))), some (.inl (nI (e))), some (.inl w), none, some (.inl (nI (s.2.1))), some (.inl (nI (s.2.2))), some (.inl (nI (k))), none], [], σ) = some ((xite (w = 0) (nI (fl (rnS (S.2.2 e)) m k s).2.1) (nI (fl (rnS (S.2.2 e)) m k s).2.2), 0, none), σ') ∧ xF Smi σ σ' := by
          intro m
          induction m with
          | zero =>
            intro k s σ hk _ h hs
            have ek : k = N := by omega
            subst ek
            have h5 := hs.2.2.2.2.1
            refine ⟨σ, ?_, xF_refl σ⟩
            rw [B154_33]
            simp (disch := omega) only [n_cl, n_lt, n_le, n_eq, n_lt0, n_0lt, n_le0, n_eq0, n_gneq, n_ngeq, n_ng0, n_nglt, n_glt, n_gle, n_ltg, n_leg, n_gg, n_ge0, n_add, n_mul, n_rem, n_shl1, n_and, n_or, n_bit, n_not, n_not', n_B1, n_B0, n_BB, obind, xite_T, xite_F, xite_not, xite_same, oI_s, oI_n, Bool.false_eq_true, reduceCtorEq, eq_self, Classical.not_not, bI_T, bI_Fa, bI_0, bI_n0, bI_x, xb_0, xb_1, xite_bI, xite_bI', not_true_eq_false, not_false_eq_true, Nat.zero_add, Nat.add_zero, Nat.mul_zero, Nat.mul_one, Nat.one_mul, reduceIte, Nat.reduceEqDiff, Nat.reduceAdd, Nat.reduceMul, Nat.reduceSub, Nat.reduceLT, Nat.reduceLeDiff, Nat.reducePow, ite_true, ite_false, if_true, if_false, and_true, true_and, false_and, and_false, or_false, false_or, true_or, or_true, ne_eq, xite_t, xite_f, h5, hz, n_div]
            by_cases hw0 : w = 0
            · rw [xite_t hw0, xite_t hw0]; rfl
            · rw [xite_f hw0, xite_f hw0]; rfl
          | succ m ih =>
            intro k s σ hk hC h hs
            have h5 := hs.2.2.2.2.1
            show ∃ σ', _ = some ((xite (w = 0) (nI (fl (rnS (S.2.2 e)) m (k + 1) (rnS (S.2.2 e) k s)).2.1) (nI (fl (rnS (S.2.2 e)) m (k + 1) (rnS (S.2.2 e) k s)).2.2), 0, none), σ') ∧ _
            obtain ⟨σ1, f1, f2, f3, _⟩ := C175 (d + 48) σ h hs hC hz (show k < N by omega) hN (hak k (by omega))
            rw [B154_33]
            simp (disch := omega) only [n_cl, n_lt, n_le, n_eq, n_lt0, n_0lt, n_le0, n_eq0, n_gneq, n_ngeq, n_ng0, n_nglt, n_glt, n_gle, n_ltg, n_leg, n_gg, n_ge0, n_add, n_mul, n_rem, n_shl1, n_and, n_or, n_bit, n_not, n_not', n_B1, n_B0, n_BB, obind, xite_T, xite_F, xite_not, xite_same, oI_s, oI_n, Bool.false_eq_true, reduceCtorEq, eq_self, Classical.not_not, bI_T, bI_Fa, bI_0, bI_n0, bI_x, xb_0, xb_1, xite_bI, xite_bI', not_true_eq_false, not_false_eq_true, Nat.zero_add, Nat.add_zero, Nat.mul_zero, Nat.mul_one, Nat.one_mul, reduceIte, Nat.reduceEqDiff, Nat.reduceAdd, Nat.reduceMul, Nat.reduceSub, Nat.reduceLT, Nat.reduceLeDiff, Nat.reducePow, ite_true, ite_false, if_true, if_false, and_true, true_and, false_and, and_false, or_false, false_or, true_or, or_true, ne_eq, xite_t, xite_f, h5, hz, n_div]
            rw [f1]
            simp (disch := omega) only [n_cl, n_lt, n_le, n_eq, n_lt0, n_0lt, n_le0, n_eq0, n_gneq, n_ngeq, n_ng0, n_nglt, n_glt, n_gle, n_ltg, n_leg, n_gg, n_ge0, n_add, n_mul, n_rem, n_shl1, n_and, n_or, n_bit, n_not, n_not', n_B1, n_B0, n_BB, obind, xite_T, xite_F, xite_not, xite_same, oI_s, oI_n, Bool.false_eq_true, reduceCtorEq, eq_self, Classical.not_not, bI_T, bI_Fa, bI_0, bI_n0, bI_x, xb_0, xb_1, xite_bI, xite_bI', not_true_eq_false, not_false_eq_true, Nat.zero_add, Nat.add_zero, Nat.mul_zero, Nat.mul_one, Nat.one_mul, reduceIte, Nat.reduceEqDiff, Nat.reduceAdd, Nat.reduceMul, Nat.reduceSub, Nat.reduceLT, Nat.reduceLeDiff, Nat.reducePow, ite_true, ite_false, if_true, if_false, and_true, true_and, false_and, and_false, or_false, false_or, true_or, or_true, ne_eq, ]
            cases hT : tC s.1 (S.2.2 e) k with
            | none =>
              rw [hT] at f2
              have e1 : rnS (S.2.2 e) k s = s := by unfold rnS; rw [hT]
              rw [e1]
              obtain ⟨σ2, g1, g2⟩ := ih (k + 1) s σ1 (by omega) hC f2 (cSh_mi hs f3)
              refine ⟨σ2, ?_, xF_trans f3 g2⟩
              rw [xite_t (show mW_I s.1 none = -nI 4 from rfl)]
              exact g1
            | some t =>
              obtain ⟨w', n, p⟩ := t
              rw [hT] at f2
              have hm := tC_mil h.1 (hak k (by omega)) hT
              have e1 : rnS (S.2.2 e) k s = (gX s.1 (some (w', n, p)), s.2.1 + 1, s.2.2 + smm s.1 p n) := by unfold rnS; rw [hT]
              rw [e1]
              obtain ⟨σ2, g1, g2⟩ := ih (k + 1) (gX s.1 (some (w', n, p)), s.2.1 + 1, s.2.2 + smm s.1 p n) σ1 (by omega) (by rw [gX_C.1]; exact hC) f2 (cSh_mi hs f3)
              refine ⟨σ2, ?_, xF_trans f3 g2⟩
              show xite (nI (smm s.1 p n) = -nI 4) _ _ = _
              simp (disch := omega) only [n_cl, n_lt, n_le, n_eq, n_lt0, n_0lt, n_le0, n_eq0, n_gneq, n_ngeq, n_ng0, n_nglt, n_glt, n_gle, n_ltg, n_leg, n_gg, n_ge0, n_add, n_mul, n_rem, n_shl1, n_and, n_or, n_bit, n_not, n_not', n_B1, n_B0, n_BB, obind, xite_T, xite_F, xite_not, xite_same, oI_s, oI_n, Bool.false_eq_true, reduceCtorEq, eq_self, Classical.not_not, bI_T, bI_Fa, bI_0, bI_n0, bI_x, xb_0, xb_1, xite_bI, xite_bI', not_true_eq_false, not_false_eq_true, Nat.zero_add, Nat.add_zero, Nat.mul_zero, Nat.mul_one, Nat.one_mul, reduceIte, Nat.reduceEqDiff, Nat.reduceAdd, Nat.reduceMul, Nat.reduceSub, Nat.reduceLT, Nat.reduceLeDiff, Nat.reducePow, ite_true, ite_false, if_true, if_false, and_true, true_and, false_and, and_false, or_false, false_or, true_or, or_true, ne_eq, xite_t, xite_f, mW_I]
              exact g1
        have lm : ∀ m k (s : mX × Nat × Nat) σ, k + m = N → xaC s.1 = xaC S.1 → xaR s.1 = xaR S.1 → ML (rI σ 18 0) (xaR S.1) s.1 → ML (rI σ 21 0) (xaR S.1) S.1 → mShl σ e (S.2.2 e) → ∃ σ', run (d + 60) (58, 26, [some (.inr (.inr (17, (some 0)))), some (.inl (nI (e))), some (.inl w), none, some (.inl (nI (s.2.1))), some (.inl (nI (s.2.2))), some (.inl (nI (k)))], [], σ) = some ((xite (w = 0) (nI (fl (rnS (S.2.2 e)) m k s).2.1) (nI (fl (rnS (S.2.2 e)) m k s).2.2), 0, none), σ') ∧ ML (rI σ' 18 0) (xaR S.1) S.1 ∧ xF SmX σ σ' := by
          intro m
          induction m with
          | zero =>
            intro k s σ hk _ _ h h21 hs
            have ek : k = N := by omega
            subst ek
            have h5 := hs.2.2.2.2.1
            obtain ⟨σ1, f1, f2, f3⟩ := M14 (d + 57) σ h21
            refine ⟨σ1, ?_, f2, xF_le f3 SM_X⟩
            rw [B58_26]
            simp (disch := omega) only [n_cl, n_lt, n_le, n_eq, n_lt0, n_0lt, n_le0, n_eq0, n_gneq, n_ngeq, n_ng0, n_nglt, n_glt, n_gle, n_ltg, n_leg, n_gg, n_ge0, n_add, n_mul, n_rem, n_shl1, n_and, n_or, n_bit, n_not, n_not', n_B1, n_B0, n_BB, obind, xite_T, xite_F, xite_not, xite_same, oI_s, oI_n, Bool.false_eq_true, reduceCtorEq, eq_self, Classical.not_not, bI_T, bI_Fa, bI_0, bI_n0, bI_x, xb_0, xb_1, xite_bI, xite_bI', not_true_eq_false, not_false_eq_true, Nat.zero_add, Nat.add_zero, Nat.mul_zero, Nat.mul_one, Nat.one_mul, reduceIte, Nat.reduceEqDiff, Nat.reduceAdd, Nat.reduceMul, Nat.reduceSub, Nat.reduceLT, Nat.reduceLeDiff, Nat.reducePow, ite_true, ite_false, if_true, if_false, and_true, true_and, false_and, and_false, or_false, false_or, true_or, or_true, ne_eq, xite_t, xite_f, h5, hz, f1]
            by_cases hw0 : w = 0
            · rw [xite_t hw0, xite_t hw0]; rfl
            · rw [xite_f hw0, xite_f hw0]; rfl
          | succ m ih =>
            intro k s σ hk hC hR h h21 hs
            have h5 := hs.2.2.2.2.1
            show ∃ σ', _ = some ((xite (w = 0) (nI (fl (rnS (S.2.2 e)) m (k + 1) (rnS (S.2.2 e) k s)).2.1) (nI (fl (rnS (S.2.2 e)) m (k + 1) (rnS (S.2.2 e) k s)).2.2), 0, none), σ') ∧ _
            obtain ⟨σ1, f1, f2, f3, f4⟩ := M56 (d + 48) σ h (by omega) hs he hC (show k < N by omega) hN (hak k (by omega))
            have h21' : ML (rI σ1 21 0) (xaR S.1) S.1 := by rw [xF_I f4 (fun k => by unfold S20 SM; omega)]; exact h21
            have hs1 := mShl_X hs (xF_le f4 SG_X)
            rw [B58_26]
            simp (disch := omega) only [n_cl, n_lt, n_le, n_eq, n_lt0, n_0lt, n_le0, n_eq0, n_gneq, n_ngeq, n_ng0, n_nglt, n_glt, n_gle, n_ltg, n_leg, n_gg, n_ge0, n_add, n_mul, n_rem, n_shl1, n_and, n_or, n_bit, n_not, n_not', n_B1, n_B0, n_BB, obind, xite_T, xite_F, xite_not, xite_same, oI_s, oI_n, Bool.false_eq_true, reduceCtorEq, eq_self, Classical.not_not, bI_T, bI_Fa, bI_0, bI_n0, bI_x, xb_0, xb_1, xite_bI, xite_bI', not_true_eq_false, not_false_eq_true, Nat.zero_add, Nat.add_zero, Nat.mul_zero, Nat.mul_one, Nat.one_mul, reduceIte, Nat.reduceEqDiff, Nat.reduceAdd, Nat.reduceMul, Nat.reduceSub, Nat.reduceLT, Nat.reduceLeDiff, Nat.reducePow, ite_true, ite_false, if_true, if_false, and_true, true_and, false_and, and_false, or_false, false_or, true_or, or_true, ne_eq, xite_t, xite_f, h5, hz, f1]
            cases hT : tC s.1 (S.2.2 e) k with
            | none =>
              rw [hT] at f3
              have e1 : rnS (S.2.2 e) k s = s := by unfold rnS; rw [hT]
              rw [e1]
              obtain ⟨σ2, g1, g2, g3⟩ := ih (k + 1) s σ1 (by omega) hC hR f3 h21' hs1
              refine ⟨σ2, ?_, g2, xF_trans (xF_le f4 SG_X) g3⟩
              rw [xite_t rfl]
              exact g1
            | some t =>
              obtain ⟨w', n, p⟩ := t
              rw [hT] at f3 f2
              have e1 : rnS (S.2.2 e) k s = (gX s.1 (some (w', n, p)), s.2.1 + 1, s.2.2 + smm s.1 p n) := by unfold rnS; rw [hT]
              rw [e1]
              obtain ⟨σ2, g1, g2, g3⟩ := ih (k + 1) (gX s.1 (some (w', n, p)), s.2.1 + 1, s.2.2 + smm s.1 p n) σ1 (by omega) (by rw [gX_C.1]; exact hC) (by rw [gX_R]; exact hR) f3 h21' hs1
              refine ⟨σ2, ?_, g2, xF_trans (xF_le f4 SG_X) g3⟩
              rw [xite_f (by simp), f2.2.2.1, n_add]
              exact g1
        refine ⟨xite (w = 0) (nI (fl (rnS (S.2.2 e)) N 0 (S.1, 0, 0)).2.1) (nI (fl (rnS (S.2.2 e)) N 0 (S.1, 0, 0)).2.2), S, fun σ h => ?_, fun σ h => ?_⟩
        · obtain ⟨σ1, f1, f2, f3⟩ := C91 (d + 58) σ (i := 1) (j := 0) (by omega) h.1
          obtain ⟨σ2, g1, g2⟩ := lc N 0 (S.1, 0, 0) σ1 (by omega) rfl f2 (cSh_mi (h.2.2.2 e he) (xF_le f3 Sld_m))
          have hF : xF Smi σ σ2 := xF_trans (xF_le f3 Sld_m) g2
          refine ⟨σ2, ?_, CI_Scr h (xF_le hF Smi_S), kC_F hF (fun r j k s => Scr_16 _ _ _ (Smi_S _ _ _ s))⟩
          show run (d + 60) (xentry 154 _ σ) = _
          rw [B154_0, C173 _ _ h.1 (h.2.2.2 e he) he hw]
          simp (disch := omega) only [n_cl, n_lt, n_le, n_eq, n_lt0, n_0lt, n_le0, n_eq0, n_gneq, n_ngeq, n_ng0, n_nglt, n_glt, n_gle, n_ltg, n_leg, n_gg, n_ge0, n_add, n_mul, n_rem, n_shl1, n_and, n_or, n_bit, n_not, n_not', n_B1, n_B0, n_BB, obind, xite_T, xite_F, xite_not, xite_same, oI_s, oI_n, Bool.false_eq_true, reduceCtorEq, eq_self, Classical.not_not, bI_T, bI_Fa, bI_0, bI_n0, bI_x, xb_0, xb_1, xite_bI, xite_bI', not_true_eq_false, not_false_eq_true, Nat.zero_add, Nat.add_zero, Nat.mul_zero, Nat.mul_one, Nat.one_mul, reduceIte, Nat.reduceEqDiff, Nat.reduceAdd, Nat.reduceMul, Nat.reduceSub, Nat.reduceLT, Nat.reduceLeDiff, Nat.reducePow, ite_true, ite_false, if_true, if_false, and_true, true_and, false_and, and_false, or_false, false_or, true_or, or_true, ne_eq, xite_t, xite_f, h0, f1]
          exact g1
        · obtain ⟨σ1, f1, f2, f3, f4⟩ := M13 (d + 57) σ h.1
          obtain ⟨σ2, g1, g2, g3⟩ := lm N 0 (S.1, 0, 0) σ1 (by omega) rfl rfl f2 f3 (mShl_X (h.2.2.2 e he) (xF_le f4 S21_X))
          obtain ⟨m1, m2⟩ := MI_Z h (xF_trans (xF_le f4 S21_X) g3) g2
          refine ⟨σ2, ?_, m1, m2⟩
          show run (d + 60) (xentry 58 _ σ) = _
          rw [B58_0, M57 _ _ h.1 (h.2.2.2 e he) he hw]
          simp (disch := omega) only [n_cl, n_lt, n_le, n_eq, n_lt0, n_0lt, n_le0, n_eq0, n_gneq, n_ngeq, n_ng0, n_nglt, n_glt, n_gle, n_ltg, n_leg, n_gg, n_ge0, n_add, n_mul, n_rem, n_shl1, n_and, n_or, n_bit, n_not, n_not', n_B1, n_B0, n_BB, obind, xite_T, xite_F, xite_not, xite_same, oI_s, oI_n, Bool.false_eq_true, reduceCtorEq, eq_self, Classical.not_not, bI_T, bI_Fa, bI_0, bI_n0, bI_x, xb_0, xb_1, xite_bI, xite_bI', not_true_eq_false, not_false_eq_true, Nat.zero_add, Nat.add_zero, Nat.mul_zero, Nat.mul_one, Nat.one_mul, reduceIte, Nat.reduceEqDiff, Nat.reduceAdd, Nat.reduceMul, Nat.reduceSub, Nat.reduceLT, Nat.reduceLeDiff, Nat.reducePow, ite_true, ite_false, if_true, if_false, and_true, true_and, false_and, and_false, or_false, false_or, true_or, or_true, ne_eq, xite_t, xite_f, h0, f1]
          exact g1
      · refine duo_bad (cgI S.1 (S.2.2 e)) (fun σ h => ?_) (fun σ h => ?_)
        · rw [B154_0, C173 _ _ h.1 (h.2.2.2 e he) he hw]
          simp (disch := omega) only [n_cl, n_lt, n_le, n_eq, n_lt0, n_0lt, n_le0, n_eq0, n_gneq, n_ngeq, n_ng0, n_nglt, n_glt, n_gle, n_ltg, n_leg, n_gg, n_ge0, n_add, n_mul, n_rem, n_shl1, n_and, n_or, n_bit, n_not, n_not', n_B1, n_B0, n_BB, obind, xite_T, xite_F, xite_not, xite_same, oI_s, oI_n, Bool.false_eq_true, reduceCtorEq, eq_self, Classical.not_not, bI_T, bI_Fa, bI_0, bI_n0, bI_x, xb_0, xb_1, xite_bI, xite_bI', not_true_eq_false, not_false_eq_true, Nat.zero_add, Nat.add_zero, Nat.mul_zero, Nat.mul_one, Nat.one_mul, reduceIte, Nat.reduceEqDiff, Nat.reduceAdd, Nat.reduceMul, Nat.reduceSub, Nat.reduceLT, Nat.reduceLeDiff, Nat.reducePow, ite_true, ite_false, if_true, if_false, and_true, true_and, false_and, and_false, or_false, false_or, true_or, or_true, ne_eq, h0]
        · rw [B58_0, M57 _ _ h.1 (h.2.2.2 e he) he hw]
          simp (disch := omega) only [n_cl, n_lt, n_le, n_eq, n_lt0, n_0lt, n_le0, n_eq0, n_gneq, n_ngeq, n_ng0, n_nglt, n_glt, n_gle, n_ltg, n_leg, n_gg, n_ge0, n_add, n_mul, n_rem, n_shl1, n_and, n_or, n_bit, n_not, n_not', n_B1, n_B0, n_BB, obind, xite_T, xite_F, xite_not, xite_same, oI_s, oI_n, Bool.false_eq_true, reduceCtorEq, eq_self, Classical.not_not, bI_T, bI_Fa, bI_0, bI_n0, bI_x, xb_0, xb_1, xite_bI, xite_bI', not_true_eq_false, not_false_eq_true, Nat.zero_add, Nat.add_zero, Nat.mul_zero, Nat.mul_one, Nat.one_mul, reduceIte, Nat.reduceEqDiff, Nat.reduceAdd, Nat.reduceMul, Nat.reduceSub, Nat.reduceLT, Nat.reduceLeDiff, Nat.reducePow, ite_true, ite_false, if_true, if_false, and_true, true_and, false_and, and_false, or_false, false_or, true_or, or_true, ne_eq, h0]
    · refine duo_bad (-nI 1) (fun σ h => ?_) (fun σ h => ?_)
      · rw [B154_0, B173_0, C166 _ _ _ (by omega)]
        simp (disch := omega) only [n_cl, n_lt, n_le, n_eq, n_lt0, n_0lt, n_le0, n_eq0, n_gneq, n_ngeq, n_ng0, n_nglt, n_glt, n_gle, n_ltg, n_leg, n_gg, n_ge0, n_add, n_mul, n_rem, n_shl1, n_and, n_or, n_bit, n_not, n_not', n_B1, n_B0, n_BB, obind, xite_T, xite_F, xite_not, xite_same, oI_s, oI_n, Bool.false_eq_true, reduceCtorEq, eq_self, Classical.not_not, bI_T, bI_Fa, bI_0, bI_n0, bI_x, xb_0, xb_1, xite_bI, xite_bI', not_true_eq_false, not_false_eq_true, Nat.zero_add, Nat.add_zero, Nat.mul_zero, Nat.mul_one, Nat.one_mul, reduceIte, Nat.reduceEqDiff, Nat.reduceAdd, Nat.reduceMul, Nat.reduceSub, Nat.reduceLT, Nat.reduceLeDiff, Nat.reducePow, ite_true, ite_false, if_true, if_false, and_true, true_and, false_and, and_false, or_false, false_or, true_or, or_true, ne_eq, xite_t, xite_f, hw, C171_f _ _ hv]
      · rw [B58_0, B57_0, M2]
        simp (disch := omega) only [n_cl, n_lt, n_le, n_eq, n_lt0, n_0lt, n_le0, n_eq0, n_gneq, n_ngeq, n_ng0, n_nglt, n_glt, n_gle, n_ltg, n_leg, n_gg, n_ge0, n_add, n_mul, n_rem, n_shl1, n_and, n_or, n_bit, n_not, n_not', n_B1, n_B0, n_BB, obind, xite_T, xite_F, xite_not, xite_same, oI_s, oI_n, Bool.false_eq_true, reduceCtorEq, eq_self, Classical.not_not, bI_T, bI_Fa, bI_0, bI_n0, bI_x, xb_0, xb_1, xite_bI, xite_bI', not_true_eq_false, not_false_eq_true, Nat.zero_add, Nat.add_zero, Nat.mul_zero, Nat.mul_one, Nat.one_mul, reduceIte, Nat.reduceEqDiff, Nat.reduceAdd, Nat.reduceMul, Nat.reduceSub, Nat.reduceLT, Nat.reduceLeDiff, Nat.reducePow, ite_true, ite_false, if_true, if_false, and_true, true_and, false_and, and_false, or_false, false_or, true_or, or_true, ne_eq, xite_t, xite_f, hv]
  · refine duo_bad (-nI 1) (fun σ h => ?_) (fun σ h => ?_)
    · rw [B154_0, B173_0, C166 _ _ _ (by omega)]
      simp (disch := omega) only [n_cl, n_lt, n_le, n_eq, n_lt0, n_0lt, n_le0, n_eq0, n_gneq, n_ngeq, n_ng0, n_nglt, n_glt, n_gle, n_ltg, n_leg, n_gg, n_ge0, n_add, n_mul, n_rem, n_shl1, n_and, n_or, n_bit, n_not, n_not', n_B1, n_B0, n_BB, obind, xite_T, xite_F, xite_not, xite_same, oI_s, oI_n, Bool.false_eq_true, reduceCtorEq, eq_self, Classical.not_not, bI_T, bI_Fa, bI_0, bI_n0, bI_x, xb_0, xb_1, xite_bI, xite_bI', not_true_eq_false, not_false_eq_true, Nat.zero_add, Nat.add_zero, Nat.mul_zero, Nat.mul_one, Nat.one_mul, reduceIte, Nat.reduceEqDiff, Nat.reduceAdd, Nat.reduceMul, Nat.reduceSub, Nat.reduceLT, Nat.reduceLeDiff, Nat.reducePow, ite_true, ite_false, if_true, if_false, and_true, true_and, false_and, and_false, or_false, false_or, true_or, or_true, ne_eq, xite_t, xite_f, hw]
    · rw [B58_0, B57_0, M2]
      simp (disch := omega) only [n_cl, n_lt, n_le, n_eq, n_lt0, n_0lt, n_le0, n_eq0, n_gneq, n_ngeq, n_ng0, n_nglt, n_glt, n_gle, n_ltg, n_leg, n_gg, n_ge0, n_add, n_mul, n_rem, n_shl1, n_and, n_or, n_bit, n_not, n_not', n_B1, n_B0, n_BB, obind, xite_T, xite_F, xite_not, xite_same, oI_s, oI_n, Bool.false_eq_true, reduceCtorEq, eq_self, Classical.not_not, bI_T, bI_Fa, bI_0, bI_n0, bI_x, xb_0, xb_1, xite_bI, xite_bI', not_true_eq_false, not_false_eq_true, Nat.zero_add, Nat.add_zero, Nat.mul_zero, Nat.mul_one, Nat.one_mul, reduceIte, Nat.reduceEqDiff, Nat.reduceAdd, Nat.reduceMul, Nat.reduceSub, Nat.reduceLT, Nat.reduceLeDiff, Nat.reducePow, ite_true, ite_false, if_true, if_false, and_true, true_and, false_and, and_false, or_false, false_or, true_or, or_true, ne_eq, M1c, hw]
/-- one nick more, if it can be -/
theorem C101_t (d : Nat) (σ : xS) {i r g : Nat} {X : mX} (h : CL σ i X) (hr : r < xaR X) (hg : g < 4) (hf : fre X g r = true) : ∃ σ', run (d + 3) (xentry 101 [.inr (.inr (1, (some i))), .inl (nI r), .inl (nI g)] σ) = some ((nI 1, 0, none), σ') ∧ CL σ' i (nkX X g r) ∧ xF (S137 i) σ σ' := by
  have h9 := h.1.2.2.1
  have hl : 2 ^ g < 16 := Nat.pow_lt_pow_right (n := 4) (by omega) hg
  have e : lN (2 ^ (4 * r + g)) = lN (2 ^ g * 2 ^ (4 * r)) := by rw [Nat.pow_add, Nat.mul_comm]
  refine ⟨wL σ 1 i 3 (rL σ 1 i 3 ||| lN (2 ^ g * 2 ^ (4 * r))), ?_, CL_or h hr hl (fun r' => rfl), xF_wL (xF_refl σ) _ ⟨rfl, rfl, rfl⟩⟩
  rw [B101_0, C94 _ _ _ h]
  simp (disch := omega) only [n_cl, n_lt, n_le, n_eq, n_lt0, n_0lt, n_le0, n_eq0, n_gneq, n_ngeq, n_ng0, n_nglt, n_glt, n_gle, n_ltg, n_leg, n_gg, n_ge0, n_add, n_mul, n_rem, n_shl1, n_and, n_or, n_bit, n_not, n_not', n_B1, n_B0, n_BB, obind, xite_T, xite_F, xite_not, xite_same, oI_s, oI_n, Bool.false_eq_true, reduceCtorEq, eq_self, Classical.not_not, bI_T, bI_Fa, bI_0, bI_n0, bI_x, xb_0, xb_1, xite_bI, xite_bI', not_true_eq_false, not_false_eq_true, Nat.zero_add, Nat.add_zero, Nat.mul_zero, Nat.mul_one, Nat.one_mul, reduceIte, Nat.reduceEqDiff, Nat.reduceAdd, Nat.reduceMul, Nat.reduceSub, Nat.reduceLT, Nat.reduceLeDiff, Nat.reducePow, ite_true, ite_false, if_true, if_false, and_true, true_and, false_and, and_false, or_false, false_or, true_or, or_true, ne_eq, xite_t, xite_f, inb_nI, hr, C166, hg, C100 _ _ h hr hg, hf, C168, e]
theorem C101_f (d : Nat) (σ : xS) {i : Nat} {v w : Int32} {X : mX} (h : CL σ i X) (hn : ¬ (inb v (xaR X) ∧ inb w 4 ∧ fre X w.toNatClampNeg v.toNatClampNeg = true)) : run (d + 3) (xentry 101 [.inr (.inr (1, (some i))), .inl v, .inl w] σ) = some ((nI 0, 0, none), σ) := by
  have h9 := h.1.2.2.1
  rw [B101_0, C94 _ _ _ h]
  simp (disch := omega) only [n_cl, n_lt, n_le, n_eq, n_lt0, n_0lt, n_le0, n_eq0, n_gneq, n_ngeq, n_ng0, n_nglt, n_glt, n_gle, n_ltg, n_leg, n_gg, n_ge0, n_add, n_mul, n_rem, n_shl1, n_and, n_or, n_bit, n_not, n_not', n_B1, n_B0, n_BB, obind, xite_T, xite_F, xite_not, xite_same, oI_s, oI_n, Bool.false_eq_true, reduceCtorEq, eq_self, Classical.not_not, bI_T, bI_Fa, bI_0, bI_n0, bI_x, xb_0, xb_1, xite_bI, xite_bI', not_true_eq_false, not_false_eq_true, Nat.zero_add, Nat.add_zero, Nat.mul_zero, Nat.mul_one, Nat.one_mul, reduceIte, Nat.reduceEqDiff, Nat.reduceAdd, Nat.reduceMul, Nat.reduceSub, Nat.reduceLT, Nat.reduceLeDiff, Nat.reducePow, ite_true, ite_false, if_true, if_false, and_true, true_and, false_and, and_false, or_false, false_or, true_or, or_true, ne_eq, C166]
  by_cases h1 : inb v (xaR X)
  · rw [xite_t h1]
    by_cases h2 : inb w 4
    · obtain ⟨r, hr, er⟩ := inb_of h1 (by omega)
      obtain ⟨g, hg, eg⟩ := inb_of h2 (by omega)
      subst er eg
      rw [xite_t h2, C100 _ _ h hr hg]
      simp (disch := omega) only [n_cl, n_lt, n_le, n_eq, n_lt0, n_0lt, n_le0, n_eq0, n_gneq, n_ngeq, n_ng0, n_nglt, n_glt, n_gle, n_ltg, n_leg, n_gg, n_ge0, n_add, n_mul, n_rem, n_shl1, n_and, n_or, n_bit, n_not, n_not', n_B1, n_B0, n_BB, obind, xite_T, xite_F, xite_not, xite_same, oI_s, oI_n, Bool.false_eq_true, reduceCtorEq, eq_self, Classical.not_not, bI_T, bI_Fa, bI_0, bI_n0, bI_x, xb_0, xb_1, xite_bI, xite_bI', not_true_eq_false, not_false_eq_true, Nat.zero_add, Nat.add_zero, Nat.mul_zero, Nat.mul_one, Nat.one_mul, reduceIte, Nat.reduceEqDiff, Nat.reduceAdd, Nat.reduceMul, Nat.reduceSub, Nat.reduceLT, Nat.reduceLeDiff, Nat.reducePow, ite_true, ite_false, if_true, if_false, and_true, true_and, false_and, and_false, or_false, false_or, true_or, or_true, ne_eq, ]
      rw [n_cl (by omega), n_cl (by omega)] at hn
      rw [xite_f (fun hf => hn ⟨h1, h2, hf⟩)]
    · rw [xite_f h2]
  · rw [xite_f h1]
noncomputable def jd (z : Nat) (c : Nat → Int32) : Nat → Nat → mX → Option Nat
  | 0, _, _ => none
  | m + 1, i, X => xite (z ≤ i) none (xite (z = i + 1) (some i) (xite (inb (c i) (xaR X)) (xite (inb (c (i + 1)) 4 ∧ fre X (c (i + 1)).toNatClampNeg (c i).toNatClampNeg = true) (jd z c m (i + 2) (nkX X (c (i + 1)).toNatClampNeg (c i).toNatClampNeg)) (some (i + 1))) (some i)))
theorem S137_m (r j k : Nat) (h : S137 1 r j k) : Smi r j k := by unfold S137 at h; unfold Smi; omega
theorem duo_judge (d : Nat) (S : mG) (hX : WX (xaR S.1) S.1) (v : Int32) : Duo (d + 60) (fun σ => xentry 157 [.inr (.inr (0, (some 0))), .inl v] σ) (fun σ => xentry 65 [.inr (.inr (17, (some 0))), .inl v] σ) S := by
  by_cases hv : inb v 8
  · obtain ⟨e, he, ee⟩ := inb_of hv (by omega)
    subst ee
    by_cases h2 : (S.2.2 e).1 = 2
    · have lc : ∀ m i (X : mX) σ, (S.2.2 e).2.2.2.2.1 < i + 2 * m → i ≤ 200 → CL σ 1 X → cSh σ e (S.2.2 e) → ∃ σ', run (d + 60) (157, 34, [some (.inr (.inr (0, (some 0)))), none, none, some (.inr (.inr (14, (some e)))), some (.inl (nI (i))), none], [], σ) = some ((oI 4 (jd (S.2.2 e).2.2.2.2.1 (S.2.2 e).2.2.2.2.2 m i X), 0, none), σ') ∧ xF Smi σ σ' := by
        intro m
        induction m with
        | zero =>
          intro i X σ hz hi h hs
          have h5 := hs.2.2.2.2.1
          have h100 := hs.1.2.2.2
          refine ⟨σ, ?_, xF_refl σ⟩
          rw [B157_34, h5]
          simp (disch := omega) only [n_cl, n_lt, n_le, n_eq, n_lt0, n_0lt, n_le0, n_eq0, n_gneq, n_ngeq, n_ng0, n_nglt, n_glt, n_gle, n_ltg, n_leg, n_gg, n_ge0, n_add, n_mul, n_rem, n_shl1, n_and, n_or, n_bit, n_not, n_not', n_B1, n_B0, n_BB, obind, xite_T, xite_F, xite_not, xite_same, oI_s, oI_n, Bool.false_eq_true, reduceCtorEq, eq_self, Classical.not_not, bI_T, bI_Fa, bI_0, bI_n0, bI_x, xb_0, xb_1, xite_bI, xite_bI', not_true_eq_false, not_false_eq_true, Nat.zero_add, Nat.add_zero, Nat.mul_zero, Nat.mul_one, Nat.one_mul, reduceIte, Nat.reduceEqDiff, Nat.reduceAdd, Nat.reduceMul, Nat.reduceSub, Nat.reduceLT, Nat.reduceLeDiff, Nat.reducePow, ite_true, ite_false, if_true, if_false, and_true, true_and, false_and, and_false, or_false, false_or, true_or, or_true, ne_eq, xite_t, xite_f, ]
          rfl
        | succ m ih =>
          intro i X σ hz hi h hs
          have h5 := hs.2.2.2.2.1
          have h100 := hs.1.2.2.2
          have hR9 := h.1.2.2.1
          show ∃ σ', _ = some ((oI 4 (xite ((S.2.2 e).2.2.2.2.1 ≤ i) none (xite ((S.2.2 e).2.2.2.2.1 = i + 1) (some i) (xite (inb ((S.2.2 e).2.2.2.2.2 i) (xaR X)) (xite (inb ((S.2.2 e).2.2.2.2.2 (i + 1)) 4 ∧ fre X ((S.2.2 e).2.2.2.2.2 (i + 1)).toNatClampNeg ((S.2.2 e).2.2.2.2.2 i).toNatClampNeg = true) (jd (S.2.2 e).2.2.2.2.1 (S.2.2 e).2.2.2.2.2 m (i + 2) (nkX X ((S.2.2 e).2.2.2.2.2 (i + 1)).toNatClampNeg ((S.2.2 e).2.2.2.2.2 i).toNatClampNeg)) (some (i + 1))) (some i)))), 0, none), σ') ∧ _
          rw [B157_34, h5]
          by_cases c1 : (S.2.2 e).2.2.2.2.1 ≤ i
          · refine ⟨σ, ?_, xF_refl σ⟩
            simp (disch := omega) only [n_cl, n_lt, n_le, n_eq, n_lt0, n_0lt, n_le0, n_eq0, n_gneq, n_ngeq, n_ng0, n_nglt, n_glt, n_gle, n_ltg, n_leg, n_gg, n_ge0, n_add, n_mul, n_rem, n_shl1, n_and, n_or, n_bit, n_not, n_not', n_B1, n_B0, n_BB, obind, xite_T, xite_F, xite_not, xite_same, oI_s, oI_n, Bool.false_eq_true, reduceCtorEq, eq_self, Classical.not_not, bI_T, bI_Fa, bI_0, bI_n0, bI_x, xb_0, xb_1, xite_bI, xite_bI', not_true_eq_false, not_false_eq_true, Nat.zero_add, Nat.add_zero, Nat.mul_zero, Nat.mul_one, Nat.one_mul, reduceIte, Nat.reduceEqDiff, Nat.reduceAdd, Nat.reduceMul, Nat.reduceSub, Nat.reduceLT, Nat.reduceLeDiff, Nat.reducePow, ite_true, ite_false, if_true, if_false, and_true, true_and, false_and, and_false, or_false, false_or, true_or, or_true, ne_eq, xite_t, xite_f, c1]
          · have e1 := C126 (d + 57) σ hs (show i < (S.2.2 e).2.2.2.2.1 by omega)
            simp (disch := omega) only [n_cl, n_lt, n_le, n_eq, n_lt0, n_0lt, n_le0, n_eq0, n_gneq, n_ngeq, n_ng0, n_nglt, n_glt, n_gle, n_ltg, n_leg, n_gg, n_ge0, n_add, n_mul, n_rem, n_shl1, n_and, n_or, n_bit, n_not, n_not', n_B1, n_B0, n_BB, obind, xite_T, xite_F, xite_not, xite_same, oI_s, oI_n, Bool.false_eq_true, reduceCtorEq, eq_self, Classical.not_not, bI_T, bI_Fa, bI_0, bI_n0, bI_x, xb_0, xb_1, xite_bI, xite_bI', not_true_eq_false, not_false_eq_true, Nat.zero_add, Nat.add_zero, Nat.mul_zero, Nat.mul_one, Nat.one_mul, reduceIte, Nat.reduceEqDiff, Nat.reduceAdd, Nat.reduceMul, Nat.reduceSub, Nat.reduceLT, Nat.reduceLeDiff, Nat.reducePow, ite_true, ite_false, if_true, if_false, and_true, true_and, false_and, and_false, or_false, false_or, true_or, or_true, ne_eq, xite_t, xite_f, e1, C94 _ _ _ h]
            by_cases c3 : inb ((S.2.2 e).2.2.2.2.2 i) (xaR X)
            · by_cases c2 : (S.2.2 e).2.2.2.2.1 = i + 1
              · refine ⟨σ, ?_, xF_refl σ⟩
                simp (disch := omega) only [n_cl, n_lt, n_le, n_eq, n_lt0, n_0lt, n_le0, n_eq0, n_gneq, n_ngeq, n_ng0, n_nglt, n_glt, n_gle, n_ltg, n_leg, n_gg, n_ge0, n_add, n_mul, n_rem, n_shl1, n_and, n_or, n_bit, n_not, n_not', n_B1, n_B0, n_BB, obind, xite_T, xite_F, xite_not, xite_same, oI_s, oI_n, Bool.false_eq_true, reduceCtorEq, eq_self, Classical.not_not, bI_T, bI_Fa, bI_0, bI_n0, bI_x, xb_0, xb_1, xite_bI, xite_bI', not_true_eq_false, not_false_eq_true, Nat.zero_add, Nat.add_zero, Nat.mul_zero, Nat.mul_one, Nat.one_mul, reduceIte, Nat.reduceEqDiff, Nat.reduceAdd, Nat.reduceMul, Nat.reduceSub, Nat.reduceLT, Nat.reduceLeDiff, Nat.reducePow, ite_true, ite_false, if_true, if_false, and_true, true_and, false_and, and_false, or_false, false_or, true_or, or_true, ne_eq, xite_t, xite_f, h5, c2, c3]
              · have e2 := C126 (d + 57) σ hs (show i + 1 < (S.2.2 e).2.2.2.2.1 by omega)
                have c2' : ¬ i + 1 = (S.2.2 e).2.2.2.2.1 := fun q => c2 q.symm
                simp (disch := omega) only [n_cl, n_lt, n_le, n_eq, n_lt0, n_0lt, n_le0, n_eq0, n_gneq, n_ngeq, n_ng0, n_nglt, n_glt, n_gle, n_ltg, n_leg, n_gg, n_ge0, n_add, n_mul, n_rem, n_shl1, n_and, n_or, n_bit, n_not, n_not', n_B1, n_B0, n_BB, obind, xite_T, xite_F, xite_not, xite_same, oI_s, oI_n, Bool.false_eq_true, reduceCtorEq, eq_self, Classical.not_not, bI_T, bI_Fa, bI_0, bI_n0, bI_x, xb_0, xb_1, xite_bI, xite_bI', not_true_eq_false, not_false_eq_true, Nat.zero_add, Nat.add_zero, Nat.mul_zero, Nat.mul_one, Nat.one_mul, reduceIte, Nat.reduceEqDiff, Nat.reduceAdd, Nat.reduceMul, Nat.reduceSub, Nat.reduceLT, Nat.reduceLeDiff, Nat.reducePow, ite_true, ite_false, if_true, if_false, and_true, true_and, false_and, and_false, or_false, false_or, true_or, or_true, ne_eq, xite_t, xite_f, h5, c2, c2', c3, e2]
                by_cases c4 : inb ((S.2.2 e).2.2.2.2.2 (i + 1)) 4 ∧ fre X ((S.2.2 e).2.2.2.2.2 (i + 1)).toNatClampNeg ((S.2.2 e).2.2.2.2.2 i).toNatClampNeg = true
                · obtain ⟨r, hr, er⟩ := inb_of c3 (by omega)
                  obtain ⟨g, hg, eg⟩ := inb_of c4.1 (by omega)
                  have c4' := c4
                  rw [er, eg, n_cl (by omega), n_cl (by omega)] at c4' ⊢
                  obtain ⟨σ1, f1, f2, f3⟩ := C101_t (d + 56) σ h hr hg c4'.2
                  obtain ⟨σ2, g1, g2⟩ := ih (i + 2) (nkX X g r) σ1 (by omega) (by omega) f2 (cSh_mi hs (xF_le f3 S137_m))
                  refine ⟨σ2, ?_, xF_trans (xF_le f3 S137_m) g2⟩
                  rw [f1, xite_t c4']
                  simp (disch := omega) only [n_cl, n_lt, n_le, n_eq, n_lt0, n_0lt, n_le0, n_eq0, n_gneq, n_ngeq, n_ng0, n_nglt, n_glt, n_gle, n_ltg, n_leg, n_gg, n_ge0, n_add, n_mul, n_rem, n_shl1, n_and, n_or, n_bit, n_not, n_not', n_B1, n_B0, n_BB, obind, xite_T, xite_F, xite_not, xite_same, oI_s, oI_n, Bool.false_eq_true, reduceCtorEq, eq_self, Classical.not_not, bI_T, bI_Fa, bI_0, bI_n0, bI_x, xb_0, xb_1, xite_bI, xite_bI', not_true_eq_false, not_false_eq_true, Nat.zero_add, Nat.add_zero, Nat.mul_zero, Nat.mul_one, Nat.one_mul, reduceIte, Nat.reduceEqDiff, Nat.reduceAdd, Nat.reduceMul, Nat.reduceSub, Nat.reduceLT, Nat.reduceLeDiff, Nat.reducePow, ite_true, ite_false, if_true, if_false, and_true, true_and, false_and, and_false, or_false, false_or, true_or, or_true, ne_eq, ]
                  exact g1
                · have e4 := C101_f (d + 56) σ (v := (S.2.2 e).2.2.2.2.2 i) (w := (S.2.2 e).2.2.2.2.2 (i + 1)) h (fun q => c4 ⟨q.2.1, q.2.2⟩)
                  refine ⟨σ, ?_, xF_refl σ⟩
                  rw [xite_f c4, e4]
                  simp (disch := omega) only [n_cl, n_lt, n_le, n_eq, n_lt0, n_0lt, n_le0, n_eq0, n_gneq, n_ngeq, n_ng0, n_nglt, n_glt, n_gle, n_ltg, n_leg, n_gg, n_ge0, n_add, n_mul, n_rem, n_shl1, n_and, n_or, n_bit, n_not, n_not', n_B1, n_B0, n_BB, obind, xite_T, xite_F, xite_not, xite_same, oI_s, oI_n, Bool.false_eq_true, reduceCtorEq, eq_self, Classical.not_not, bI_T, bI_Fa, bI_0, bI_n0, bI_x, xb_0, xb_1, xite_bI, xite_bI', not_true_eq_false, not_false_eq_true, Nat.zero_add, Nat.add_zero, Nat.mul_zero, Nat.mul_one, Nat.one_mul, reduceIte, Nat.reduceEqDiff, Nat.reduceAdd, Nat.reduceMul, Nat.reduceSub, Nat.reduceLT, Nat.reduceLeDiff, Nat.reducePow, ite_true, ite_false, if_true, if_false, and_true, true_and, false_and, and_false, or_false, false_or, true_or, or_true, ne_eq, xite_t, xite_f, ]
            · refine ⟨σ, ?_, xF_refl σ⟩
              simp (disch := omega) only [n_cl, n_lt, n_le, n_eq, n_lt0, n_0lt, n_le0, n_eq0, n_gneq, n_ngeq, n_ng0, n_nglt, n_glt, n_gle, n_ltg, n_leg, n_gg, n_ge0, n_add, n_mul, n_rem, n_shl1, n_and, n_or, n_bit, n_not, n_not', n_B1, n_B0, n_BB, obind, xite_T, xite_F, xite_not, xite_same, oI_s, oI_n, Bool.false_eq_true, reduceCtorEq, eq_self, Classical.not_not, bI_T, bI_Fa, bI_0, bI_n0, bI_x, xb_0, xb_1, xite_bI, xite_bI', not_true_eq_false, not_false_eq_true, Nat.zero_add, Nat.add_zero, Nat.mul_zero, Nat.mul_one, Nat.one_mul, reduceIte, Nat.reduceEqDiff, Nat.reduceAdd, Nat.reduceMul, Nat.reduceSub, Nat.reduceLT, Nat.reduceLeDiff, Nat.reducePow, ite_true, ite_false, if_true, if_false, and_true, true_and, false_and, and_false, or_false, false_or, true_or, or_true, ne_eq, xite_t, xite_f, c3]
      have lm : ∀ m i (X : mX) σ, (S.2.2 e).2.2.2.2.1 < i + 2 * m → i ≤ 200 → i % 2 = 0 → i ≤ (S.2.2 e).2.2.2.2.1 → xaR X = xaR S.1 → ML (rI σ 18 0) (xaR S.1) X → ML (rI σ 21 0) (xaR S.1) S.1 → mShl σ e (S.2.2 e) → ∃ σ', run (d + 60) (65, 23, [some (.inr (.inr (17, (some 0)))), some (.inl (nI (e))), none, some (.inl (-nI 4)), some (.inl (nI (i)))], [], σ) = some ((oI 4 (jd (S.2.2 e).2.2.2.2.1 (S.2.2 e).2.2.2.2.2 m i X), 0, none), σ') ∧ ML (rI σ' 18 0) (xaR S.1) S.1 ∧ xF SmX σ σ' := by
        have fin : ∀ (o : Option Nat) σ, (∀ q, o = some q → q < 300) → ML (rI σ 21 0) (xaR S.1) S.1 → mShl σ e (S.2.2 e) → ∃ σ', run (d + 60) (65, 54, [some (.inr (.inr (17, (some 0)))), some (.inl (nI (e))), none, some (.inl (oI 4 o)), none], [], σ) = some ((oI 4 (match o with
          | some q => some q
          | none => if (S.2.2 e).2.2.2.2.1 % 2 = 1 then some ((S.2.2 e).2.2.2.2.1 - 1) else none), 0, none), σ') ∧ ML (rI σ' 18 0) (xaR S.1) S.1 ∧ xF SmX σ σ' := by
          intro o σ ho h21 hs
          obtain ⟨σ1, f1, f2, f3⟩ := M14 (d + 57) σ h21
          have hs1 := mShl_X hs (xF_le f3 SM_X)
          have h5 := hs1.2.2.2.2.1
          have h100 := hs1.1.2.2.2
          refine ⟨σ1, ?_, f2, xF_le f3 SM_X⟩
          rw [B65_54, f1, obind]
          cases o with
          | some q =>
            have := ho q rfl
            show xite (0 ≤ nI q) _ _ = _
            simp (disch := omega) only [n_cl, n_lt, n_le, n_eq, n_lt0, n_0lt, n_le0, n_eq0, n_gneq, n_ngeq, n_ng0, n_nglt, n_glt, n_gle, n_ltg, n_leg, n_gg, n_ge0, n_add, n_mul, n_rem, n_shl1, n_and, n_or, n_bit, n_not, n_not', n_B1, n_B0, n_BB, obind, xite_T, xite_F, xite_not, xite_same, oI_s, oI_n, Bool.false_eq_true, reduceCtorEq, eq_self, Classical.not_not, bI_T, bI_Fa, bI_0, bI_n0, bI_x, xb_0, xb_1, xite_bI, xite_bI', not_true_eq_false, not_false_eq_true, Nat.zero_add, Nat.add_zero, Nat.mul_zero, Nat.mul_one, Nat.one_mul, reduceIte, Nat.reduceEqDiff, Nat.reduceAdd, Nat.reduceMul, Nat.reduceSub, Nat.reduceLT, Nat.reduceLeDiff, Nat.reducePow, ite_true, ite_false, if_true, if_false, and_true, true_and, false_and, and_false, or_false, false_or, true_or, or_true, ne_eq, xite_t, xite_f, ]
          | none =>
            show xite (0 ≤ -nI 4) _ _ = _
            rw [xite_f (by decide)]
            by_cases hodd : (S.2.2 e).2.2.2.2.1 % 2 = 1
            · simp (disch := omega) only [n_cl, n_lt, n_le, n_eq, n_lt0, n_0lt, n_le0, n_eq0, n_gneq, n_ngeq, n_ng0, n_nglt, n_glt, n_gle, n_ltg, n_leg, n_gg, n_ge0, n_add, n_mul, n_rem, n_shl1, n_and, n_or, n_bit, n_not, n_not', n_B1, n_B0, n_BB, obind, xite_T, xite_F, xite_not, xite_same, oI_s, oI_n, Bool.false_eq_true, reduceCtorEq, eq_self, Classical.not_not, bI_T, bI_Fa, bI_0, bI_n0, bI_x, xb_0, xb_1, xite_bI, xite_bI', not_true_eq_false, not_false_eq_true, Nat.zero_add, Nat.add_zero, Nat.mul_zero, Nat.mul_one, Nat.one_mul, reduceIte, Nat.reduceEqDiff, Nat.reduceAdd, Nat.reduceMul, Nat.reduceSub, Nat.reduceLT, Nat.reduceLeDiff, Nat.reducePow, ite_true, ite_false, if_true, if_false, and_true, true_and, false_and, and_false, or_false, false_or, true_or, or_true, ne_eq, xite_t, xite_f, h5, hodd]
              rw [n_sub (by omega)]
            · simp (disch := omega) only [n_cl, n_lt, n_le, n_eq, n_lt0, n_0lt, n_le0, n_eq0, n_gneq, n_ngeq, n_ng0, n_nglt, n_glt, n_gle, n_ltg, n_leg, n_gg, n_ge0, n_add, n_mul, n_rem, n_shl1, n_and, n_or, n_bit, n_not, n_not', n_B1, n_B0, n_BB, obind, xite_T, xite_F, xite_not, xite_same, oI_s, oI_n, Bool.false_eq_true, reduceCtorEq, eq_self, Classical.not_not, bI_T, bI_Fa, bI_0, bI_n0, bI_x, xb_0, xb_1, xite_bI, xite_bI', not_true_eq_false, not_false_eq_true, Nat.zero_add, Nat.add_zero, Nat.mul_zero, Nat.mul_one, Nat.one_mul, reduceIte, Nat.reduceEqDiff, Nat.reduceAdd, Nat.reduceMul, Nat.reduceSub, Nat.reduceLT, Nat.reduceLeDiff, Nat.reducePow, ite_true, ite_false, if_true, if_false, and_true, true_and, false_and, and_false, or_false, false_or, true_or, or_true, ne_eq, xite_t, xite_f, h5, hodd]
        intro m
        induction m with
        | zero => intro i X σ hz _ _ hiz; omega
        | succ m ih =>
          intro i X σ hz hi hev hiz hR h h21 hs
          have h5 := hs.2.2.2.2.1
          have h100 := hs.1.2.2.2
          have hR9 := h.1.2.2.1
          show ∃ σ', _ = some ((oI 4 (xite ((S.2.2 e).2.2.2.2.1 ≤ i) none (xite ((S.2.2 e).2.2.2.2.1 = i + 1) (some i) (xite (inb ((S.2.2 e).2.2.2.2.2 i) (xaR X)) (xite (inb ((S.2.2 e).2.2.2.2.2 (i + 1)) 4 ∧ fre X ((S.2.2 e).2.2.2.2.2 (i + 1)).toNatClampNeg ((S.2.2 e).2.2.2.2.2 i).toNatClampNeg = true) (jd (S.2.2 e).2.2.2.2.1 (S.2.2 e).2.2.2.2.2 m (i + 2) (nkX X ((S.2.2 e).2.2.2.2.2 (i + 1)).toNatClampNeg ((S.2.2 e).2.2.2.2.2 i).toNatClampNeg)) (some (i + 1))) (some i)))), 0, none), σ') ∧ _
          have done : ∀ q σ1, q < 300 → xF SmX σ σ1 → ML (rI σ1 21 0) (xaR S.1) S.1 → mShl σ1 e (S.2.2 e) → ∃ σ', run (d + 60) (65, 23, [some (.inr (.inr (17, (some 0)))), some (.inl (nI (e))), none, some (.inl (nI q)), some (.inl (nI (i + 2)))], [], σ1) = some ((nI q, 0, none), σ') ∧ ML (rI σ' 18 0) (xaR S.1) S.1 ∧ xF SmX σ σ' := by
            intro q σ1 hq hF h21 hs
            have h5 := hs.2.2.2.2.1
            obtain ⟨σ2, g1, g2, g3⟩ := fin (some q) σ1 (fun _ h => by cases h; exact hq) h21 hs
            refine ⟨σ2, ?_, g2, xF_trans hF g3⟩
            rw [B65_23]
            simp (disch := omega) only [n_cl, n_lt, n_le, n_eq, n_lt0, n_0lt, n_le0, n_eq0, n_gneq, n_ngeq, n_ng0, n_nglt, n_glt, n_gle, n_ltg, n_leg, n_gg, n_ge0, n_add, n_mul, n_rem, n_shl1, n_and, n_or, n_bit, n_not, n_not', n_B1, n_B0, n_BB, obind, xite_T, xite_F, xite_not, xite_same, oI_s, oI_n, Bool.false_eq_true, reduceCtorEq, eq_self, Classical.not_not, bI_T, bI_Fa, bI_0, bI_n0, bI_x, xb_0, xb_1, xite_bI, xite_bI', not_true_eq_false, not_false_eq_true, Nat.zero_add, Nat.add_zero, Nat.mul_zero, Nat.mul_one, Nat.one_mul, reduceIte, Nat.reduceEqDiff, Nat.reduceAdd, Nat.reduceMul, Nat.reduceSub, Nat.reduceLT, Nat.reduceLeDiff, Nat.reducePow, ite_true, ite_false, if_true, if_false, and_true, true_and, false_and, and_false, or_false, false_or, true_or, or_true, ne_eq, xite_t, xite_f, h5]
            exact g1
          rw [B65_23]
          by_cases c1 : (S.2.2 e).2.2.2.2.1 ≤ i
          · obtain ⟨σ2, g1, g2, g3⟩ := fin none σ (fun _ h => by cases h) h21 hs
            refine ⟨σ2, ?_, g2, g3⟩
            have hne : ¬ (S.2.2 e).2.2.2.2.1 % 2 = 1 := by omega
            simp only [if_neg hne] at g1
            simp (disch := omega) only [n_cl, n_lt, n_le, n_eq, n_lt0, n_0lt, n_le0, n_eq0, n_gneq, n_ngeq, n_ng0, n_nglt, n_glt, n_gle, n_ltg, n_leg, n_gg, n_ge0, n_add, n_mul, n_rem, n_shl1, n_and, n_or, n_bit, n_not, n_not', n_B1, n_B0, n_BB, obind, xite_T, xite_F, xite_not, xite_same, oI_s, oI_n, Bool.false_eq_true, reduceCtorEq, eq_self, Classical.not_not, bI_T, bI_Fa, bI_0, bI_n0, bI_x, xb_0, xb_1, xite_bI, xite_bI', not_true_eq_false, not_false_eq_true, Nat.zero_add, Nat.add_zero, Nat.mul_zero, Nat.mul_one, Nat.one_mul, reduceIte, Nat.reduceEqDiff, Nat.reduceAdd, Nat.reduceMul, Nat.reduceSub, Nat.reduceLT, Nat.reduceLeDiff, Nat.reducePow, ite_true, ite_false, if_true, if_false, and_true, true_and, false_and, and_false, or_false, false_or, true_or, or_true, ne_eq, xite_t, xite_f, h5, c1]
            exact g1
          · by_cases c2 : (S.2.2 e).2.2.2.2.1 = i + 1
            · obtain ⟨σ2, g1, g2, g3⟩ := fin none σ (fun _ h => by cases h) h21 hs
              refine ⟨σ2, ?_, g2, g3⟩
              have hne : (S.2.2 e).2.2.2.2.1 % 2 = 1 := by omega
              simp only [if_pos hne] at g1
              rw [xite_f c1, xite_t c2]
              have e9 : (S.2.2 e).2.2.2.2.1 - 1 = i := by omega
              rw [e9] at g1
              simp (disch := omega) only [n_cl, n_lt, n_le, n_eq, n_lt0, n_0lt, n_le0, n_eq0, n_gneq, n_ngeq, n_ng0, n_nglt, n_glt, n_gle, n_ltg, n_leg, n_gg, n_ge0, n_add, n_mul, n_rem, n_shl1, n_and, n_or, n_bit, n_not, n_not', n_B1, n_B0, n_BB, obind, xite_T, xite_F, xite_not, xite_same, oI_s, oI_n, Bool.false_eq_true, reduceCtorEq, eq_self, Classical.not_not, bI_T, bI_Fa, bI_0, bI_n0, bI_x, xb_0, xb_1, xite_bI, xite_bI', not_true_eq_false, not_false_eq_true, Nat.zero_add, Nat.add_zero, Nat.mul_zero, Nat.mul_one, Nat.one_mul, reduceIte, Nat.reduceEqDiff, Nat.reduceAdd, Nat.reduceMul, Nat.reduceSub, Nat.reduceLT, Nat.reduceLeDiff, Nat.reducePow, ite_true, ite_false, if_true, if_false, and_true, true_and, false_and, and_false, or_false, false_or, true_or, or_true, ne_eq, xite_t, xite_f, h5, c2]
              exact g1
            · have k1 := M55 (d + 57) σ hs he (show i < 100 by omega)
              have k2 := M55 (d + 57) σ hs he (show i + 1 < 100 by omega)
              have n40 : ¬ (0 : Int32) ≤ -nI 4 := by decide
              rw [xite_f c1, xite_f c2]
              simp (disch := omega) only [n_cl, n_lt, n_le, n_eq, n_lt0, n_0lt, n_le0, n_eq0, n_gneq, n_ngeq, n_ng0, n_nglt, n_glt, n_gle, n_ltg, n_leg, n_gg, n_ge0, n_add, n_mul, n_rem, n_shl1, n_and, n_or, n_bit, n_not, n_not', n_B1, n_B0, n_BB, obind, xite_T, xite_F, xite_not, xite_same, oI_s, oI_n, Bool.false_eq_true, reduceCtorEq, eq_self, Classical.not_not, bI_T, bI_Fa, bI_0, bI_n0, bI_x, xb_0, xb_1, xite_bI, xite_bI', not_true_eq_false, not_false_eq_true, Nat.zero_add, Nat.add_zero, Nat.mul_zero, Nat.mul_one, Nat.one_mul, reduceIte, Nat.reduceEqDiff, Nat.reduceAdd, Nat.reduceMul, Nat.reduceSub, Nat.reduceLT, Nat.reduceLeDiff, Nat.reducePow, ite_true, ite_false, if_true, if_false, and_true, true_and, false_and, and_false, or_false, false_or, true_or, or_true, ne_eq, xite_t, xite_f, h5, n40]
              rw [B64_0]
              simp (disch := omega) only [n_cl, n_lt, n_le, n_eq, n_lt0, n_0lt, n_le0, n_eq0, n_gneq, n_ngeq, n_ng0, n_nglt, n_glt, n_gle, n_ltg, n_leg, n_gg, n_ge0, n_add, n_mul, n_rem, n_shl1, n_and, n_or, n_bit, n_not, n_not', n_B1, n_B0, n_BB, obind, xite_T, xite_F, xite_not, xite_same, oI_s, oI_n, Bool.false_eq_true, reduceCtorEq, eq_self, Classical.not_not, bI_T, bI_Fa, bI_0, bI_n0, bI_x, xb_0, xb_1, xite_bI, xite_bI', not_true_eq_false, not_false_eq_true, Nat.zero_add, Nat.add_zero, Nat.mul_zero, Nat.mul_one, Nat.one_mul, reduceIte, Nat.reduceEqDiff, Nat.reduceAdd, Nat.reduceMul, Nat.reduceSub, Nat.reduceLT, Nat.reduceLeDiff, Nat.reducePow, ite_true, ite_false, if_true, if_false, and_true, true_and, false_and, and_false, or_false, false_or, true_or, or_true, ne_eq, xite_t, xite_f, k1, k2, M4 _ _ _ h, M6]
              rw [hR]
              by_cases c3 : inb ((S.2.2 e).2.2.2.2.2 i) (xaR S.1)
              · rw [xite_t c3, xite_t c3]
                by_cases c5 : inb ((S.2.2 e).2.2.2.2.2 (i + 1)) 4
                · obtain ⟨r, hr, er⟩ := inb_of c3 (by omega)
                  obtain ⟨g, hg, eg⟩ := inb_of c5 (by omega)
                  rw [er] at c3 ⊢
                  rw [eg] at c5 ⊢
                  rw [n_cl (show r < 2147483648 by omega), n_cl (show g < 2147483648 by omega)]
                  rw [xite_t c5]
                  rw [M17 _ _ h hr hg]
                  simp (disch := omega) only [n_cl, n_lt, n_le, n_eq, n_lt0, n_0lt, n_le0, n_eq0, n_gneq, n_ngeq, n_ng0, n_nglt, n_glt, n_gle, n_ltg, n_leg, n_gg, n_ge0, n_add, n_mul, n_rem, n_shl1, n_and, n_or, n_bit, n_not, n_not', n_B1, n_B0, n_BB, obind, xite_T, xite_F, xite_not, xite_same, oI_s, oI_n, Bool.false_eq_true, reduceCtorEq, eq_self, Classical.not_not, bI_T, bI_Fa, bI_0, bI_n0, bI_x, xb_0, xb_1, xite_bI, xite_bI', not_true_eq_false, not_false_eq_true, Nat.zero_add, Nat.add_zero, Nat.mul_zero, Nat.mul_one, Nat.one_mul, reduceIte, Nat.reduceEqDiff, Nat.reduceAdd, Nat.reduceMul, Nat.reduceSub, Nat.reduceLT, Nat.reduceLeDiff, Nat.reducePow, ite_true, ite_false, if_true, if_false, and_true, true_and, false_and, and_false, or_false, false_or, true_or, or_true, ne_eq, c5]
                  by_cases c6 : fre X g r = true
                  · have hb2 := h.1.2.2.2.2.2.1 r hr
                    have hf0 : (xaN X r).testBit g = false := by rw [fre_t] at c6; exact c6
                    obtain ⟨n1, n2⟩ := nk_back _ hb2.2.2.2.2.2 _ hg hf0
                    have hw1 : xF SmX σ (wI σ 18 0 (3 + 4 * r + 3) (nI (xaN X r ||| 2 ^ g))) := xF_wI (xF_refl σ) _ (by unfold SmX; omega)
                    have hM1 : ML (rI (wI σ 18 0 (3 + 4 * r + 3) (nI (xaN X r ||| 2 ^ g))) 18 0) (xaR S.1) (nkX X g r) := by
                      rw [w_I1]; exact ML_nk h hr n2
                    obtain ⟨σ2, g1, g2, g3⟩ := ih (i + 2) (nkX X g r) _ (by omega) (by omega) (by omega) (by omega) hR hM1 (by simp (disch := omega) only [n_cl, n_lt, n_le, n_eq, n_lt0, n_0lt, n_le0, n_eq0, n_gneq, n_ngeq, n_ng0, n_nglt, n_glt, n_gle, n_ltg, n_leg, n_gg, n_ge0, n_add, n_mul, n_rem, n_shl1, n_and, n_or, n_bit, n_not, n_not', n_B1, n_B0, n_BB, obind, xite_T, xite_F, xite_not, xite_same, oI_s, oI_n, Bool.false_eq_true, reduceCtorEq, eq_self, Classical.not_not, bI_T, bI_Fa, bI_0, bI_n0, bI_x, xb_0, xb_1, xite_bI, xite_bI', not_true_eq_false, not_false_eq_true, Nat.zero_add, Nat.add_zero, Nat.mul_zero, Nat.mul_one, Nat.one_mul, reduceIte, Nat.reduceEqDiff, Nat.reduceAdd, Nat.reduceMul, Nat.reduceSub, Nat.reduceLT, Nat.reduceLeDiff, Nat.reducePow, ite_true, ite_false, if_true, if_false, and_true, true_and, false_and, and_false, or_false, false_or, true_or, or_true, ne_eq, xite_t, xite_f, w_I2, w_Is, w_In, w_IL, w_IP, w_IC, w_LI, w_LP, w_LC, w_PI, w_PL, w_PC]; exact h21) (mShl_X hs hw1)
                    refine ⟨σ2, ?_, g2, xF_trans hw1 g3⟩
                    rw [xite_t c6, xite_t c6, M8_3 _ _ h hr]
                    simp (disch := omega) only [n_cl, n_lt, n_le, n_eq, n_lt0, n_0lt, n_le0, n_eq0, n_gneq, n_ngeq, n_ng0, n_nglt, n_glt, n_gle, n_ltg, n_leg, n_gg, n_ge0, n_add, n_mul, n_rem, n_shl1, n_and, n_or, n_bit, n_not, n_not', n_B1, n_B0, n_BB, obind, xite_T, xite_F, xite_not, xite_same, oI_s, oI_n, Bool.false_eq_true, reduceCtorEq, eq_self, Classical.not_not, bI_T, bI_Fa, bI_0, bI_n0, bI_x, xb_0, xb_1, xite_bI, xite_bI', not_true_eq_false, not_false_eq_true, Nat.zero_add, Nat.add_zero, Nat.mul_zero, Nat.mul_one, Nat.one_mul, reduceIte, Nat.reduceEqDiff, Nat.reduceAdd, Nat.reduceMul, Nat.reduceSub, Nat.reduceLT, Nat.reduceLeDiff, Nat.reducePow, ite_true, ite_false, if_true, if_false, and_true, true_and, false_and, and_false, or_false, false_or, true_or, or_true, ne_eq, xite_t, xite_f, M9]
                    exact g1
                  · obtain ⟨σ2, g1, g2, g3⟩ := done (i + 1) σ (by omega) (xF_refl σ) h21 hs
                    refine ⟨σ2, ?_, g2, g3⟩
                    rw [xite_f c6, xite_f c6]
                    simp (disch := omega) only [n_cl, n_lt, n_le, n_eq, n_lt0, n_0lt, n_le0, n_eq0, n_gneq, n_ngeq, n_ng0, n_nglt, n_glt, n_gle, n_ltg, n_leg, n_gg, n_ge0, n_add, n_mul, n_rem, n_shl1, n_and, n_or, n_bit, n_not, n_not', n_B1, n_B0, n_BB, obind, xite_T, xite_F, xite_not, xite_same, oI_s, oI_n, Bool.false_eq_true, reduceCtorEq, eq_self, Classical.not_not, bI_T, bI_Fa, bI_0, bI_n0, bI_x, xb_0, xb_1, xite_bI, xite_bI', not_true_eq_false, not_false_eq_true, Nat.zero_add, Nat.add_zero, Nat.mul_zero, Nat.mul_one, Nat.one_mul, reduceIte, Nat.reduceEqDiff, Nat.reduceAdd, Nat.reduceMul, Nat.reduceSub, Nat.reduceLT, Nat.reduceLeDiff, Nat.reducePow, ite_true, ite_false, if_true, if_false, and_true, true_and, false_and, and_false, or_false, false_or, true_or, or_true, ne_eq, ]
                    exact g1
                · obtain ⟨σ2, g1, g2, g3⟩ := done (i + 1) σ (by omega) (xF_refl σ) h21 hs
                  refine ⟨σ2, ?_, g2, g3⟩
                  rw [xite_f c5, xite_f (fun q => c5 q.1)]
                  simp (disch := omega) only [n_cl, n_lt, n_le, n_eq, n_lt0, n_0lt, n_le0, n_eq0, n_gneq, n_ngeq, n_ng0, n_nglt, n_glt, n_gle, n_ltg, n_leg, n_gg, n_ge0, n_add, n_mul, n_rem, n_shl1, n_and, n_or, n_bit, n_not, n_not', n_B1, n_B0, n_BB, obind, xite_T, xite_F, xite_not, xite_same, oI_s, oI_n, Bool.false_eq_true, reduceCtorEq, eq_self, Classical.not_not, bI_T, bI_Fa, bI_0, bI_n0, bI_x, xb_0, xb_1, xite_bI, xite_bI', not_true_eq_false, not_false_eq_true, Nat.zero_add, Nat.add_zero, Nat.mul_zero, Nat.mul_one, Nat.one_mul, reduceIte, Nat.reduceEqDiff, Nat.reduceAdd, Nat.reduceMul, Nat.reduceSub, Nat.reduceLT, Nat.reduceLeDiff, Nat.reducePow, ite_true, ite_false, if_true, if_false, and_true, true_and, false_and, and_false, or_false, false_or, true_or, or_true, ne_eq, ]
                  exact g1
              · obtain ⟨σ2, g1, g2, g3⟩ := done i σ (by omega) (xF_refl σ) h21 hs
                refine ⟨σ2, ?_, g2, g3⟩
                rw [xite_f c3, xite_f c3]
                simp (disch := omega) only [n_cl, n_lt, n_le, n_eq, n_lt0, n_0lt, n_le0, n_eq0, n_gneq, n_ngeq, n_ng0, n_nglt, n_glt, n_gle, n_ltg, n_leg, n_gg, n_ge0, n_add, n_mul, n_rem, n_shl1, n_and, n_or, n_bit, n_not, n_not', n_B1, n_B0, n_BB, obind, xite_T, xite_F, xite_not, xite_same, oI_s, oI_n, Bool.false_eq_true, reduceCtorEq, eq_self, Classical.not_not, bI_T, bI_Fa, bI_0, bI_n0, bI_x, xb_0, xb_1, xite_bI, xite_bI', not_true_eq_false, not_false_eq_true, Nat.zero_add, Nat.add_zero, Nat.mul_zero, Nat.mul_one, Nat.one_mul, reduceIte, Nat.reduceEqDiff, Nat.reduceAdd, Nat.reduceMul, Nat.reduceSub, Nat.reduceLT, Nat.reduceLeDiff, Nat.reducePow, ite_true, ite_false, if_true, if_false, and_true, true_and, false_and, and_false, or_false, false_or, true_or, or_true, ne_eq, ]
                exact g1
      refine ⟨oI 4 (jd (S.2.2 e).2.2.2.2.1 (S.2.2 e).2.2.2.2.2 51 0 S.1), S, fun σ h => ?_, fun σ h => ?_⟩
      · have h100 := (h.2.2.2 e he).1.2.2.2
        obtain ⟨σ1, f1, f2, f3⟩ := C91 (d + 58) σ (i := 1) (j := 0) (by omega) h.1
        obtain ⟨σ2, g1, g2⟩ := lc 51 0 S.1 σ1 (by omega) (by omega) f2 (cSh_mi (h.2.2.2 e he) (xF_le f3 Sld_m))
        have hF : xF Smi σ σ2 := xF_trans (xF_le f3 Sld_m) g2
        refine ⟨σ2, ?_, CI_Scr h (xF_le hF Smi_S), kC_F hF (fun r j k s => Scr_16 _ _ _ (Smi_S _ _ _ s))⟩
        show run (d + 60) (xentry 157 _ σ) = _
        rw [B157_0, C171 _ _ (h.2.2.2 e he) he (by omega)]
        simp (disch := omega) only [n_cl, n_lt, n_le, n_eq, n_lt0, n_0lt, n_le0, n_eq0, n_gneq, n_ngeq, n_ng0, n_nglt, n_glt, n_gle, n_ltg, n_leg, n_gg, n_ge0, n_add, n_mul, n_rem, n_shl1, n_and, n_or, n_bit, n_not, n_not', n_B1, n_B0, n_BB, obind, xite_T, xite_F, xite_not, xite_same, oI_s, oI_n, Bool.false_eq_true, reduceCtorEq, eq_self, Classical.not_not, bI_T, bI_Fa, bI_0, bI_n0, bI_x, xb_0, xb_1, xite_bI, xite_bI', not_true_eq_false, not_false_eq_true, Nat.zero_add, Nat.add_zero, Nat.mul_zero, Nat.mul_one, Nat.one_mul, reduceIte, Nat.reduceEqDiff, Nat.reduceAdd, Nat.reduceMul, Nat.reduceSub, Nat.reduceLT, Nat.reduceLeDiff, Nat.reducePow, ite_true, ite_false, if_true, if_false, and_true, true_and, false_and, and_false, or_false, false_or, true_or, or_true, ne_eq, rrI_0, h2]
        rw [xite_t (by simp)]
        simp (disch := omega) only [n_cl, n_lt, n_le, n_eq, n_lt0, n_0lt, n_le0, n_eq0, n_gneq, n_ngeq, n_ng0, n_nglt, n_glt, n_gle, n_ltg, n_leg, n_gg, n_ge0, n_add, n_mul, n_rem, n_shl1, n_and, n_or, n_bit, n_not, n_not', n_B1, n_B0, n_BB, obind, xite_T, xite_F, xite_not, xite_same, oI_s, oI_n, Bool.false_eq_true, reduceCtorEq, eq_self, Classical.not_not, bI_T, bI_Fa, bI_0, bI_n0, bI_x, xb_0, xb_1, xite_bI, xite_bI', not_true_eq_false, not_false_eq_true, Nat.zero_add, Nat.add_zero, Nat.mul_zero, Nat.mul_one, Nat.one_mul, reduceIte, Nat.reduceEqDiff, Nat.reduceAdd, Nat.reduceMul, Nat.reduceSub, Nat.reduceLT, Nat.reduceLeDiff, Nat.reducePow, ite_true, ite_false, if_true, if_false, and_true, true_and, false_and, and_false, or_false, false_or, true_or, or_true, ne_eq, xite_t, xite_f, f1]
        exact g1
      · have h100 := (h.2.2.2 e he).1.2.2.2
        obtain ⟨σ1, f1, f2, f3, f4⟩ := M13 (d + 57) σ h.1
        obtain ⟨σ2, g1, g2, g3⟩ := lm 51 0 S.1 σ1 (by omega) (by omega) (by omega) (by omega) rfl f2 f3 (mShl_X (h.2.2.2 e he) (xF_le f4 S21_X))
        obtain ⟨m1, m2⟩ := MI_Z h (xF_trans (xF_le f4 S21_X) g3) g2
        refine ⟨σ2, ?_, m1, m2⟩
        show run (d + 60) (xentry 65 _ σ) = _
        rw [B65_0, M29 (p := 0 = 1) _ _ (h.2.2.2 e he) he (Or.inr ⟨by omega, rfl⟩)]
        simp (disch := omega) only [n_cl, n_lt, n_le, n_eq, n_lt0, n_0lt, n_le0, n_eq0, n_gneq, n_ngeq, n_ng0, n_nglt, n_glt, n_gle, n_ltg, n_leg, n_gg, n_ge0, n_add, n_mul, n_rem, n_shl1, n_and, n_or, n_bit, n_not, n_not', n_B1, n_B0, n_BB, obind, xite_T, xite_F, xite_not, xite_same, oI_s, oI_n, Bool.false_eq_true, reduceCtorEq, eq_self, Classical.not_not, bI_T, bI_Fa, bI_0, bI_n0, bI_x, xb_0, xb_1, xite_bI, xite_bI', not_true_eq_false, not_false_eq_true, Nat.zero_add, Nat.add_zero, Nat.mul_zero, Nat.mul_one, Nat.one_mul, reduceIte, Nat.reduceEqDiff, Nat.reduceAdd, Nat.reduceMul, Nat.reduceSub, Nat.reduceLT, Nat.reduceLeDiff, Nat.reducePow, ite_true, ite_false, if_true, if_false, and_true, true_and, false_and, and_false, or_false, false_or, true_or, or_true, ne_eq, rrI_0, h2]
        rw [xite_t (by simp)]
        simp (disch := omega) only [n_cl, n_lt, n_le, n_eq, n_lt0, n_0lt, n_le0, n_eq0, n_gneq, n_ngeq, n_ng0, n_nglt, n_glt, n_gle, n_ltg, n_leg, n_gg, n_ge0, n_add, n_mul, n_rem, n_shl1, n_and, n_or, n_bit, n_not, n_not', n_B1, n_B0, n_BB, obind, xite_T, xite_F, xite_not, xite_same, oI_s, oI_n, Bool.false_eq_true, reduceCtorEq, eq_self, Classical.not_not, bI_T, bI_Fa, bI_0, bI_n0, bI_x, xb_0, xb_1, xite_bI, xite_bI', not_true_eq_false, not_false_eq_true, Nat.zero_add, Nat.add_zero, Nat.mul_zero, Nat.mul_one, Nat.one_mul, reduceIte, Nat.reduceEqDiff, Nat.reduceAdd, Nat.reduceMul, Nat.reduceSub, Nat.reduceLT, Nat.reduceLeDiff, Nat.reducePow, ite_true, ite_false, if_true, if_false, and_true, true_and, false_and, and_false, or_false, false_or, true_or, or_true, ne_eq, xite_t, xite_f, f1]
        exact g1
    · refine duo_bad (rrI (S.2.2 e) (0 = 1)) (fun σ h => ?_) (fun σ h => ?_)
      · rw [B157_0, C171 _ _ (h.2.2.2 e he) he (by omega)]
        simp (disch := omega) only [n_cl, n_lt, n_le, n_eq, n_lt0, n_0lt, n_le0, n_eq0, n_gneq, n_ngeq, n_ng0, n_nglt, n_glt, n_gle, n_ltg, n_leg, n_gg, n_ge0, n_add, n_mul, n_rem, n_shl1, n_and, n_or, n_bit, n_not, n_not', n_B1, n_B0, n_BB, obind, xite_T, xite_F, xite_not, xite_same, oI_s, oI_n, Bool.false_eq_true, reduceCtorEq, eq_self, Classical.not_not, bI_T, bI_Fa, bI_0, bI_n0, bI_x, xb_0, xb_1, xite_bI, xite_bI', not_true_eq_false, not_false_eq_true, Nat.zero_add, Nat.add_zero, Nat.mul_zero, Nat.mul_one, Nat.one_mul, reduceIte, Nat.reduceEqDiff, Nat.reduceAdd, Nat.reduceMul, Nat.reduceSub, Nat.reduceLT, Nat.reduceLeDiff, Nat.reducePow, ite_true, ite_false, if_true, if_false, and_true, true_and, false_and, and_false, or_false, false_or, true_or, or_true, ne_eq, rrI_0, h2]
      · rw [B65_0, M29 (p := 0 = 1) _ _ (h.2.2.2 e he) he (Or.inr ⟨by omega, rfl⟩)]
        simp (disch := omega) only [n_cl, n_lt, n_le, n_eq, n_lt0, n_0lt, n_le0, n_eq0, n_gneq, n_ngeq, n_ng0, n_nglt, n_glt, n_gle, n_ltg, n_leg, n_gg, n_ge0, n_add, n_mul, n_rem, n_shl1, n_and, n_or, n_bit, n_not, n_not', n_B1, n_B0, n_BB, obind, xite_T, xite_F, xite_not, xite_same, oI_s, oI_n, Bool.false_eq_true, reduceCtorEq, eq_self, Classical.not_not, bI_T, bI_Fa, bI_0, bI_n0, bI_x, xb_0, xb_1, xite_bI, xite_bI', not_true_eq_false, not_false_eq_true, Nat.zero_add, Nat.add_zero, Nat.mul_zero, Nat.mul_one, Nat.one_mul, reduceIte, Nat.reduceEqDiff, Nat.reduceAdd, Nat.reduceMul, Nat.reduceSub, Nat.reduceLT, Nat.reduceLeDiff, Nat.reducePow, ite_true, ite_false, if_true, if_false, and_true, true_and, false_and, and_false, or_false, false_or, true_or, or_true, ne_eq, rrI_0, h2]
  · refine duo_bad (-nI 1) (fun σ h => ?_) (fun σ h => ?_)
    · rw [B157_0, C171_f _ _ hv]
      simp (disch := omega) only [n_cl, n_lt, n_le, n_eq, n_lt0, n_0lt, n_le0, n_eq0, n_gneq, n_ngeq, n_ng0, n_nglt, n_glt, n_gle, n_ltg, n_leg, n_gg, n_ge0, n_add, n_mul, n_rem, n_shl1, n_and, n_or, n_bit, n_not, n_not', n_B1, n_B0, n_BB, obind, xite_T, xite_F, xite_not, xite_same, oI_s, oI_n, Bool.false_eq_true, reduceCtorEq, eq_self, Classical.not_not, bI_T, bI_Fa, bI_0, bI_n0, bI_x, xb_0, xb_1, xite_bI, xite_bI', not_true_eq_false, not_false_eq_true, Nat.zero_add, Nat.add_zero, Nat.mul_zero, Nat.mul_one, Nat.one_mul, reduceIte, Nat.reduceEqDiff, Nat.reduceAdd, Nat.reduceMul, Nat.reduceSub, Nat.reduceLT, Nat.reduceLeDiff, Nat.reducePow, ite_true, ite_false, if_true, if_false, and_true, true_and, false_and, and_false, or_false, false_or, true_or, or_true, ne_eq, ]
    · rw [B65_0, M29_f _ _ hv]
      simp (disch := omega) only [n_cl, n_lt, n_le, n_eq, n_lt0, n_0lt, n_le0, n_eq0, n_gneq, n_ngeq, n_ng0, n_nglt, n_glt, n_gle, n_ltg, n_leg, n_gg, n_ge0, n_add, n_mul, n_rem, n_shl1, n_and, n_or, n_bit, n_not, n_not', n_B1, n_B0, n_BB, obind, xite_T, xite_F, xite_not, xite_same, oI_s, oI_n, Bool.false_eq_true, reduceCtorEq, eq_self, Classical.not_not, bI_T, bI_Fa, bI_0, bI_n0, bI_x, xb_0, xb_1, xite_bI, xite_bI', not_true_eq_false, not_false_eq_true, Nat.zero_add, Nat.add_zero, Nat.mul_zero, Nat.mul_one, Nat.one_mul, reduceIte, Nat.reduceEqDiff, Nat.reduceAdd, Nat.reduceMul, Nat.reduceSub, Nat.reduceLT, Nat.reduceLeDiff, Nat.reducePow, ite_true, ite_false, if_true, if_false, and_true, true_and, false_and, and_false, or_false, false_or, true_or, or_true, ne_eq, ]
