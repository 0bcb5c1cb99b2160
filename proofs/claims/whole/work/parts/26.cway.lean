/-! THE CLASS LOOKS FOR A WAY -/
theorem xob_s {i : Nat} {f : Nat → Option xR} : xob (some i) f = f i := rfl
theorem fl_id {A : Type} {f : Nat → A → A} {a : A} (h : ∀ r, f r a = a) : ∀ n r, fl f n r a = a := by
  intro n
  induction n with
  | zero => intro r; rfl
  | succ n ih => intro r; show fl f n (r + 1) (f r a) = a; rw [h, ih]
/-- nothing that is as heavy already betters it -/
theorem tT_prune {X : mX} {k f g goal w n' : Nat} {p' : Nat → Nat × Nat} : ∀ (m pl been n : Nat) (p : Nat → Nat × Nat) (sum : Nat), w ≤ sum → tT X k f g goal m pl been n p sum (some (w, n', p')) = some (w, n', p') := by
  intro m
  induction m with
  | zero => intro pl been n p sum h; rfl
  | succ m ih =>
    intro pl been n p sum h
    rw [tT_s]
    by_cases h1 : pl = goal
    · rw [if_pos h1]; exact if_pos h
    · rw [if_neg h1]
      by_cases h2 : k = 7 ∧ n = f
      · rw [if_pos h2]
      · rw [if_neg h2]
        apply fl_id
        intro r
        unfold tR
        cases oth X r pl with
        | none => rfl
        | some q =>
          show (if _ then _ else _) = _
          split
          · rfl
          · exact ih _ _ _ _ _ (by omega)
theorem tT_0 {X : mX} {k f g goal : Nat} {pl been n : Nat} {p : Nat → Nat × Nat} {sum : Nat} {acc : mW} (h : ¬ pl = goal) : tT X k f g goal 1 pl been n p sum acc = acc := by
  rw [tT_s, if_neg h]
  split
  · rfl
  · apply fl_id
    intro r
    unfold tR
    cases oth X r pl with
    | none => rfl
    | some q =>
      show (if _ then _ else _) = _
      split
      · rfl
      · rfl
/-- the way that the class has found -/
def cA (σ : xS) (X : mX) : mW → Prop
  | none => rI σ 8 0 2 = nI 0
  | some (w, n, p) => rI σ 8 0 2 = nI n ∧ rI σ 8 0 3 = nI w ∧ 0 < n ∧ n ≤ 5 ∧ w ≤ 100 * n ∧ pOk X n p ∧ ∀ i, i < n → rI σ 9 0 i = nI (p i).1
def cT (σ : xS) (n : Nat) (p : Nat → Nat × Nat) : Prop := ∀ i, i < n → rI σ 10 0 i = nI (p i).1
def S135 (r _ k : Nat) : Prop := r = 9 ∨ r = 10 ∨ (r = 8 ∧ 2 ≤ k ∧ k ≤ 3)
theorem cA_w {σ σ' : xS} {X : mX} {acc : mW} (h : cA σ X acc) (h1 : rI σ' 8 0 2 = rI σ 8 0 2) (h2 : rI σ' 8 0 3 = rI σ 8 0 3) (h3 : rI σ' 9 0 = rI σ 9 0) : cA σ' X acc := by
  cases acc with
  | none => unfold cA; rw [h1]; exact h
  | some t =>
    obtain ⟨w, n, p⟩ := t
    unfold cA
    rw [h1, h2, h3]
    exact h
theorem cT_U {σ : xS} {n r l : Nat} {p : Nat → Nat × Nat} (h : cT σ n p) : cT (wI σ 10 0 n (nI r)) (n + 1) (pU p n (r, l)) := by
  intro i hi
  unfold pU
  by_cases e : i = n
  · subst e
    rw [if_pos rfl]
    simp (disch := omega) only [n_cl, n_lt, n_le, n_eq, n_lt0, n_0lt, n_le0, n_eq0, n_gneq, n_ngeq, n_ng0, n_nglt, n_glt, n_gle, n_ltg, n_leg, n_gg, n_ge0, n_add, n_mul, n_rem, n_shl1, n_and, n_or, n_bit, n_not, n_not', n_B1, n_B0, n_BB, obind, xite_T, xite_F, xite_not, xite_same, oI_s, oI_n, Bool.false_eq_true, reduceCtorEq, eq_self, Classical.not_not, bI_T, bI_Fa, bI_0, bI_n0, bI_x, xb_0, xb_1, xite_bI, xite_bI', not_true_eq_false, not_false_eq_true, Nat.zero_add, Nat.add_zero, Nat.mul_zero, Nat.mul_one, Nat.one_mul, reduceIte, Nat.reduceEqDiff, Nat.reduceAdd, Nat.reduceMul, Nat.reduceSub, Nat.reduceLT, Nat.reduceLeDiff, Nat.reducePow, ite_true, ite_false, if_true, if_false, and_true, true_and, false_and, and_false, or_false, false_or, true_or, or_true, ne_eq, xite_t, xite_f, w_I2, w_Is, w_In, w_IL, w_IP, w_IC, w_LI, w_LP, w_LC, w_PI, w_PL, w_PC]
  · have := h i (by omega)
    rw [if_neg e]
    simp (disch := omega) only [n_cl, n_lt, n_le, n_eq, n_lt0, n_0lt, n_le0, n_eq0, n_gneq, n_ngeq, n_ng0, n_nglt, n_glt, n_gle, n_ltg, n_leg, n_gg, n_ge0, n_add, n_mul, n_rem, n_shl1, n_and, n_or, n_bit, n_not, n_not', n_B1, n_B0, n_BB, obind, xite_T, xite_F, xite_not, xite_same, oI_s, oI_n, Bool.false_eq_true, reduceCtorEq, eq_self, Classical.not_not, bI_T, bI_Fa, bI_0, bI_n0, bI_x, xb_0, xb_1, xite_bI, xite_bI', not_true_eq_false, not_false_eq_true, Nat.zero_add, Nat.add_zero, Nat.mul_zero, Nat.mul_one, Nat.one_mul, reduceIte, Nat.reduceEqDiff, Nat.reduceAdd, Nat.reduceMul, Nat.reduceSub, Nat.reduceLT, Nat.reduceLeDiff, Nat.reducePow, ite_true, ite_false, if_true, if_false, and_true, true_and, false_and, and_false, or_false, false_or, true_or, or_true, ne_eq, xite_t, xite_f, w_I2, w_Is, w_In, w_IL, w_IP, w_IC, w_LI, w_LP, w_LC, w_PI, w_PL, w_PC]
    exact this
/-- what the search looks at -/
def cW (σ : xS) (i q g goal k f : Nat) (X : mX) : Prop := CL σ i X ∧ rP σ 8 0 4 = some i ∧ rP σ 8 0 5 = some q ∧ rI σ 8 0 6 = nI g ∧ rI σ 8 0 8 = nI goal ∧ cOk σ q k f
theorem cW_F {S : Nat → Nat → Nat → Prop} {σ σ' : xS} {i q g goal k f : Nat} {X : mX} (h : cW σ i q g goal k f X) (hF : xF S σ σ') (hS : ∀ r j k, S r j k → S135 r j k) : cW σ' i q g goal k f X := by
  have hn : ∀ r j k, ¬ S135 r j k → ¬ S r j k := fun r j k n s => n (hS r j k s)
  obtain ⟨a, b, c, d, e, o⟩ := h
  refine ⟨CL_F a hF (fun r k hr => hn _ _ _ (by unfold S135; omega)) (fun j k => hn _ _ _ (by unfold S135; omega)), ?_, ?_, ?_, ?_, cOk_w o hF.2.2.2.1 (xF_I hF (fun k => hn _ _ _ (by unfold S135; omega)))⟩
  · rw [hF.2.2.1 8 0 4 (hn _ _ _ (by unfold S135; omega))]; exact b
  · rw [hF.2.2.1 8 0 5 (hn _ _ _ (by unfold S135; omega))]; exact c
  · rw [hF.1 8 0 6 (hn _ _ _ (by unfold S135; omega))]; exact d
  · rw [hF.1 8 0 8 (hn _ _ _ (by unfold S135; omega))]; exact e
theorem C135p (X : mX) (d : Nat) (σ : xS) {i q g goal pl been n sum k f L r : Nat} (h : cW σ i q g goal k f X) (hr : r < xaR X) (hpl : pl < 6) (hk : k < 8) (hf : f ≤ 9) (hb : been < 64) (hL : L < 16)
    (ho : oth X r pl = none ∨ ∃ q, oth X r pl = some q ∧ (been.testBit q = true ∨ (¬ xaN X r &&& L = 0 ∧ ¬ (k = 5 ∧ r = f)))) :
    run (d + 3) (135, 103, [some (.inr (.inr (8, (some 0)))), some (.inl (nI (pl))), some (.inl (nI (been))), some (.inl (nI (n))), some (.inl (nI (sum))), some (.inl (nI (L))), some (.inl (nI (r))), none, none], [], σ) = run (d + 3) (135, 103, [some (.inr (.inr (8, (some 0)))), some (.inl (nI (pl))), some (.inl (nI (been))), some (.inl (nI (n))), some (.inl (nI (sum))), some (.inl (nI (L))), some (.inl (nI (r + 1))), none, none], [], σ) := by
  obtain ⟨hC, h4, h5, h6, h8, hO⟩ := h
  have hX := hC.1
  have hb2 := hX.2.2.2.2.2.1 r hr
  have h9 := hX.2.2.1
  rw [B135_103]
  simp (disch := omega) only [n_cl, n_lt, n_le, n_eq, n_lt0, n_0lt, n_le0, n_eq0, n_gneq, n_ngeq, n_ng0, n_nglt, n_glt, n_gle, n_ltg, n_leg, n_gg, n_ge0, n_add, n_mul, n_rem, n_shl1, n_and, n_or, n_bit, n_not, n_not', n_B1, n_B0, n_BB, obind, xite_T, xite_F, xite_not, xite_same, oI_s, oI_n, Bool.false_eq_true, reduceCtorEq, eq_self, Classical.not_not, bI_T, bI_Fa, bI_0, bI_n0, bI_x, xb_0, xb_1, xite_bI, xite_bI', not_true_eq_false, not_false_eq_true, Nat.zero_add, Nat.add_zero, Nat.mul_zero, Nat.mul_one, Nat.one_mul, reduceIte, Nat.reduceEqDiff, Nat.reduceAdd, Nat.reduceMul, Nat.reduceSub, Nat.reduceLT, Nat.reduceLeDiff, Nat.reducePow, ite_true, ite_false, if_true, if_false, and_true, true_and, false_and, and_false, or_false, false_or, true_or, or_true, ne_eq, xite_t, xite_f, h4, h5, xob_s, hC.2.2.1, C103 _ _ hC hr hpl]
  rcases ho with ho | ⟨q', ho, h1⟩
  · rw [ho]
    simp (disch := omega) only [n_cl, n_lt, n_le, n_eq, n_lt0, n_0lt, n_le0, n_eq0, n_gneq, n_ngeq, n_ng0, n_nglt, n_glt, n_gle, n_ltg, n_leg, n_gg, n_ge0, n_add, n_mul, n_rem, n_shl1, n_and, n_or, n_bit, n_not, n_not', n_B1, n_B0, n_BB, obind, xite_T, xite_F, xite_not, xite_same, oI_s, oI_n, Bool.false_eq_true, reduceCtorEq, eq_self, Classical.not_not, bI_T, bI_Fa, bI_0, bI_n0, bI_x, xb_0, xb_1, xite_bI, xite_bI', not_true_eq_false, not_false_eq_true, Nat.zero_add, Nat.add_zero, Nat.mul_zero, Nat.mul_one, Nat.one_mul, reduceIte, Nat.reduceEqDiff, Nat.reduceAdd, Nat.reduceMul, Nat.reduceSub, Nat.reduceLT, Nat.reduceLeDiff, Nat.reducePow, ite_true, ite_false, if_true, if_false, and_true, true_and, false_and, and_false, or_false, false_or, true_or, or_true, ne_eq, xite_t, xite_f, ]
  · have hq := oth_lt hX hr ho
    rw [ho]
    simp (disch := omega) only [n_cl, n_lt, n_le, n_eq, n_lt0, n_0lt, n_le0, n_eq0, n_gneq, n_ngeq, n_ng0, n_nglt, n_glt, n_gle, n_ltg, n_leg, n_gg, n_ge0, n_add, n_mul, n_rem, n_shl1, n_and, n_or, n_bit, n_not, n_not', n_B1, n_B0, n_BB, obind, xite_T, xite_F, xite_not, xite_same, oI_s, oI_n, Bool.false_eq_true, reduceCtorEq, eq_self, Classical.not_not, bI_T, bI_Fa, bI_0, bI_n0, bI_x, xb_0, xb_1, xite_bI, xite_bI', not_true_eq_false, not_false_eq_true, Nat.zero_add, Nat.add_zero, Nat.mul_zero, Nat.mul_one, Nat.one_mul, reduceIte, Nat.reduceEqDiff, Nat.reduceAdd, Nat.reduceMul, Nat.reduceSub, Nat.reduceLT, Nat.reduceLeDiff, Nat.reducePow, ite_true, ite_false, if_true, if_false, and_true, true_and, false_and, and_false, or_false, false_or, true_or, or_true, ne_eq, xite_t, xite_f, C167, C99 _ _ hC hr, h4, h5, xob_s]
    by_cases ht : been.testBit q' = true
    · simp (disch := omega) only [n_cl, n_lt, n_le, n_eq, n_lt0, n_0lt, n_le0, n_eq0, n_gneq, n_ngeq, n_ng0, n_nglt, n_glt, n_gle, n_ltg, n_leg, n_gg, n_ge0, n_add, n_mul, n_rem, n_shl1, n_and, n_or, n_bit, n_not, n_not', n_B1, n_B0, n_BB, obind, xite_T, xite_F, xite_not, xite_same, oI_s, oI_n, Bool.false_eq_true, reduceCtorEq, eq_self, Classical.not_not, bI_T, bI_Fa, bI_0, bI_n0, bI_x, xb_0, xb_1, xite_bI, xite_bI', not_true_eq_false, not_false_eq_true, Nat.zero_add, Nat.add_zero, Nat.mul_zero, Nat.mul_one, Nat.one_mul, reduceIte, Nat.reduceEqDiff, Nat.reduceAdd, Nat.reduceMul, Nat.reduceSub, Nat.reduceLT, Nat.reduceLeDiff, Nat.reducePow, ite_true, ite_false, if_true, if_false, and_true, true_and, false_and, and_false, or_false, false_or, true_or, or_true, ne_eq, ht]
    · rcases h1 with h1 | ⟨h1, h2⟩
      · exact absurd h1 ht
      · rw [xite_f ht, C_may _ _ hO hk hf (by omega) hb2.2.2.2.2.2]
        simp (disch := omega) only [n_cl, n_lt, n_le, n_eq, n_lt0, n_0lt, n_le0, n_eq0, n_gneq, n_ngeq, n_ng0, n_nglt, n_glt, n_gle, n_ltg, n_leg, n_gg, n_ge0, n_add, n_mul, n_rem, n_shl1, n_and, n_or, n_bit, n_not, n_not', n_B1, n_B0, n_BB, obind, xite_T, xite_F, xite_not, xite_same, oI_s, oI_n, Bool.false_eq_true, reduceCtorEq, eq_self, Classical.not_not, bI_T, bI_Fa, bI_0, bI_n0, bI_x, xb_0, xb_1, xite_bI, xite_bI', not_true_eq_false, not_false_eq_true, Nat.zero_add, Nat.add_zero, Nat.mul_zero, Nat.mul_one, Nat.one_mul, reduceIte, Nat.reduceEqDiff, Nat.reduceAdd, Nat.reduceMul, Nat.reduceSub, Nat.reduceLT, Nat.reduceLeDiff, Nat.reducePow, ite_true, ite_false, if_true, if_false, and_true, true_and, false_and, and_false, or_false, false_or, true_or, or_true, ne_eq, ]
        rw [xite_f (fun e => e.elim h1 h2)]
theorem C135g (X : mX) (d : Nat) (σ : xS) {i q g goal pl been n sum k f L r q' : Nat} (h : cW σ i q g goal k f X) (hr : r < xaR X) (hpl : pl < 6) (hk : k < 8) (hf : f ≤ 9) (hb : been < 64) (hL : L < 16) (hn : n < 5)
    (ho : oth X r pl = some q') (ht : been.testBit q' = false) (hgo : xaN X r &&& L = 0 ∨ (k = 5 ∧ r = f)) :
    run (d + 3) (135, 103, [some (.inr (.inr (8, (some 0)))), some (.inl (nI (pl))), some (.inl (nI (been))), some (.inl (nI (n))), some (.inl (nI (sum))), some (.inl (nI (L))), some (.inl (nI (r))), none, none], [], σ) = (run (d + 2) (xentry 135 [.inr (.inr (8, (some 0))), .inl (nI q'), .inl (nI (been ||| 2 ^ q')), .inl (nI (n + 1)), .inl (nI (sum + wtm k f r (xaM X r) (xaN X r)))] (wI σ 10 0 n (nI r)))).bind fun q14 => run (d + 3) (135, 103, [some (.inr (.inr (8, (some 0)))), some (.inl (nI (pl))), some (.inl (nI (been))), some (.inl (nI (n))), some (.inl (nI (sum))), some (.inl (nI (L))), some (.inl (nI (r + 1))), none, none], [], q14.2) := by
  have hF : xF S135 σ (wI σ 10 0 n (nI r)) := xF_wI (xF_refl σ) _ (by unfold S135; omega)
  obtain ⟨hC', h4', h5', h6', h8', hO'⟩ := cW_F h hF (fun _ _ _ s => s)
  obtain ⟨hC, h4, h5, h6, h8, hO⟩ := h
  have hX := hC.1
  have hb2 := hX.2.2.2.2.2.1 r hr
  have h9 := hX.2.2.1
  have hM := (hC.2.2.2.2.1 r hr).2.2
  have hq := oth_lt hX hr ho
  rw [B135_103]
  simp (disch := omega) only [n_cl, n_lt, n_le, n_eq, n_lt0, n_0lt, n_le0, n_eq0, n_gneq, n_ngeq, n_ng0, n_nglt, n_glt, n_gle, n_ltg, n_leg, n_gg, n_ge0, n_add, n_mul, n_rem, n_shl1, n_and, n_or, n_bit, n_not, n_not', n_B1, n_B0, n_BB, obind, xite_T, xite_F, xite_not, xite_same, oI_s, oI_n, Bool.false_eq_true, reduceCtorEq, eq_self, Classical.not_not, bI_T, bI_Fa, bI_0, bI_n0, bI_x, xb_0, xb_1, xite_bI, xite_bI', not_true_eq_false, not_false_eq_true, Nat.zero_add, Nat.add_zero, Nat.mul_zero, Nat.mul_one, Nat.one_mul, reduceIte, Nat.reduceEqDiff, Nat.reduceAdd, Nat.reduceMul, Nat.reduceSub, Nat.reduceLT, Nat.reduceLeDiff, Nat.reducePow, ite_true, ite_false, if_true, if_false, and_true, true_and, false_and, and_false, or_false, false_or, true_or, or_true, ne_eq, xite_t, xite_f, h4, h5, xob_s, hC.2.2.1, C103 _ _ hC hr hpl, ho, C167, C99 _ _ hC hr, ht]
  rw [C_may _ _ hO hk hf (by omega) hb2.2.2.2.2.2]
  simp (disch := omega) only [n_cl, n_lt, n_le, n_eq, n_lt0, n_0lt, n_le0, n_eq0, n_gneq, n_ngeq, n_ng0, n_nglt, n_glt, n_gle, n_ltg, n_leg, n_gg, n_ge0, n_add, n_mul, n_rem, n_shl1, n_and, n_or, n_bit, n_not, n_not', n_B1, n_B0, n_BB, obind, xite_T, xite_F, xite_not, xite_same, oI_s, oI_n, Bool.false_eq_true, reduceCtorEq, eq_self, Classical.not_not, bI_T, bI_Fa, bI_0, bI_n0, bI_x, xb_0, xb_1, xite_bI, xite_bI', not_true_eq_false, not_false_eq_true, Nat.zero_add, Nat.add_zero, Nat.mul_zero, Nat.mul_one, Nat.one_mul, reduceIte, Nat.reduceEqDiff, Nat.reduceAdd, Nat.reduceMul, Nat.reduceSub, Nat.reduceLT, Nat.reduceLeDiff, Nat.reducePow, ite_true, ite_false, if_true, if_false, and_true, true_and, false_and, and_false, or_false, false_or, true_or, or_true, ne_eq, ]
  rw [xite_t hgo]
  simp (disch := omega) only [n_cl, n_lt, n_le, n_eq, n_lt0, n_0lt, n_le0, n_eq0, n_gneq, n_ngeq, n_ng0, n_nglt, n_glt, n_gle, n_ltg, n_leg, n_gg, n_ge0, n_add, n_mul, n_rem, n_shl1, n_and, n_or, n_bit, n_not, n_not', n_B1, n_B0, n_BB, obind, xite_T, xite_F, xite_not, xite_same, oI_s, oI_n, Bool.false_eq_true, reduceCtorEq, eq_self, Classical.not_not, bI_T, bI_Fa, bI_0, bI_n0, bI_x, xb_0, xb_1, xite_bI, xite_bI', not_true_eq_false, not_false_eq_true, Nat.zero_add, Nat.add_zero, Nat.mul_zero, Nat.mul_one, Nat.one_mul, reduceIte, Nat.reduceEqDiff, Nat.reduceAdd, Nat.reduceMul, Nat.reduceSub, Nat.reduceLT, Nat.reduceLeDiff, Nat.reducePow, ite_true, ite_false, if_true, if_false, and_true, true_and, false_and, and_false, or_false, false_or, true_or, or_true, ne_eq, xite_t, xite_f, h4', h5', xob_s, C99 _ _ hC' hr, w_I2, w_Is, w_In, w_IL, w_IP, w_IC, w_LI, w_LP, w_LC, w_PI, w_PL, w_PC, hM]
  have eW := C_wt d (wI σ 10 0 n (nI r)) (r := r) hO' hk hf (by omega) hb2.2.2.2.2.1 hb2.2.2.2.2.2
  rw [w_IC] at eW
  rw [eW]
  simp (disch := omega) only [n_cl, n_lt, n_le, n_eq, n_lt0, n_0lt, n_le0, n_eq0, n_gneq, n_ngeq, n_ng0, n_nglt, n_glt, n_gle, n_ltg, n_leg, n_gg, n_ge0, n_add, n_mul, n_rem, n_shl1, n_and, n_or, n_bit, n_not, n_not', n_B1, n_B0, n_BB, obind, xite_T, xite_F, xite_not, xite_same, oI_s, oI_n, Bool.false_eq_true, reduceCtorEq, eq_self, Classical.not_not, bI_T, bI_Fa, bI_0, bI_n0, bI_x, xb_0, xb_1, xite_bI, xite_bI', not_true_eq_false, not_false_eq_true, Nat.zero_add, Nat.add_zero, Nat.mul_zero, Nat.mul_one, Nat.one_mul, reduceIte, Nat.reduceEqDiff, Nat.reduceAdd, Nat.reduceMul, Nat.reduceSub, Nat.reduceLT, Nat.reduceLeDiff, Nat.reducePow, ite_true, ite_false, if_true, if_false, and_true, true_and, false_and, and_false, or_false, false_or, true_or, or_true, ne_eq, ]
theorem C135 (X : mX) (i q k f g goal : Nat) (hk : k < 8) (hf : f ≤ 9) (hg : g < 4) (hgo : goal < 6) :
    ∀ (m d pl been n : Nat) (p : Nat → Nat × Nat) (sum : Nat) (acc : mW) (σ : xS), m + n = 6 → cW σ i q g goal k f X → pl < 6 → been < 64 → popf 6 been = n + 1 → pOk X n p → sum ≤ 100 * n → cT σ n p → cA σ X acc → (pl = goal → 0 < n) → (k = 7 → n ≤ f) →
    ∃ σ', run (d + m + 2) (xentry 135 [.inr (.inr (8, (some 0))), .inl (nI pl), .inl (nI been), .inl (nI n), .inl (nI sum)] σ) = some ((0, 0, none), σ') ∧ cA σ' X (tT X k f g goal m pl been n p sum acc) ∧ xF S135 σ σ' ∧ cT σ' n p := by
  intro m
  induction m with
  | zero =>
    intro d pl been n p sum acc σ hm h hpl hb hpop
    have := popf_7 been hb
    omega
  | succ m ih =>
    intro d pl been n p sum acc σ hm h hpl hb hpop hp hsum hT hA hpn hnf
    have hX := h.1.1
    have hR9 := hX.2.2.1
    have hP2 := hX.1
    have hP6 := hX.2.1
    have hL := ldm_lt (P := xaP X) (k := k) (f := f) (been := been) hg
    have loop : n < 5 → ¬ (k = 7 ∧ n = f) → ∀ (j r : Nat) (acc : mW) (σ : xS), r + j = xaR X → cW σ i q g goal k f X → cT σ n p → cA σ X acc →
        ∃ σ', run (d + m + 3) (135, 103, [some (.inr (.inr (8, (some 0)))), some (.inl (nI (pl))), some (.inl (nI (been))), some (.inl (nI (n))), some (.inl (nI (sum))), some (.inl (nI (ldm (xaP X) k f g been))), some (.inl (nI (r))), none, none], [], σ) = some ((0, 0, none), σ') ∧ cA σ' X (fl (tR X k f g goal m pl been n p sum) j r acc) ∧ xF S135 σ σ' ∧ cT σ' n p := by
      intro hn5 hn7 j
      induction j with
      | zero =>
        intro r acc σ hr h hT hA
        obtain ⟨hC, h4, h5, h6, h8, hO⟩ := h
        refine ⟨σ, ?_, hA, xF_refl σ, hT⟩
        rw [B135_103]
        simp (disch := omega) only [n_cl, n_lt, n_le, n_eq, n_lt0, n_0lt, n_le0, n_eq0, n_gneq, n_ngeq, n_ng0, n_nglt, n_glt, n_gle, n_ltg, n_leg, n_gg, n_ge0, n_add, n_mul, n_rem, n_shl1, n_and, n_or, n_bit, n_not, n_not', n_B1, n_B0, n_BB, obind, xite_T, xite_F, xite_not, xite_same, oI_s, oI_n, Bool.false_eq_true, reduceCtorEq, eq_self, Classical.not_not, bI_T, bI_Fa, bI_0, bI_n0, bI_x, xb_0, xb_1, xite_bI, xite_bI', not_true_eq_false, not_false_eq_true, Nat.zero_add, Nat.add_zero, Nat.mul_zero, Nat.mul_one, Nat.one_mul, reduceIte, Nat.reduceEqDiff, Nat.reduceAdd, Nat.reduceMul, Nat.reduceSub, Nat.reduceLT, Nat.reduceLeDiff, Nat.reducePow, ite_true, ite_false, if_true, if_false, and_true, true_and, false_and, and_false, or_false, false_or, true_or, or_true, ne_eq, xite_t, xite_f, h4, xob_s, hC.2.2.1]
      | succ j ij =>
        intro r acc σ hr h hT hA
        show ∃ σ', _ ∧ cA σ' X (fl (tR X k f g goal m pl been n p sum) j (r + 1) (tR X k f g goal m pl been n p sum r acc)) ∧ _
        have pass : ∀ (ho : oth X r pl = none ∨ ∃ q, oth X r pl = some q ∧ (been.testBit q = true ∨ (¬ xaN X r &&& ldm (xaP X) k f g been = 0 ∧ ¬ (k = 5 ∧ r = f)))), tR X k f g goal m pl been n p sum r acc = acc → ∃ σ', run (d + m + 3) (135, 103, [some (.inr (.inr (8, (some 0)))), some (.inl (nI (pl))), some (.inl (nI (been))), some (.inl (nI (n))), some (.inl (nI (sum))), some (.inl (nI (ldm (xaP X) k f g been))), some (.inl (nI (r))), none, none], [], σ) = some ((0, 0, none), σ') ∧ cA σ' X (fl (tR X k f g goal m pl been n p sum) j (r + 1) (tR X k f g goal m pl been n p sum r acc)) ∧ xF S135 σ σ' ∧ cT σ' n p := by
          intro ho e
          rw [e, C135p X (d + m) σ h (by omega) hpl hk hf hb hL ho]
          exact ij (r + 1) acc σ (by omega) h hT hA
        cases ho : oth X r pl with
        | none => exact pass (Or.inl ho) (by unfold tR; rw [ho])
        | some q' =>
          have hq := oth_lt hX (show r < xaR X by omega) ho
          by_cases hx : been.testBit q' = true ∨ (¬ xaN X r &&& ldm (xaP X) k f g been = 0 ∧ ¬ (k = 5 ∧ r = f))
          · exact pass (Or.inr ⟨q', ho, hx⟩) (by unfold tR; rw [ho]; exact if_pos hx)
          · have ht : been.testBit q' = false := by
              cases hq : been.testBit q' with
              | true => exact absurd (Or.inl hq) hx
              | false => rfl
            have hgo2 : xaN X r &&& ldm (xaP X) k f g been = 0 ∨ (k = 5 ∧ r = f) := by
              by_cases a : xaN X r &&& ldm (xaP X) k f g been = 0
              · exact Or.inl a
              · by_cases b : k = 5 ∧ r = f
                · exact Or.inr b
                · exact absurd (Or.inr ⟨a, b⟩) hx
            have hpa := popf_add been hb q' hq ht
            have h7 := popf_7 _ hpa.2
            have eR : tR X k f g goal m pl been n p sum r acc = tT X k f g goal m q' (been ||| 2 ^ q') (n + 1) (pU p n (r, lvm k f r (ldm (xaP X) k f g been))) (sum + wtm k f r (xaM X r) (xaN X r)) acc := by
              unfold tR
              rw [ho]
              exact if_neg hx
            have hw := wtm_le (k := k) (f := f) hX (show r < xaR X by omega)
            have hF00 : xF S135 σ (wI σ 10 0 n (nI r)) := xF_wI (xF_refl σ) _ (by unfold S135; omega)
            obtain ⟨σ1, e1, hA1, hF1, hT1⟩ := ih d q' (been ||| 2 ^ q') (n + 1) (pU p n (r, lvm k f r (ldm (xaP X) k f g been))) (sum + wtm k f r (xaM X r) (xaN X r)) acc (wI σ 10 0 n (nI r)) (by omega) (cW_F h hF00 (fun _ _ _ s => s)) hq hpa.2 (by omega) (pOk_U hp (by omega) (lvm_lt hL)) (by omega) (cT_U hT) (cA_w hA (by simp (disch := omega) only [n_cl, n_lt, n_le, n_eq, n_lt0, n_0lt, n_le0, n_eq0, n_gneq, n_ngeq, n_ng0, n_nglt, n_glt, n_gle, n_ltg, n_leg, n_gg, n_ge0, n_add, n_mul, n_rem, n_shl1, n_and, n_or, n_bit, n_not, n_not', n_B1, n_B0, n_BB, obind, xite_T, xite_F, xite_not, xite_same, oI_s, oI_n, Bool.false_eq_true, reduceCtorEq, eq_self, Classical.not_not, bI_T, bI_Fa, bI_0, bI_n0, bI_x, xb_0, xb_1, xite_bI, xite_bI', not_true_eq_false, not_false_eq_true, Nat.zero_add, Nat.add_zero, Nat.mul_zero, Nat.mul_one, Nat.one_mul, reduceIte, Nat.reduceEqDiff, Nat.reduceAdd, Nat.reduceMul, Nat.reduceSub, Nat.reduceLT, Nat.reduceLeDiff, Nat.reducePow, ite_true, ite_false, if_true, if_false, and_true, true_and, false_and, and_false, or_false, false_or, true_or, or_true, ne_eq, xite_t, xite_f, w_I2, w_Is, w_In, w_IL, w_IP, w_IC, w_LI, w_LP, w_LC, w_PI, w_PL, w_PC]) (by simp (disch := omega) only [n_cl, n_lt, n_le, n_eq, n_lt0, n_0lt, n_le0, n_eq0, n_gneq, n_ngeq, n_ng0, n_nglt, n_glt, n_gle, n_ltg, n_leg, n_gg, n_ge0, n_add, n_mul, n_rem, n_shl1, n_and, n_or, n_bit, n_not, n_not', n_B1, n_B0, n_BB, obind, xite_T, xite_F, xite_not, xite_same, oI_s, oI_n, Bool.false_eq_true, reduceCtorEq, eq_self, Classical.not_not, bI_T, bI_Fa, bI_0, bI_n0, bI_x, xb_0, xb_1, xite_bI, xite_bI', not_true_eq_false, not_false_eq_true, Nat.zero_add, Nat.add_zero, Nat.mul_zero, Nat.mul_one, Nat.one_mul, reduceIte, Nat.reduceEqDiff, Nat.reduceAdd, Nat.reduceMul, Nat.reduceSub, Nat.reduceLT, Nat.reduceLeDiff, Nat.reducePow, ite_true, ite_false, if_true, if_false, and_true, true_and, false_and, and_false, or_false, false_or, true_or, or_true, ne_eq, xite_t, xite_f, w_I2, w_Is, w_In, w_IL, w_IP, w_IC, w_LI, w_LP, w_LC, w_PI, w_PL, w_PC]) (by simp (disch := omega) only [n_cl, n_lt, n_le, n_eq, n_lt0, n_0lt, n_le0, n_eq0, n_gneq, n_ngeq, n_ng0, n_nglt, n_glt, n_gle, n_ltg, n_leg, n_gg, n_ge0, n_add, n_mul, n_rem, n_shl1, n_and, n_or, n_bit, n_not, n_not', n_B1, n_B0, n_BB, obind, xite_T, xite_F, xite_not, xite_same, oI_s, oI_n, Bool.false_eq_true, reduceCtorEq, eq_self, Classical.not_not, bI_T, bI_Fa, bI_0, bI_n0, bI_x, xb_0, xb_1, xite_bI, xite_bI', not_true_eq_false, not_false_eq_true, Nat.zero_add, Nat.add_zero, Nat.mul_zero, Nat.mul_one, Nat.one_mul, reduceIte, Nat.reduceEqDiff, Nat.reduceAdd, Nat.reduceMul, Nat.reduceSub, Nat.reduceLT, Nat.reduceLeDiff, Nat.reducePow, ite_true, ite_false, if_true, if_false, and_true, true_and, false_and, and_false, or_false, false_or, true_or, or_true, ne_eq, xite_t, xite_f, w_I2, w_Is, w_In, w_IL, w_IP, w_IC, w_LI, w_LP, w_LC, w_PI, w_PL, w_PC])) (fun _ => by omega) (fun e => by
              have := hnf e
              have : ¬ n = f := fun e2 => hn7 ⟨e, e2⟩
              omega)
            have hF0 : xF S135 σ σ1 := xF_trans hF00 hF1
            have hT2 : cT σ1 n p := by
              intro i hi
              have := hT1 i (by omega)
              unfold pU at this
              rw [if_neg (by omega)] at this
              exact this
            obtain ⟨σ2, e2, hA2, hF2, hT3⟩ := ij (r + 1) _ σ1 (by omega) (cW_F h hF0 (fun _ _ _ s => s)) hT2 hA1
            refine ⟨σ2, ?_, by rw [eR]; exact hA2, xF_trans hF0 hF2, hT3⟩
            rw [C135g X (d + m) σ (n := n) (sum := sum) h (by omega) hpl hk hf hb hL hn5 ho ht hgo2, e1]
            exact e2
    have hW := id h
    obtain ⟨hC, h4, h5, h6, h8, hO⟩ := h
    show ∃ σ', run (d + m + 2 + 1) _ = _ ∧ _
    have body : (∀ w n' p', acc = some (w, n', p') → sum < w) → ∃ σ', run (d + m + 2 + 1) (135, 17, [some (.inr (.inr (8, (some 0)))), some (.inl (nI (pl))), some (.inl (nI (been))), some (.inl (nI (n))), some (.inl (nI (sum))), none, none, none, none], [], σ) = some ((0, 0, none), σ') ∧ cA σ' X (tT X k f g goal (m + 1) pl been n p sum acc) ∧ xF S135 σ σ' ∧ cT σ' n p := by
      intro hacc
      rw [B135_17]
      by_cases hpg : pl = goal
      · have hn0 := hpn hpg
        have eT : tT X k f g goal (m + 1) pl been n p sum acc = some (sum, n, p) := by
          rw [tT_s, if_pos hpg]
          cases acc with
          | none => rfl
          | some t =>
            obtain ⟨w, n', p'⟩ := t
            have := hacc w n' p' rfl
            exact if_neg (by omega)
        have h5 : n ≤ 5 := by omega
        have hF9 : xF S135 σ (wI (wI (wR σ 9 0 (va_cpy (σ.1 10 0) (σ.1 9 0) 0 0 n)) 8 0 2 (nI n)) 8 0 3 (nI sum)) := xF_wI (xF_wI (xF_wR (xF_refl σ) _ (fun k hk => absurd (by unfold S135; omega) hk)) _ (by unfold S135; omega)) _ (by unfold S135; omega)
        refine ⟨wI (wI (wR σ 9 0 (va_cpy (σ.1 10 0) (σ.1 9 0) 0 0 n)) 8 0 2 (nI n)) 8 0 3 (nI sum), ?_, ?_, hF9, ?_⟩
        · simp (disch := omega) only [n_cl, n_lt, n_le, n_eq, n_lt0, n_0lt, n_le0, n_eq0, n_gneq, n_ngeq, n_ng0, n_nglt, n_glt, n_gle, n_ltg, n_leg, n_gg, n_ge0, n_add, n_mul, n_rem, n_shl1, n_and, n_or, n_bit, n_not, n_not', n_B1, n_B0, n_BB, obind, xite_T, xite_F, xite_not, xite_same, oI_s, oI_n, Bool.false_eq_true, reduceCtorEq, eq_self, Classical.not_not, bI_T, bI_Fa, bI_0, bI_n0, bI_x, xb_0, xb_1, xite_bI, xite_bI', not_true_eq_false, not_false_eq_true, Nat.zero_add, Nat.add_zero, Nat.mul_zero, Nat.mul_one, Nat.one_mul, reduceIte, Nat.reduceEqDiff, Nat.reduceAdd, Nat.reduceMul, Nat.reduceSub, Nat.reduceLT, Nat.reduceLeDiff, Nat.reducePow, ite_true, ite_false, if_true, if_false, and_true, true_and, false_and, and_false, or_false, false_or, true_or, or_true, ne_eq, xite_t, xite_f, hpg, h8]
        · rw [eT]
          refine ⟨by simp (disch := omega) only [n_cl, n_lt, n_le, n_eq, n_lt0, n_0lt, n_le0, n_eq0, n_gneq, n_ngeq, n_ng0, n_nglt, n_glt, n_gle, n_ltg, n_leg, n_gg, n_ge0, n_add, n_mul, n_rem, n_shl1, n_and, n_or, n_bit, n_not, n_not', n_B1, n_B0, n_BB, obind, xite_T, xite_F, xite_not, xite_same, oI_s, oI_n, Bool.false_eq_true, reduceCtorEq, eq_self, Classical.not_not, bI_T, bI_Fa, bI_0, bI_n0, bI_x, xb_0, xb_1, xite_bI, xite_bI', not_true_eq_false, not_false_eq_true, Nat.zero_add, Nat.add_zero, Nat.mul_zero, Nat.mul_one, Nat.one_mul, reduceIte, Nat.reduceEqDiff, Nat.reduceAdd, Nat.reduceMul, Nat.reduceSub, Nat.reduceLT, Nat.reduceLeDiff, Nat.reducePow, ite_true, ite_false, if_true, if_false, and_true, true_and, false_and, and_false, or_false, false_or, true_or, or_true, ne_eq, xite_t, xite_f, w_I2, w_Is, w_In, w_IL, w_IP, w_IC, w_LI, w_LP, w_LC, w_PI, w_PL, w_PC], by simp (disch := omega) only [n_cl, n_lt, n_le, n_eq, n_lt0, n_0lt, n_le0, n_eq0, n_gneq, n_ngeq, n_ng0, n_nglt, n_glt, n_gle, n_ltg, n_leg, n_gg, n_ge0, n_add, n_mul, n_rem, n_shl1, n_and, n_or, n_bit, n_not, n_not', n_B1, n_B0, n_BB, obind, xite_T, xite_F, xite_not, xite_same, oI_s, oI_n, Bool.false_eq_true, reduceCtorEq, eq_self, Classical.not_not, bI_T, bI_Fa, bI_0, bI_n0, bI_x, xb_0, xb_1, xite_bI, xite_bI', not_true_eq_false, not_false_eq_true, Nat.zero_add, Nat.add_zero, Nat.mul_zero, Nat.mul_one, Nat.one_mul, reduceIte, Nat.reduceEqDiff, Nat.reduceAdd, Nat.reduceMul, Nat.reduceSub, Nat.reduceLT, Nat.reduceLeDiff, Nat.reducePow, ite_true, ite_false, if_true, if_false, and_true, true_and, false_and, and_false, or_false, false_or, true_or, or_true, ne_eq, xite_t, xite_f, w_I2, w_Is, w_In, w_IL, w_IP, w_IC, w_LI, w_LP, w_LC, w_PI, w_PL, w_PC], hn0, h5, hsum, hp, ?_⟩
          intro a ha
          have e9 : rI (wI (wI (wR σ 9 0 (va_cpy (σ.1 10 0) (σ.1 9 0) 0 0 n)) 8 0 2 (nI n)) 8 0 3 (nI sum)) 9 0 a = va_cpy (σ.1 10 0) (σ.1 9 0) 0 0 n a := by
            simp (disch := omega) only [n_cl, n_lt, n_le, n_eq, n_lt0, n_0lt, n_le0, n_eq0, n_gneq, n_ngeq, n_ng0, n_nglt, n_glt, n_gle, n_ltg, n_leg, n_gg, n_ge0, n_add, n_mul, n_rem, n_shl1, n_and, n_or, n_bit, n_not, n_not', n_B1, n_B0, n_BB, obind, xite_T, xite_F, xite_not, xite_same, oI_s, oI_n, Bool.false_eq_true, reduceCtorEq, eq_self, Classical.not_not, bI_T, bI_Fa, bI_0, bI_n0, bI_x, xb_0, xb_1, xite_bI, xite_bI', not_true_eq_false, not_false_eq_true, Nat.zero_add, Nat.add_zero, Nat.mul_zero, Nat.mul_one, Nat.one_mul, reduceIte, Nat.reduceEqDiff, Nat.reduceAdd, Nat.reduceMul, Nat.reduceSub, Nat.reduceLT, Nat.reduceLeDiff, Nat.reducePow, ite_true, ite_false, if_true, if_false, and_true, true_and, false_and, and_false, or_false, false_or, true_or, or_true, ne_eq, xite_t, xite_f, w_I2, w_Is, w_In, w_IL, w_IP, w_IC, w_LI, w_LP, w_LC, w_PI, w_PL, w_PC]
            show (if 9 = 9 ∧ 0 = 0 then va_cpy (σ.1 10 0) (σ.1 9 0) 0 0 n else σ.1 9 0) a = _
            rw [if_pos ⟨rfl, rfl⟩]
          rw [e9, pk_cpy_in (by omega) (by omega)]
          have : 0 + (a - 0) = a := by omega
          rw [this]
          exact hT a ha
        · intro a ha
          have e10 : rI (wI (wI (wR σ 9 0 (va_cpy (σ.1 10 0) (σ.1 9 0) 0 0 n)) 8 0 2 (nI n)) 8 0 3 (nI sum)) 10 0 a = rI σ 10 0 a := by
            simp (disch := omega) only [n_cl, n_lt, n_le, n_eq, n_lt0, n_0lt, n_le0, n_eq0, n_gneq, n_ngeq, n_ng0, n_nglt, n_glt, n_gle, n_ltg, n_leg, n_gg, n_ge0, n_add, n_mul, n_rem, n_shl1, n_and, n_or, n_bit, n_not, n_not', n_B1, n_B0, n_BB, obind, xite_T, xite_F, xite_not, xite_same, oI_s, oI_n, Bool.false_eq_true, reduceCtorEq, eq_self, Classical.not_not, bI_T, bI_Fa, bI_0, bI_n0, bI_x, xb_0, xb_1, xite_bI, xite_bI', not_true_eq_false, not_false_eq_true, Nat.zero_add, Nat.add_zero, Nat.mul_zero, Nat.mul_one, Nat.one_mul, reduceIte, Nat.reduceEqDiff, Nat.reduceAdd, Nat.reduceMul, Nat.reduceSub, Nat.reduceLT, Nat.reduceLeDiff, Nat.reducePow, ite_true, ite_false, if_true, if_false, and_true, true_and, false_and, and_false, or_false, false_or, true_or, or_true, ne_eq, xite_t, xite_f, w_I2, w_Is, w_In, w_IL, w_IP, w_IC, w_LI, w_LP, w_LC, w_PI, w_PL, w_PC]
            show (if 10 = 9 ∧ 0 = 0 then va_cpy (σ.1 10 0) (σ.1 9 0) 0 0 n else σ.1 10 0) a = _
            rw [if_neg (by omega)]
            rfl
          rw [e10]
          exact hT a ha
      · have e4 := C_most (d + m + 1) σ hO hk
        have e0 := C_loads (d + m) σ (been := been) hO hk hf hg hb (show 0 < xaP X by omega) hP6
        by_cases hn5 : 5 ≤ n
        · have hm0 : m = 0 := by omega
          subst hm0
          rw [tT_0 hpg]
          refine ⟨σ, ?_, hA, xF_refl σ, hT⟩
          simp (disch := omega) only [n_cl, n_lt, n_le, n_eq, n_lt0, n_0lt, n_le0, n_eq0, n_gneq, n_ngeq, n_ng0, n_nglt, n_glt, n_gle, n_ltg, n_leg, n_gg, n_ge0, n_add, n_mul, n_rem, n_shl1, n_and, n_or, n_bit, n_not, n_not', n_B1, n_B0, n_BB, obind, xite_T, xite_F, xite_not, xite_same, oI_s, oI_n, Bool.false_eq_true, reduceCtorEq, eq_self, Classical.not_not, bI_T, bI_Fa, bI_0, bI_n0, bI_x, xb_0, xb_1, xite_bI, xite_bI', not_true_eq_false, not_false_eq_true, Nat.zero_add, Nat.add_zero, Nat.mul_zero, Nat.mul_one, Nat.one_mul, reduceIte, Nat.reduceEqDiff, Nat.reduceAdd, Nat.reduceMul, Nat.reduceSub, Nat.reduceLT, Nat.reduceLeDiff, Nat.reducePow, ite_true, ite_false, if_true, if_false, and_true, true_and, false_and, and_false, or_false, false_or, true_or, or_true, ne_eq, xite_t, xite_f, hpg, h8, h5, xob_s, e4]
        · by_cases h7 : k = 7 ∧ n = f
          · rw [tT_s, if_neg hpg, if_pos h7]
            refine ⟨σ, ?_, hA, xF_refl σ, hT⟩
            rw [if_pos h7.1] at e4
            simp (disch := omega) only [n_cl, n_lt, n_le, n_eq, n_lt0, n_0lt, n_le0, n_eq0, n_gneq, n_ngeq, n_ng0, n_nglt, n_glt, n_gle, n_ltg, n_leg, n_gg, n_ge0, n_add, n_mul, n_rem, n_shl1, n_and, n_or, n_bit, n_not, n_not', n_B1, n_B0, n_BB, obind, xite_T, xite_F, xite_not, xite_same, oI_s, oI_n, Bool.false_eq_true, reduceCtorEq, eq_self, Classical.not_not, bI_T, bI_Fa, bI_0, bI_n0, bI_x, xb_0, xb_1, xite_bI, xite_bI', not_true_eq_false, not_false_eq_true, Nat.zero_add, Nat.add_zero, Nat.mul_zero, Nat.mul_one, Nat.one_mul, reduceIte, Nat.reduceEqDiff, Nat.reduceAdd, Nat.reduceMul, Nat.reduceSub, Nat.reduceLT, Nat.reduceLeDiff, Nat.reducePow, ite_true, ite_false, if_true, if_false, and_true, true_and, false_and, and_false, or_false, false_or, true_or, or_true, ne_eq, xite_t, xite_f, hpg, h8, h5, xob_s, e4]
          · rw [tT_s, if_neg hpg, if_neg h7]
            obtain ⟨σ', e1, e2⟩ := loop (by omega) h7 (xaR X) 0 acc σ (by omega) hW hT hA
            refine ⟨σ', ?_, e2⟩
            have hlt : ¬ (if k = 7 then f else 5) ≤ n := by
              split
              · next h => have := hnf h; have : ¬ n = f := fun e2 => h7 ⟨h, e2⟩; omega
              · omega
            have : (if k = 7 then f else 5) < 2147483648 := by split <;> omega
            simp (disch := omega) only [n_cl, n_lt, n_le, n_eq, n_lt0, n_0lt, n_le0, n_eq0, n_gneq, n_ngeq, n_ng0, n_nglt, n_glt, n_gle, n_ltg, n_leg, n_gg, n_ge0, n_add, n_mul, n_rem, n_shl1, n_and, n_or, n_bit, n_not, n_not', n_B1, n_B0, n_BB, obind, xite_T, xite_F, xite_not, xite_same, oI_s, oI_n, Bool.false_eq_true, reduceCtorEq, eq_self, Classical.not_not, bI_T, bI_Fa, bI_0, bI_n0, bI_x, xb_0, xb_1, xite_bI, xite_bI', not_true_eq_false, not_false_eq_true, Nat.zero_add, Nat.add_zero, Nat.mul_zero, Nat.mul_one, Nat.one_mul, reduceIte, Nat.reduceEqDiff, Nat.reduceAdd, Nat.reduceMul, Nat.reduceSub, Nat.reduceLT, Nat.reduceLeDiff, Nat.reducePow, ite_true, ite_false, if_true, if_false, and_true, true_and, false_and, and_false, or_false, false_or, true_or, or_true, ne_eq, xite_t, xite_f, hpg, h8, h5, h4, h6, hC.2.1, xob_s, e4, e0]
            exact e1
    rw [B135_0]
    cases acc with
    | none =>
      have hA' : rI σ 8 0 2 = nI 0 := hA
      simp (disch := omega) only [n_cl, n_lt, n_le, n_eq, n_lt0, n_0lt, n_le0, n_eq0, n_gneq, n_ngeq, n_ng0, n_nglt, n_glt, n_gle, n_ltg, n_leg, n_gg, n_ge0, n_add, n_mul, n_rem, n_shl1, n_and, n_or, n_bit, n_not, n_not', n_B1, n_B0, n_BB, obind, xite_T, xite_F, xite_not, xite_same, oI_s, oI_n, Bool.false_eq_true, reduceCtorEq, eq_self, Classical.not_not, bI_T, bI_Fa, bI_0, bI_n0, bI_x, xb_0, xb_1, xite_bI, xite_bI', not_true_eq_false, not_false_eq_true, Nat.zero_add, Nat.add_zero, Nat.mul_zero, Nat.mul_one, Nat.one_mul, reduceIte, Nat.reduceEqDiff, Nat.reduceAdd, Nat.reduceMul, Nat.reduceSub, Nat.reduceLT, Nat.reduceLeDiff, Nat.reducePow, ite_true, ite_false, if_true, if_false, and_true, true_and, false_and, and_false, or_false, false_or, true_or, or_true, ne_eq, xite_t, xite_f, hA']
      exact body (fun w n' p' e => by cases e)
    | some t =>
      obtain ⟨w, n', p'⟩ := t
      obtain ⟨a1, a2, a3, a4, a5, a6⟩ := id hA
      by_cases hle : w ≤ sum
      · rw [tT_prune _ _ _ _ _ _ hle]
        refine ⟨σ, ?_, hA, xF_refl σ, hT⟩
        simp (disch := omega) only [n_cl, n_lt, n_le, n_eq, n_lt0, n_0lt, n_le0, n_eq0, n_gneq, n_ngeq, n_ng0, n_nglt, n_glt, n_gle, n_ltg, n_leg, n_gg, n_ge0, n_add, n_mul, n_rem, n_shl1, n_and, n_or, n_bit, n_not, n_not', n_B1, n_B0, n_BB, obind, xite_T, xite_F, xite_not, xite_same, oI_s, oI_n, Bool.false_eq_true, reduceCtorEq, eq_self, Classical.not_not, bI_T, bI_Fa, bI_0, bI_n0, bI_x, xb_0, xb_1, xite_bI, xite_bI', not_true_eq_false, not_false_eq_true, Nat.zero_add, Nat.add_zero, Nat.mul_zero, Nat.mul_one, Nat.one_mul, reduceIte, Nat.reduceEqDiff, Nat.reduceAdd, Nat.reduceMul, Nat.reduceSub, Nat.reduceLT, Nat.reduceLeDiff, Nat.reducePow, ite_true, ite_false, if_true, if_false, and_true, true_and, false_and, and_false, or_false, false_or, true_or, or_true, ne_eq, xite_t, xite_f, a1, a2]
      · simp (disch := omega) only [n_cl, n_lt, n_le, n_eq, n_lt0, n_0lt, n_le0, n_eq0, n_gneq, n_ngeq, n_ng0, n_nglt, n_glt, n_gle, n_ltg, n_leg, n_gg, n_ge0, n_add, n_mul, n_rem, n_shl1, n_and, n_or, n_bit, n_not, n_not', n_B1, n_B0, n_BB, obind, xite_T, xite_F, xite_not, xite_same, oI_s, oI_n, Bool.false_eq_true, reduceCtorEq, eq_self, Classical.not_not, bI_T, bI_Fa, bI_0, bI_n0, bI_x, xb_0, xb_1, xite_bI, xite_bI', not_true_eq_false, not_false_eq_true, Nat.zero_add, Nat.add_zero, Nat.mul_zero, Nat.mul_one, Nat.one_mul, reduceIte, Nat.reduceEqDiff, Nat.reduceAdd, Nat.reduceMul, Nat.reduceSub, Nat.reduceLT, Nat.reduceLeDiff, Nat.reducePow, ite_true, ite_false, if_true, if_false, and_true, true_and, false_and, and_false, or_false, false_or, true_or, or_true, ne_eq, xite_t, xite_f, a1, a2]
        exact body (fun w' n'' p'' e => by cases e; omega)
