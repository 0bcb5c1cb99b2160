/-! LANDS AS TEXTS: READING -/
/-- how many digits a letter wants -/
noncomputable def dgt (l : Int32) : Nat := xite (l = nI 112) 1 (xite (l = nI 117 ∨ l = nI 99) 2 (xite (l = nI 114) 3 (xite (l = nI 103) 4 0)))
theorem dgt_c (l : Int32) : (l = nI 112 ∧ dgt l = 1) ∨ (l = nI 117 ∧ dgt l = 2) ∨ (l = nI 99 ∧ dgt l = 2) ∨ (l = nI 114 ∧ dgt l = 3) ∨ (l = nI 103 ∧ dgt l = 4) ∨ (¬ l = nI 112 ∧ ¬ l = nI 117 ∧ ¬ l = nI 99 ∧ ¬ l = nI 114 ∧ ¬ l = nI 103 ∧ dgt l = 0) := by
  unfold dgt
  by_cases h1 : l = nI 112
  · exact Or.inl ⟨h1, xite_t h1⟩
  · rw [xite_f h1]
    by_cases h2 : l = nI 117
    · exact Or.inr (Or.inl ⟨h2, xite_t (Or.inl h2)⟩)
    · by_cases h3 : l = nI 99
      · exact Or.inr (Or.inr (Or.inl ⟨h3, xite_t (Or.inr h3)⟩))
      · rw [xite_f (fun h => h.elim h2 h3)]
        by_cases h4 : l = nI 114
        · exact Or.inr (Or.inr (Or.inr (Or.inl ⟨h4, xite_t h4⟩)))
        · rw [xite_f h4]
          by_cases h5 : l = nI 103
          · exact Or.inr (Or.inr (Or.inr (Or.inr (Or.inl ⟨h5, xite_t h5⟩))))
          · exact Or.inr (Or.inr (Or.inr (Or.inr (Or.inr ⟨h1, h2, h3, h4, h5, xite_f h5⟩))))
theorem dgt_4 (l : Int32) : dgt l ≤ 4 := by
  rcases dgt_c l with h | h | h | h | h | h
  · omega
  · omega
  · omega
  · omega
  · omega
  · omega
def isD (v : Int32) : Prop := 48 ≤ v.toInt ∧ v.toInt ≤ 57
def dgv (v : Int32) : Nat := v.toNatClampNeg - 48
theorem isD_of {v : Int32} (h : isD v) : v = nI (48 + dgv v) ∧ dgv v ≤ 9 := by
  obtain ⟨k, hk, e⟩ := inb_of (v := v) (n := 58) ⟨by have := h.1; omega, by have := h.2; show v.toInt < 58; omega⟩ (by omega)
  have h1 := h.1
  subst e
  rw [n_toInt (by omega)] at h1
  unfold dgv
  rw [n_cl (by omega)]
  refine ⟨?_, by omega⟩
  congr 1
  omega
/-- what stands at a place of the text -/
def hr (z : Nat) (c : Nat → Int32) (i : Nat) : Int32 := if i < z then c i else -nI 1000
noncomputable def bd (z : Nat) (c : Nat → Int32) : Nat → Nat → Option Nat
  | 0, j => xite (hr z c j = nI 59) none (some j)
  | n + 1, j => xite (isD (hr z c j)) (bd z c n (j + 1)) (some j)
noncomputable def brk (z : Nat) (c : Nat → Int32) (i : Nat) : Option Nat := xite (dgt (hr z c i) = 0) (some i) (bd z c (dgt (hr z c i)) (i + 1))
noncomputable def chk (z : Nat) (c : Nat → Int32) : Nat → Nat → Option Nat
  | 0, _ => none
  | m + 1, i => match brk z c i with
    | some p => some p
    | none => if i + dgt (c i) + 2 < z then chk z c m (i + dgt (c i) + 2) else none
theorem hr_x {z : Nat} {c : Nat → Int32} {i : Nat} (h : ¬ i < z) : hr z c i = -nI 1000 := if_neg h
theorem hr_i {z : Nat} {c : Nat → Int32} {i : Nat} (h : i < z) : hr z c i = c i := if_pos h
theorem m1000 : ¬ isD (-nI 1000) ∧ ¬ (-nI 1000 = nI 59) ∧ dgt (-nI 1000) = 0 := by
  refine ⟨fun h => absurd h.1 (by decide), by decide, ?_⟩
  unfold dgt
  rw [xite_f (by decide), xite_f (by decide), xite_f (by decide), xite_f (by decide)]
theorem bd_n {z : Nat} {c : Nat → Int32} : ∀ n j, bd z c n j = none → (∀ k, k < n → j + k < z ∧ isD (c (j + k))) ∧ j + n < z ∧ c (j + n) = nI 59 := by
  intro n
  induction n with
  | zero =>
    intro j h
    have h : xite (hr z c j = nI 59) none (some j) = none := h
    by_cases e : hr z c j = nI 59
    · by_cases hj : j < z
      · rw [hr_i hj] at e
        exact ⟨fun k hk => by omega, hj, e⟩
      · rw [hr_x hj] at e
        exact absurd e m1000.2.1
    · rw [xite_f e] at h; cases h
  | succ n ih =>
    intro j h
    have h : xite (isD (hr z c j)) (bd z c n (j + 1)) (some j) = none := h
    by_cases e : isD (hr z c j)
    · rw [xite_t e] at h
      obtain ⟨h1, h2, h3⟩ := ih (j + 1) h
      have hj : j < z := by
        apply Classical.byContradiction
        intro q
        rw [hr_x q] at e
        exact m1000.1 e
      rw [hr_i hj] at e
      refine ⟨fun k hk => ?_, by omega, by rw [show j + (n + 1) = j + 1 + n by omega]; exact h3⟩
      by_cases e0 : k = 0
      · subst e0; exact ⟨hj, e⟩
      · have := h1 (k - 1) (by omega)
        rw [show j + 1 + (k - 1) = j + k by omega] at this
        exact this
    · rw [xite_f e] at h; cases h
theorem bd_z {z : Nat} {c : Nat → Int32} : ∀ n j p, j ≤ z → bd z c n j = some p → p ≤ z := by
  intro n
  induction n with
  | zero =>
    intro j p hj h
    have h : xite (hr z c j = nI 59) none (some j) = some p := h
    by_cases e : hr z c j = nI 59
    · rw [xite_t e] at h; cases h
    · rw [xite_f e] at h; cases h; exact hj
  | succ n ih =>
    intro j p hj h
    have h : xite (isD (hr z c j)) (bd z c n (j + 1)) (some j) = some p := h
    by_cases e : isD (hr z c j)
    · rw [xite_t e] at h
      refine ih (j + 1) p ?_ h
      apply Classical.byContradiction
      intro q
      rw [hr_x (by omega)] at e
      exact m1000.1 e
    · rw [xite_f e] at h; cases h; exact hj
theorem brk_n {z : Nat} {c : Nat → Int32} {i : Nat} (h : brk z c i = none) : i < z ∧ ¬ dgt (c i) = 0 ∧ (∀ k, k < dgt (c i) → i + 1 + k < z ∧ isD (c (i + 1 + k))) ∧ i + dgt (c i) + 1 < z ∧ c (i + dgt (c i) + 1) = nI 59 := by
  unfold brk at h
  by_cases e : dgt (hr z c i) = 0
  · rw [xite_t e] at h; cases h
  · rw [xite_f e] at h
    have hi : i < z := by
      apply Classical.byContradiction
      intro q
      rw [hr_x q] at e
      exact e m1000.2.2
    rw [hr_i hi] at e h
    obtain ⟨h1, h2, h3⟩ := bd_n _ _ h
    exact ⟨hi, e, h1, by omega, by rw [show i + dgt (c i) + 1 = i + 1 + dgt (c i) by omega]; exact h3⟩
/-- the class reads -/
theorem C179 (d : Nat) (σ : xS) (l : Int32) : run (d + 1) (xentry 179 [.inl l] σ) = some ((nI (dgt l), 0, none), σ) := by
  rw [B179_0]
  rcases dgt_c l with ⟨e, h⟩ | ⟨e, h⟩ | ⟨e, h⟩ | ⟨e, h⟩ | ⟨e, h⟩ | ⟨e1, e2, e3, e4, e5, h⟩
  · rw [h, e]; simp (disch := omega) only [n_cl, n_lt, n_le, n_eq, n_lt0, n_0lt, n_le0, n_eq0, n_gneq, n_ngeq, n_ng0, n_nglt, n_glt, n_gle, n_ltg, n_leg, n_gg, n_ge0, n_add, n_mul, n_rem, n_shl1, n_and, n_or, n_bit, n_not, n_not', n_B1, n_B0, n_BB, obind, xite_T, xite_F, xite_not, xite_same, oI_s, oI_n, Bool.false_eq_true, reduceCtorEq, eq_self, Classical.not_not, bI_T, bI_Fa, bI_0, bI_n0, bI_x, xb_0, xb_1, xite_bI, xite_bI', not_true_eq_false, not_false_eq_true, Nat.zero_add, Nat.add_zero, Nat.mul_zero, Nat.mul_one, Nat.one_mul, reduceIte, Nat.reduceEqDiff, Nat.reduceAdd, Nat.reduceMul, Nat.reduceSub, Nat.reduceLT, Nat.reduceLeDiff, Nat.reducePow, ite_true, ite_false, if_true, if_false, and_true, true_and, false_and, and_false, or_false, false_or, true_or, or_true, ne_eq, xite_t, xite_f, ]
  · rw [h, e]; simp (disch := omega) only [n_cl, n_lt, n_le, n_eq, n_lt0, n_0lt, n_le0, n_eq0, n_gneq, n_ngeq, n_ng0, n_nglt, n_glt, n_gle, n_ltg, n_leg, n_gg, n_ge0, n_add, n_mul, n_rem, n_shl1, n_and, n_or, n_bit, n_not, n_not', n_B1, n_B0, n_BB, obind, xite_T, xite_F, xite_not, xite_same, oI_s, oI_n, Bool.false_eq_true, reduceCtorEq, eq_self, Classical.not_not, bI_T, bI_Fa, bI_0, bI_n0, bI_x, xb_0, xb_1, xite_bI, xite_bI', not_true_eq_false, not_false_eq_true, Nat.zero_add, Nat.add_zero, Nat.mul_zero, Nat.mul_one, Nat.one_mul, reduceIte, Nat.reduceEqDiff, Nat.reduceAdd, Nat.reduceMul, Nat.reduceSub, Nat.reduceLT, Nat.reduceLeDiff, Nat.reducePow, ite_true, ite_false, if_true, if_false, and_true, true_and, false_and, and_false, or_false, false_or, true_or, or_true, ne_eq, xite_t, xite_f, ]
  · rw [h, e]; simp (disch := omega) only [n_cl, n_lt, n_le, n_eq, n_lt0, n_0lt, n_le0, n_eq0, n_gneq, n_ngeq, n_ng0, n_nglt, n_glt, n_gle, n_ltg, n_leg, n_gg, n_ge0, n_add, n_mul, n_rem, n_shl1, n_and, n_or, n_bit, n_not, n_not', n_B1, n_B0, n_BB, obind, xite_T, xite_F, xite_not, xite_same, oI_s, oI_n, Bool.false_eq_true, reduceCtorEq, eq_self, Classical.not_not, bI_T, bI_Fa, bI_0, bI_n0, bI_x, xb_0, xb_1, xite_bI, xite_bI', not_true_eq_false, not_false_eq_true, Nat.zero_add, Nat.add_zero, Nat.mul_zero, Nat.mul_one, Nat.one_mul, reduceIte, Nat.reduceEqDiff, Nat.reduceAdd, Nat.reduceMul, Nat.reduceSub, Nat.reduceLT, Nat.reduceLeDiff, Nat.reducePow, ite_true, ite_false, if_true, if_false, and_true, true_and, false_and, and_false, or_false, false_or, true_or, or_true, ne_eq, xite_t, xite_f, ]
  · rw [h, e]; simp (disch := omega) only [n_cl, n_lt, n_le, n_eq, n_lt0, n_0lt, n_le0, n_eq0, n_gneq, n_ngeq, n_ng0, n_nglt, n_glt, n_gle, n_ltg, n_leg, n_gg, n_ge0, n_add, n_mul, n_rem, n_shl1, n_and, n_or, n_bit, n_not, n_not', n_B1, n_B0, n_BB, obind, xite_T, xite_F, xite_not, xite_same, oI_s, oI_n, Bool.false_eq_true, reduceCtorEq, eq_self, Classical.not_not, bI_T, bI_Fa, bI_0, bI_n0, bI_x, xb_0, xb_1, xite_bI, xite_bI', not_true_eq_false, not_false_eq_true, Nat.zero_add, Nat.add_zero, Nat.mul_zero, Nat.mul_one, Nat.one_mul, reduceIte, Nat.reduceEqDiff, Nat.reduceAdd, Nat.reduceMul, Nat.reduceSub, Nat.reduceLT, Nat.reduceLeDiff, Nat.reducePow, ite_true, ite_false, if_true, if_false, and_true, true_and, false_and, and_false, or_false, false_or, true_or, or_true, ne_eq, xite_t, xite_f, ]
  · rw [h, e]; simp (disch := omega) only [n_cl, n_lt, n_le, n_eq, n_lt0, n_0lt, n_le0, n_eq0, n_gneq, n_ngeq, n_ng0, n_nglt, n_glt, n_gle, n_ltg, n_leg, n_gg, n_ge0, n_add, n_mul, n_rem, n_shl1, n_and, n_or, n_bit, n_not, n_not', n_B1, n_B0, n_BB, obind, xite_T, xite_F, xite_not, xite_same, oI_s, oI_n, Bool.false_eq_true, reduceCtorEq, eq_self, Classical.not_not, bI_T, bI_Fa, bI_0, bI_n0, bI_x, xb_0, xb_1, xite_bI, xite_bI', not_true_eq_false, not_false_eq_true, Nat.zero_add, Nat.add_zero, Nat.mul_zero, Nat.mul_one, Nat.one_mul, reduceIte, Nat.reduceEqDiff, Nat.reduceAdd, Nat.reduceMul, Nat.reduceSub, Nat.reduceLT, Nat.reduceLeDiff, Nat.reducePow, ite_true, ite_false, if_true, if_false, and_true, true_and, false_and, and_false, or_false, false_or, true_or, or_true, ne_eq, xite_t, xite_f, ]
  · rw [h]; simp (disch := omega) only [n_cl, n_lt, n_le, n_eq, n_lt0, n_0lt, n_le0, n_eq0, n_gneq, n_ngeq, n_ng0, n_nglt, n_glt, n_gle, n_ltg, n_leg, n_gg, n_ge0, n_add, n_mul, n_rem, n_shl1, n_and, n_or, n_bit, n_not, n_not', n_B1, n_B0, n_BB, obind, xite_T, xite_F, xite_not, xite_same, oI_s, oI_n, Bool.false_eq_true, reduceCtorEq, eq_self, Classical.not_not, bI_T, bI_Fa, bI_0, bI_n0, bI_x, xb_0, xb_1, xite_bI, xite_bI', not_true_eq_false, not_false_eq_true, Nat.zero_add, Nat.add_zero, Nat.mul_zero, Nat.mul_one, Nat.one_mul, reduceIte, Nat.reduceEqDiff, Nat.reduceAdd, Nat.reduceMul, Nat.reduceSub, Nat.reduceLT, Nat.reduceLeDiff, Nat.reducePow, ite_true, ite_false, if_true, if_false, and_true, true_and, false_and, and_false, or_false, false_or, true_or, or_true, ne_eq, xite_t, xite_f, e1, e2, e3, e4, e5]
theorem C180_d (d : Nat) (σ : xS) {e : Nat} {x : mSh} (hs : cSh σ e x) : ∀ n j, n ≤ 4 → j ≤ x.2.2.2.2.1 → 0 < j → run (d + 3) (180, 4, [some (.inr (.inr (14, (some e)))), some (.inl (nI (n))), some (.inl (nI (j))), none], [], σ) = (match bd x.2.2.2.2.1 x.2.2.2.2.2 n j with
    | some p => some ((nI p, 0, none), σ)
    | none => run (d + 3) (180, 4, [some (.inr (.inr (14, (some e)))), some (.inl (-nI 1)), some (.inl (nI (j + n + 1))), none], [], σ)) := by
  have h5 := hs.2.2.2.2.1
  have hz := hs.1.2.2.2
  intro n
  induction n with
  | zero =>
    intro j _ hj hj0
    show _ = (match xite (hr x.2.2.2.2.1 x.2.2.2.2.2 j = nI 59) none (some j) with
      | some p => some ((nI p, 0, none), σ)
      | none => run (d + 3) (180, 4, [some (.inr (.inr (14, (some e)))), some (.inl (-nI 1)), some (.inl (nI (j + 0 + 1))), none], [], σ))
    rw [B180_4, h5]
    by_cases c1 : j < x.2.2.2.2.1
    · have e1 := C126 d σ hs c1
      rw [hr_i c1]
      simp (disch := omega) only [n_cl, n_lt, n_le, n_eq, n_lt0, n_0lt, n_le0, n_eq0, n_gneq, n_ngeq, n_ng0, n_nglt, n_glt, n_gle, n_ltg, n_leg, n_gg, n_ge0, n_add, n_mul, n_rem, n_shl1, n_and, n_or, n_bit, n_not, n_not', n_B1, n_B0, n_BB, obind, xite_T, xite_F, xite_not, xite_same, oI_s, oI_n, Bool.false_eq_true, reduceCtorEq, eq_self, Classical.not_not, bI_T, bI_Fa, bI_0, bI_n0, bI_x, xb_0, xb_1, xite_bI, xite_bI', not_true_eq_false, not_false_eq_true, Nat.zero_add, Nat.add_zero, Nat.mul_zero, Nat.mul_one, Nat.one_mul, reduceIte, Nat.reduceEqDiff, Nat.reduceAdd, Nat.reduceMul, Nat.reduceSub, Nat.reduceLT, Nat.reduceLeDiff, Nat.reducePow, ite_true, ite_false, if_true, if_false, and_true, true_and, false_and, and_false, or_false, false_or, true_or, or_true, ne_eq, xite_t, xite_f, e1]
      by_cases c2 : x.2.2.2.2.2 j = nI 59
      · rw [xite_t c2, xite_t c2]
      · rw [xite_f c2, xite_f c2]
    · have ej : j = x.2.2.2.2.1 := by omega
      rw [hr_x c1, xite_f m1000.2.1]
      simp (disch := omega) only [n_cl, n_lt, n_le, n_eq, n_lt0, n_0lt, n_le0, n_eq0, n_gneq, n_ngeq, n_ng0, n_nglt, n_glt, n_gle, n_ltg, n_leg, n_gg, n_ge0, n_add, n_mul, n_rem, n_shl1, n_and, n_or, n_bit, n_not, n_not', n_B1, n_B0, n_BB, obind, xite_T, xite_F, xite_not, xite_same, oI_s, oI_n, Bool.false_eq_true, reduceCtorEq, eq_self, Classical.not_not, bI_T, bI_Fa, bI_0, bI_n0, bI_x, xb_0, xb_1, xite_bI, xite_bI', not_true_eq_false, not_false_eq_true, Nat.zero_add, Nat.add_zero, Nat.mul_zero, Nat.mul_one, Nat.one_mul, reduceIte, Nat.reduceEqDiff, Nat.reduceAdd, Nat.reduceMul, Nat.reduceSub, Nat.reduceLT, Nat.reduceLeDiff, Nat.reducePow, ite_true, ite_false, if_true, if_false, and_true, true_and, false_and, and_false, or_false, false_or, true_or, or_true, ne_eq, xite_t, xite_f, ]
      rw [ej]
  | succ n ih =>
    intro j hn hj hj0
    show _ = (match xite (isD (hr x.2.2.2.2.1 x.2.2.2.2.2 j)) (bd x.2.2.2.2.1 x.2.2.2.2.2 n (j + 1)) (some j) with
      | some p => some ((nI p, 0, none), σ)
      | none => run (d + 3) (180, 4, [some (.inr (.inr (14, (some e)))), some (.inl (-nI 1)), some (.inl (nI (j + (n + 1) + 1))), none], [], σ))
    have em : nI (n + 1) + -nI 1 = nI n := by rw [← Int32.sub_eq_add_neg, n_sub (by omega)]; rfl
    rw [B180_4, h5, em]
    by_cases c1 : j < x.2.2.2.2.1
    · have e1 := C126 d σ hs c1
      rw [hr_i c1]
      simp (disch := omega) only [n_cl, n_lt, n_le, n_eq, n_lt0, n_0lt, n_le0, n_eq0, n_gneq, n_ngeq, n_ng0, n_nglt, n_glt, n_gle, n_ltg, n_leg, n_gg, n_ge0, n_add, n_mul, n_rem, n_shl1, n_and, n_or, n_bit, n_not, n_not', n_B1, n_B0, n_BB, obind, xite_T, xite_F, xite_not, xite_same, oI_s, oI_n, Bool.false_eq_true, reduceCtorEq, eq_self, Classical.not_not, bI_T, bI_Fa, bI_0, bI_n0, bI_x, xb_0, xb_1, xite_bI, xite_bI', not_true_eq_false, not_false_eq_true, Nat.zero_add, Nat.add_zero, Nat.mul_zero, Nat.mul_one, Nat.one_mul, reduceIte, Nat.reduceEqDiff, Nat.reduceAdd, Nat.reduceMul, Nat.reduceSub, Nat.reduceLT, Nat.reduceLeDiff, Nat.reducePow, ite_true, ite_false, if_true, if_false, and_true, true_and, false_and, and_false, or_false, false_or, true_or, or_true, ne_eq, xite_t, xite_f, e1]
      by_cases c2 : x.2.2.2.2.2 j < nI 48
      · rw [xite_t c2, xite_f]
        intro h
        rw [n_ltx, n_toInt (by omega)] at c2
        have := h.1
        omega
      · rw [xite_f c2]
        by_cases c3 : x.2.2.2.2.2 j ≤ nI 57
        · have hD : isD (x.2.2.2.2.2 j) := by
            rw [n_ltx, n_toInt (by omega)] at c2
            rw [n_lex, n_toInt (by omega)] at c3
            exact ⟨by omega, by omega⟩
          rw [xite_t c3, xite_t hD]
          have := ih (j + 1) (by omega) (by omega) (by omega)
          rw [show j + 1 + n + 1 = j + (n + 1) + 1 by omega] at this
          exact this
        · rw [xite_f c3, xite_f]
          intro h
          rw [n_lex, n_toInt (by omega)] at c3
          have := h.2
          omega
    · have ej : j = x.2.2.2.2.1 := by omega
      rw [hr_x c1, xite_f m1000.1]
      simp (disch := omega) only [n_cl, n_lt, n_le, n_eq, n_lt0, n_0lt, n_le0, n_eq0, n_gneq, n_ngeq, n_ng0, n_nglt, n_glt, n_gle, n_ltg, n_leg, n_gg, n_ge0, n_add, n_mul, n_rem, n_shl1, n_and, n_or, n_bit, n_not, n_not', n_B1, n_B0, n_BB, obind, xite_T, xite_F, xite_not, xite_same, oI_s, oI_n, Bool.false_eq_true, reduceCtorEq, eq_self, Classical.not_not, bI_T, bI_Fa, bI_0, bI_n0, bI_x, xb_0, xb_1, xite_bI, xite_bI', not_true_eq_false, not_false_eq_true, Nat.zero_add, Nat.add_zero, Nat.mul_zero, Nat.mul_one, Nat.one_mul, reduceIte, Nat.reduceEqDiff, Nat.reduceAdd, Nat.reduceMul, Nat.reduceSub, Nat.reduceLT, Nat.reduceLeDiff, Nat.reducePow, ite_true, ite_false, if_true, if_false, and_true, true_and, false_and, and_false, or_false, false_or, true_or, or_true, ne_eq, xite_t, xite_f, ]
      rw [ej]
theorem C180_s (d : Nat) (σ : xS) {e : Nat} {x : mSh} (hs : cSh σ e x) : ∀ m i, x.2.2.2.2.1 < i + m → i < x.2.2.2.2.1 → run (d + 3) (180, 4, [some (.inr (.inr (14, (some e)))), some (.inl (-nI 1)), some (.inl (nI (i))), none], [], σ) = some ((oI 1 (chk x.2.2.2.2.1 x.2.2.2.2.2 m i), 0, none), σ) := by
  have h5 := hs.2.2.2.2.1
  have hz := hs.1.2.2.2
  intro m
  induction m with
  | zero => intro i h1 h2; omega
  | succ m ih =>
    intro i h1 h2
    have e1 := C126 d σ hs h2
    have hd4 := dgt_4 (x.2.2.2.2.2 i)
    show _ = some ((oI 1 (match brk x.2.2.2.2.1 x.2.2.2.2.2 i with
      | some p => some p
      | none => if i + dgt (x.2.2.2.2.2 i) + 2 < x.2.2.2.2.1 then chk x.2.2.2.2.1 x.2.2.2.2.2 m (i + dgt (x.2.2.2.2.2 i) + 2) else none), 0, none), σ)
    rw [B180_4, h5]
    simp (disch := omega) only [n_cl, n_lt, n_le, n_eq, n_lt0, n_0lt, n_le0, n_eq0, n_gneq, n_ngeq, n_ng0, n_nglt, n_glt, n_gle, n_ltg, n_leg, n_gg, n_ge0, n_add, n_mul, n_rem, n_shl1, n_and, n_or, n_bit, n_not, n_not', n_B1, n_B0, n_BB, obind, xite_T, xite_F, xite_not, xite_same, oI_s, oI_n, Bool.false_eq_true, reduceCtorEq, eq_self, Classical.not_not, bI_T, bI_Fa, bI_0, bI_n0, bI_x, xb_0, xb_1, xite_bI, xite_bI', not_true_eq_false, not_false_eq_true, Nat.zero_add, Nat.add_zero, Nat.mul_zero, Nat.mul_one, Nat.one_mul, reduceIte, Nat.reduceEqDiff, Nat.reduceAdd, Nat.reduceMul, Nat.reduceSub, Nat.reduceLT, Nat.reduceLeDiff, Nat.reducePow, ite_true, ite_false, if_true, if_false, and_true, true_and, false_and, and_false, or_false, false_or, true_or, or_true, ne_eq, xite_t, xite_f, e1, C179]
    unfold brk
    rw [hr_i h2]
    by_cases c1 : dgt (x.2.2.2.2.2 i) = 0
    · rw [xite_t c1, xite_t c1]
      rfl
    · rw [xite_f c1, xite_f c1]
      have := C180_d d σ hs (dgt (x.2.2.2.2.2 i)) (i + 1) hd4 (by omega) (by omega)
      refine this.trans ?_
      cases hb : bd x.2.2.2.2.1 x.2.2.2.2.2 (dgt (x.2.2.2.2.2 i)) (i + 1) with
      | some p => rfl
      | none =>
        obtain ⟨_, b2, _⟩ := bd_n _ _ hb
        show run (d + 3) (180, 4, [some (.inr (.inr (14, (some e)))), some (.inl (-nI 1)), some (.inl (nI (i + 1 + dgt (x.2.2.2.2.2 i) + 1))), none], [], σ) = some ((oI 1 (if i + dgt (x.2.2.2.2.2 i) + 2 < x.2.2.2.2.1 then chk x.2.2.2.2.1 x.2.2.2.2.2 m (i + dgt (x.2.2.2.2.2 i) + 2) else none), 0, none), σ)
        rw [show i + 1 + dgt (x.2.2.2.2.2 i) + 1 = i + dgt (x.2.2.2.2.2 i) + 2 by omega]
        by_cases c2 : i + dgt (x.2.2.2.2.2 i) + 2 < x.2.2.2.2.1
        · rw [if_pos c2]
          exact ih _ (by omega) c2
        · rw [if_neg c2, B180_4, h5]
          simp (disch := omega) only [n_cl, n_lt, n_le, n_eq, n_lt0, n_0lt, n_le0, n_eq0, n_gneq, n_ngeq, n_ng0, n_nglt, n_glt, n_gle, n_ltg, n_leg, n_gg, n_ge0, n_add, n_mul, n_rem, n_shl1, n_and, n_or, n_bit, n_not, n_not', n_B1, n_B0, n_BB, obind, xite_T, xite_F, xite_not, xite_same, oI_s, oI_n, Bool.false_eq_true, reduceCtorEq, eq_self, Classical.not_not, bI_T, bI_Fa, bI_0, bI_n0, bI_x, xb_0, xb_1, xite_bI, xite_bI', not_true_eq_false, not_false_eq_true, Nat.zero_add, Nat.add_zero, Nat.mul_zero, Nat.mul_one, Nat.one_mul, reduceIte, Nat.reduceEqDiff, Nat.reduceAdd, Nat.reduceMul, Nat.reduceSub, Nat.reduceLT, Nat.reduceLeDiff, Nat.reducePow, ite_true, ite_false, if_true, if_false, and_true, true_and, false_and, and_false, or_false, false_or, true_or, or_true, ne_eq, xite_t, xite_f, ]
theorem C180 (d : Nat) (σ : xS) {e : Nat} {x : mSh} (hs : cSh σ e x) : run (d + 3) (xentry 180 [.inr (.inr (14, (some e)))] σ) = some ((oI 1 (chk x.2.2.2.2.1 x.2.2.2.2.2 101 0), 0, none), σ) := by
  have h5 := hs.2.2.2.2.1
  have hz := hs.1.2.2.2
  rw [B180_0]
  by_cases h0 : 0 < x.2.2.2.2.1
  · exact C180_s d σ hs 101 0 (by omega) h0
  · have e0 : x.2.2.2.2.1 = 0 := by omega
    have eb : chk x.2.2.2.2.1 x.2.2.2.2.2 101 0 = some 0 := by
      show (match brk x.2.2.2.2.1 x.2.2.2.2.2 0 with
        | some p => some p
        | none => _) = _
      have : brk x.2.2.2.2.1 x.2.2.2.2.2 0 = some 0 := by
        unfold brk
        rw [hr_x h0]
        exact xite_t m1000.2.2
      rw [this]
    rw [eb, B180_4, h5, e0]
    simp (disch := omega) only [n_cl, n_lt, n_le, n_eq, n_lt0, n_0lt, n_le0, n_eq0, n_gneq, n_ngeq, n_ng0, n_nglt, n_glt, n_gle, n_ltg, n_leg, n_gg, n_ge0, n_add, n_mul, n_rem, n_shl1, n_and, n_or, n_bit, n_not, n_not', n_B1, n_B0, n_BB, obind, xite_T, xite_F, xite_not, xite_same, oI_s, oI_n, Bool.false_eq_true, reduceCtorEq, eq_self, Classical.not_not, bI_T, bI_Fa, bI_0, bI_n0, bI_x, xb_0, xb_1, xite_bI, xite_bI', not_true_eq_false, not_false_eq_true, Nat.zero_add, Nat.add_zero, Nat.mul_zero, Nat.mul_one, Nat.one_mul, reduceIte, Nat.reduceEqDiff, Nat.reduceAdd, Nat.reduceMul, Nat.reduceSub, Nat.reduceLT, Nat.reduceLeDiff, Nat.reducePow, ite_true, ite_false, if_true, if_false, and_true, true_and, false_and, and_false, or_false, false_or, true_or, or_true, ne_eq, xite_t, xite_f, ]
/-- the reference reads -/
def rdr (σ : xS) (e z i : Nat) : Prop := rI σ 17 0 19 = nI i ∧ rI σ 17 0 20 = nI (100 * e) ∧ rI σ 17 0 21 = nI z
theorem M23 (d : Nat) (σ : xS) {e i : Nat} {x : mSh} (hs : mShl σ e x) (he : e < 8) (h : rdr σ e x.2.2.2.2.1 i) (hi : i < 1000) : run (d + 1) (xentry 23 [.inr (.inr (17, (some 0)))] σ) = some ((hr x.2.2.2.2.1 x.2.2.2.2.2 i, 0, none), σ) := by
  obtain ⟨h1, h2, h3⟩ := h
  have hz := hs.1.2.2.2
  rw [B23_0]
  by_cases c : i < x.2.2.2.2.1
  · rw [hr_i c]
    simp (disch := omega) only [n_cl, n_lt, n_le, n_eq, n_lt0, n_0lt, n_le0, n_eq0, n_gneq, n_ngeq, n_ng0, n_nglt, n_glt, n_gle, n_ltg, n_leg, n_gg, n_ge0, n_add, n_mul, n_rem, n_shl1, n_and, n_or, n_bit, n_not, n_not', n_B1, n_B0, n_BB, obind, xite_T, xite_F, xite_not, xite_same, oI_s, oI_n, Bool.false_eq_true, reduceCtorEq, eq_self, Classical.not_not, bI_T, bI_Fa, bI_0, bI_n0, bI_x, xb_0, xb_1, xite_bI, xite_bI', not_true_eq_false, not_false_eq_true, Nat.zero_add, Nat.add_zero, Nat.mul_zero, Nat.mul_one, Nat.one_mul, reduceIte, Nat.reduceEqDiff, Nat.reduceAdd, Nat.reduceMul, Nat.reduceSub, Nat.reduceLT, Nat.reduceLeDiff, Nat.reducePow, ite_true, ite_false, if_true, if_false, and_true, true_and, false_and, and_false, or_false, false_or, true_or, or_true, ne_eq, xite_t, xite_f, h1, h2, h3, hs.2.2.2.2.2 i (by omega)]
  · rw [hr_x c]
    simp (disch := omega) only [n_cl, n_lt, n_le, n_eq, n_lt0, n_0lt, n_le0, n_eq0, n_gneq, n_ngeq, n_ng0, n_nglt, n_glt, n_gle, n_ltg, n_leg, n_gg, n_ge0, n_add, n_mul, n_rem, n_shl1, n_and, n_or, n_bit, n_not, n_not', n_B1, n_B0, n_BB, obind, xite_T, xite_F, xite_not, xite_same, oI_s, oI_n, Bool.false_eq_true, reduceCtorEq, eq_self, Classical.not_not, bI_T, bI_Fa, bI_0, bI_n0, bI_x, xb_0, xb_1, xite_bI, xite_bI', not_true_eq_false, not_false_eq_true, Nat.zero_add, Nat.add_zero, Nat.mul_zero, Nat.mul_one, Nat.one_mul, reduceIte, Nat.reduceEqDiff, Nat.reduceAdd, Nat.reduceMul, Nat.reduceSub, Nat.reduceLT, Nat.reduceLeDiff, Nat.reducePow, ite_true, ite_false, if_true, if_false, and_true, true_and, false_and, and_false, or_false, false_or, true_or, or_true, ne_eq, xite_t, xite_f, h1, h2, h3]
def Srd (r _ k : Nat) : Prop := r = 32 ∨ (r = 17 ∧ k = 19)
theorem Srd_X (r j k : Nat) (h : Srd r j k) : SmX r j k := by unfold Srd at h; unfold SmX; omega
theorem rdr_w {σ : xS} {e z i : Nat} (h : rdr σ e z i) (j : Nat) : rdr (wI σ 17 0 19 (nI j)) e z j := ⟨w_Is, by simp (disch := omega) only [n_cl, n_lt, n_le, n_eq, n_lt0, n_0lt, n_le0, n_eq0, n_gneq, n_ngeq, n_ng0, n_nglt, n_glt, n_gle, n_ltg, n_leg, n_gg, n_ge0, n_add, n_mul, n_rem, n_shl1, n_and, n_or, n_bit, n_not, n_not', n_B1, n_B0, n_BB, obind, xite_T, xite_F, xite_not, xite_same, oI_s, oI_n, Bool.false_eq_true, reduceCtorEq, eq_self, Classical.not_not, bI_T, bI_Fa, bI_0, bI_n0, bI_x, xb_0, xb_1, xite_bI, xite_bI', not_true_eq_false, not_false_eq_true, Nat.zero_add, Nat.add_zero, Nat.mul_zero, Nat.mul_one, Nat.one_mul, reduceIte, Nat.reduceEqDiff, Nat.reduceAdd, Nat.reduceMul, Nat.reduceSub, Nat.reduceLT, Nat.reduceLeDiff, Nat.reducePow, ite_true, ite_false, if_true, if_false, and_true, true_and, false_and, and_false, or_false, false_or, true_or, or_true, ne_eq, xite_t, xite_f, w_I2, w_Is, w_In, w_IL, w_IP, w_IC, w_LI, w_LP, w_LC, w_PI, w_PL, w_PC]; exact h.2.1, by simp (disch := omega) only [n_cl, n_lt, n_le, n_eq, n_lt0, n_0lt, n_le0, n_eq0, n_gneq, n_ngeq, n_ng0, n_nglt, n_glt, n_gle, n_ltg, n_leg, n_gg, n_ge0, n_add, n_mul, n_rem, n_shl1, n_and, n_or, n_bit, n_not, n_not', n_B1, n_B0, n_BB, obind, xite_T, xite_F, xite_not, xite_same, oI_s, oI_n, Bool.false_eq_true, reduceCtorEq, eq_self, Classical.not_not, bI_T, bI_Fa, bI_0, bI_n0, bI_x, xb_0, xb_1, xite_bI, xite_bI', not_true_eq_false, not_false_eq_true, Nat.zero_add, Nat.add_zero, Nat.mul_zero, Nat.mul_one, Nat.one_mul, reduceIte, Nat.reduceEqDiff, Nat.reduceAdd, Nat.reduceMul, Nat.reduceSub, Nat.reduceLT, Nat.reduceLeDiff, Nat.reducePow, ite_true, ite_false, if_true, if_false, and_true, true_and, false_and, and_false, or_false, false_or, true_or, or_true, ne_eq, xite_t, xite_f, w_I2, w_Is, w_In, w_IL, w_IP, w_IC, w_LI, w_LP, w_LC, w_PI, w_PL, w_PC]; exact h.2.2⟩
/-- place after reading digits: the first that is none -/
noncomputable def pd (z : Nat) (c : Nat → Int32) : Nat → Nat → Nat
  | 0, j => j
  | n + 1, j => xite (isD (hr z c j)) (pd z c n (j + 1)) j
noncomputable def okd (z : Nat) (c : Nat → Int32) : Nat → Nat → Prop
  | 0, _ => True
  | n + 1, j => isD (hr z c j) ∧ okd z c n (j + 1)
theorem M24 (d : Nat) {e : Nat} {x : mSh} (he : e < 8) (hz : x.2.2.2.2.1 ≤ 100) (n : Nat) (hn : n ≤ 4) : ∀ m k j σ, k + m = n → j < 500 → mShl σ e x → rdr σ e x.2.2.2.2.1 j → ∃ σ', run (d + 3) (24, 2, [some (.inr (.inr (17, (some 0)))), some (.inl (nI (n))), some (.inl (nI (k)))], [], σ) = some ((bI (okd x.2.2.2.2.1 x.2.2.2.2.2 m j), 0, none), σ') ∧ rdr σ' e x.2.2.2.2.1 (pd x.2.2.2.2.1 x.2.2.2.2.2 m j) ∧ xF Srd σ σ' ∧ (∀ a, a < k → rI σ' 32 0 a = rI σ 32 0 a) ∧ (okd x.2.2.2.2.1 x.2.2.2.2.2 m j → ∀ a, a < m → rI σ' 32 0 (k + a) = nI (dgv (hr x.2.2.2.2.1 x.2.2.2.2.2 (j + a)))) := by
  intro m
  induction m with
  | zero =>
    intro k j σ hk hj hs hrd
    refine ⟨σ, ?_, hrd, xF_refl σ, fun a _ => rfl, fun _ a ha => by omega⟩
    have ek : k = n := by omega
    subst ek
    rw [B24_2]
    show _ = some ((bI True, 0, none), σ)
    simp (disch := omega) only [n_cl, n_lt, n_le, n_eq, n_lt0, n_0lt, n_le0, n_eq0, n_gneq, n_ngeq, n_ng0, n_nglt, n_glt, n_gle, n_ltg, n_leg, n_gg, n_ge0, n_add, n_mul, n_rem, n_shl1, n_and, n_or, n_bit, n_not, n_not', n_B1, n_B0, n_BB, obind, xite_T, xite_F, xite_not, xite_same, oI_s, oI_n, Bool.false_eq_true, reduceCtorEq, eq_self, Classical.not_not, bI_T, bI_Fa, bI_0, bI_n0, bI_x, xb_0, xb_1, xite_bI, xite_bI', not_true_eq_false, not_false_eq_true, Nat.zero_add, Nat.add_zero, Nat.mul_zero, Nat.mul_one, Nat.one_mul, reduceIte, Nat.reduceEqDiff, Nat.reduceAdd, Nat.reduceMul, Nat.reduceSub, Nat.reduceLT, Nat.reduceLeDiff, Nat.reducePow, ite_true, ite_false, if_true, if_false, and_true, true_and, false_and, and_false, or_false, false_or, true_or, or_true, ne_eq, xite_t, xite_f, ]
  | succ m ih =>
    intro k j σ hk hj hs hrd
    have e23 := M23 (d + 1) σ hs he hrd (by omega)

    have hb : ∀ v : Int32, bI ((lN 48).toInt ≤ (v.toInt64).toInt ∧ (v.toInt64).toInt ≤ (lN 57).toInt) = bI (isD v) := fun v => by
      rw [n_i2l, n_lNt (by omega), n_lNt (by omega)]
      rfl
    show ∃ σ', _ = some ((bI (isD (hr x.2.2.2.2.1 x.2.2.2.2.2 j) ∧ okd x.2.2.2.2.1 x.2.2.2.2.2 m (j + 1)), 0, none), σ') ∧ rdr σ' e x.2.2.2.2.1 (xite (isD (hr x.2.2.2.2.1 x.2.2.2.2.2 j)) (pd x.2.2.2.2.1 x.2.2.2.2.2 m (j + 1)) j) ∧ _
    rw [B24_2]
    simp (disch := omega) only [n_cl, n_lt, n_le, n_eq, n_lt0, n_0lt, n_le0, n_eq0, n_gneq, n_ngeq, n_ng0, n_nglt, n_glt, n_gle, n_ltg, n_leg, n_gg, n_ge0, n_add, n_mul, n_rem, n_shl1, n_and, n_or, n_bit, n_not, n_not', n_B1, n_B0, n_BB, obind, xite_T, xite_F, xite_not, xite_same, oI_s, oI_n, Bool.false_eq_true, reduceCtorEq, eq_self, Classical.not_not, bI_T, bI_Fa, bI_0, bI_n0, bI_x, xb_0, xb_1, xite_bI, xite_bI', not_true_eq_false, not_false_eq_true, Nat.zero_add, Nat.add_zero, Nat.mul_zero, Nat.mul_one, Nat.one_mul, reduceIte, Nat.reduceEqDiff, Nat.reduceAdd, Nat.reduceMul, Nat.reduceSub, Nat.reduceLT, Nat.reduceLeDiff, Nat.reducePow, ite_true, ite_false, if_true, if_false, and_true, true_and, false_and, and_false, or_false, false_or, true_or, or_true, ne_eq, xite_t, xite_f, e23, M1, hb]
    by_cases c : isD (hr x.2.2.2.2.1 x.2.2.2.2.2 j)
    · have hjz : j < x.2.2.2.2.1 := by
        apply Classical.byContradiction
        intro q
        rw [hr_x q] at c
        exact m1000.1 c
      obtain ⟨d1, d2⟩ := isD_of c
      have e48 : hr x.2.2.2.2.1 x.2.2.2.2.2 j - nI 48 = nI (dgv (hr x.2.2.2.2.1 x.2.2.2.2.2 j)) := by
        have : nI (48 + dgv (hr x.2.2.2.2.1 x.2.2.2.2.2 j)) - nI 48 = nI (dgv (hr x.2.2.2.2.1 x.2.2.2.2.2 j)) := by
          rw [n_sub (by omega)]
          congr 1
          omega
        rw [← d1] at this
        exact this
      have hF : xF Srd σ (wI (wI σ 32 0 k (nI (dgv (hr x.2.2.2.2.1 x.2.2.2.2.2 j)))) 17 0 19 (nI (j + 1))) := xF_wI (xF_wI (xF_refl σ) _ (Or.inl rfl)) _ (Or.inr ⟨rfl, rfl⟩)
      have hr2 : rdr (wI (wI σ 32 0 k (nI (dgv (hr x.2.2.2.2.1 x.2.2.2.2.2 j)))) 17 0 19 (nI (j + 1))) e x.2.2.2.2.1 (j + 1) := rdr_w (i := j) ⟨by simp (disch := omega) only [n_cl, n_lt, n_le, n_eq, n_lt0, n_0lt, n_le0, n_eq0, n_gneq, n_ngeq, n_ng0, n_nglt, n_glt, n_gle, n_ltg, n_leg, n_gg, n_ge0, n_add, n_mul, n_rem, n_shl1, n_and, n_or, n_bit, n_not, n_not', n_B1, n_B0, n_BB, obind, xite_T, xite_F, xite_not, xite_same, oI_s, oI_n, Bool.false_eq_true, reduceCtorEq, eq_self, Classical.not_not, bI_T, bI_Fa, bI_0, bI_n0, bI_x, xb_0, xb_1, xite_bI, xite_bI', not_true_eq_false, not_false_eq_true, Nat.zero_add, Nat.add_zero, Nat.mul_zero, Nat.mul_one, Nat.one_mul, reduceIte, Nat.reduceEqDiff, Nat.reduceAdd, Nat.reduceMul, Nat.reduceSub, Nat.reduceLT, Nat.reduceLeDiff, Nat.reducePow, ite_true, ite_false, if_true, if_false, and_true, true_and, false_and, and_false, or_false, false_or, true_or, or_true, ne_eq, xite_t, xite_f, w_I2, w_Is, w_In, w_IL, w_IP, w_IC, w_LI, w_LP, w_LC, w_PI, w_PL, w_PC]; exact hrd.1, by simp (disch := omega) only [n_cl, n_lt, n_le, n_eq, n_lt0, n_0lt, n_le0, n_eq0, n_gneq, n_ngeq, n_ng0, n_nglt, n_glt, n_gle, n_ltg, n_leg, n_gg, n_ge0, n_add, n_mul, n_rem, n_shl1, n_and, n_or, n_bit, n_not, n_not', n_B1, n_B0, n_BB, obind, xite_T, xite_F, xite_not, xite_same, oI_s, oI_n, Bool.false_eq_true, reduceCtorEq, eq_self, Classical.not_not, bI_T, bI_Fa, bI_0, bI_n0, bI_x, xb_0, xb_1, xite_bI, xite_bI', not_true_eq_false, not_false_eq_true, Nat.zero_add, Nat.add_zero, Nat.mul_zero, Nat.mul_one, Nat.one_mul, reduceIte, Nat.reduceEqDiff, Nat.reduceAdd, Nat.reduceMul, Nat.reduceSub, Nat.reduceLT, Nat.reduceLeDiff, Nat.reducePow, ite_true, ite_false, if_true, if_false, and_true, true_and, false_and, and_false, or_false, false_or, true_or, or_true, ne_eq, xite_t, xite_f, w_I2, w_Is, w_In, w_IL, w_IP, w_IC, w_LI, w_LP, w_LC, w_PI, w_PL, w_PC]; exact hrd.2.1, by simp (disch := omega) only [n_cl, n_lt, n_le, n_eq, n_lt0, n_0lt, n_le0, n_eq0, n_gneq, n_ngeq, n_ng0, n_nglt, n_glt, n_gle, n_ltg, n_leg, n_gg, n_ge0, n_add, n_mul, n_rem, n_shl1, n_and, n_or, n_bit, n_not, n_not', n_B1, n_B0, n_BB, obind, xite_T, xite_F, xite_not, xite_same, oI_s, oI_n, Bool.false_eq_true, reduceCtorEq, eq_self, Classical.not_not, bI_T, bI_Fa, bI_0, bI_n0, bI_x, xb_0, xb_1, xite_bI, xite_bI', not_true_eq_false, not_false_eq_true, Nat.zero_add, Nat.add_zero, Nat.mul_zero, Nat.mul_one, Nat.one_mul, reduceIte, Nat.reduceEqDiff, Nat.reduceAdd, Nat.reduceMul, Nat.reduceSub, Nat.reduceLT, Nat.reduceLeDiff, Nat.reducePow, ite_true, ite_false, if_true, if_false, and_true, true_and, false_and, and_false, or_false, false_or, true_or, or_true, ne_eq, xite_t, xite_f, w_I2, w_Is, w_In, w_IL, w_IP, w_IC, w_LI, w_LP, w_LC, w_PI, w_PL, w_PC]; exact hrd.2.2⟩ (j + 1)
      obtain ⟨σ', f1, f2, f3, f4, f5⟩ := ih (k + 1) (j + 1) _ (by omega) (by omega) (mShl_X hs (xF_le hF Srd_X)) hr2
      refine ⟨σ', ?_, by rw [xite_t c]; exact f2, xF_trans hF f3, fun a ha => ?_, fun ho a ha => ?_⟩
      · have e19 := hrd.1
        simp (disch := omega) only [n_cl, n_lt, n_le, n_eq, n_lt0, n_0lt, n_le0, n_eq0, n_gneq, n_ngeq, n_ng0, n_nglt, n_glt, n_gle, n_ltg, n_leg, n_gg, n_ge0, n_add, n_mul, n_rem, n_shl1, n_and, n_or, n_bit, n_not, n_not', n_B1, n_B0, n_BB, obind, xite_T, xite_F, xite_not, xite_same, oI_s, oI_n, Bool.false_eq_true, reduceCtorEq, eq_self, Classical.not_not, bI_T, bI_Fa, bI_0, bI_n0, bI_x, xb_0, xb_1, xite_bI, xite_bI', not_true_eq_false, not_false_eq_true, Nat.zero_add, Nat.add_zero, Nat.mul_zero, Nat.mul_one, Nat.one_mul, reduceIte, Nat.reduceEqDiff, Nat.reduceAdd, Nat.reduceMul, Nat.reduceSub, Nat.reduceLT, Nat.reduceLeDiff, Nat.reducePow, ite_true, ite_false, if_true, if_false, and_true, true_and, false_and, and_false, or_false, false_or, true_or, or_true, ne_eq, xite_t, xite_f, c, e48, w_I2, w_Is, w_In, w_IL, w_IP, w_IC, w_LI, w_LP, w_LC, w_PI, w_PL, w_PC, e19]
        refine f1.trans ?_
        simp (disch := omega) only [n_cl, n_lt, n_le, n_eq, n_lt0, n_0lt, n_le0, n_eq0, n_gneq, n_ngeq, n_ng0, n_nglt, n_glt, n_gle, n_ltg, n_leg, n_gg, n_ge0, n_add, n_mul, n_rem, n_shl1, n_and, n_or, n_bit, n_not, n_not', n_B1, n_B0, n_BB, obind, xite_T, xite_F, xite_not, xite_same, oI_s, oI_n, Bool.false_eq_true, reduceCtorEq, eq_self, Classical.not_not, bI_T, bI_Fa, bI_0, bI_n0, bI_x, xb_0, xb_1, xite_bI, xite_bI', not_true_eq_false, not_false_eq_true, Nat.zero_add, Nat.add_zero, Nat.mul_zero, Nat.mul_one, Nat.one_mul, reduceIte, Nat.reduceEqDiff, Nat.reduceAdd, Nat.reduceMul, Nat.reduceSub, Nat.reduceLT, Nat.reduceLeDiff, Nat.reducePow, ite_true, ite_false, if_true, if_false, and_true, true_and, false_and, and_false, or_false, false_or, true_or, or_true, ne_eq, c]
      · rw [f4 a (by omega), w_I2 (by omega), w_In (by omega)]
      · by_cases ea : a = 0
        · subst ea
          rw [Nat.add_zero, f4 k (by omega), w_I2 (by omega), w_Is]
          rfl
        · have := f5 ho.2 (a - 1) (by omega)
          rw [show k + 1 + (a - 1) = k + a by omega, show j + 1 + (a - 1) = j + a by omega] at this
          exact this
    · refine ⟨σ, ?_, by rw [xite_f c]; exact hrd, xF_refl σ, fun a _ => rfl, fun ho => absurd ho.1 c⟩
      simp (disch := omega) only [n_cl, n_lt, n_le, n_eq, n_lt0, n_0lt, n_le0, n_eq0, n_gneq, n_ngeq, n_ng0, n_nglt, n_glt, n_gle, n_ltg, n_leg, n_gg, n_ge0, n_add, n_mul, n_rem, n_shl1, n_and, n_or, n_bit, n_not, n_not', n_B1, n_B0, n_BB, obind, xite_T, xite_F, xite_not, xite_same, oI_s, oI_n, Bool.false_eq_true, reduceCtorEq, eq_self, Classical.not_not, bI_T, bI_Fa, bI_0, bI_n0, bI_x, xb_0, xb_1, xite_bI, xite_bI', not_true_eq_false, not_false_eq_true, Nat.zero_add, Nat.add_zero, Nat.mul_zero, Nat.mul_one, Nat.one_mul, reduceIte, Nat.reduceEqDiff, Nat.reduceAdd, Nat.reduceMul, Nat.reduceSub, Nat.reduceLT, Nat.reduceLeDiff, Nat.reducePow, ite_true, ite_false, if_true, if_false, and_true, true_and, false_and, and_false, or_false, false_or, true_or, or_true, ne_eq, xite_t, xite_f, c]
theorem okd_bd {z : Nat} {c : Nat → Int32} : ∀ n j, (okd z c n j ∧ hr z c (pd z c n j) = nI 59 ∧ pd z c n j = j + n ∧ bd z c n j = none) ∨ (¬ (okd z c n j ∧ hr z c (pd z c n j) = nI 59) ∧ bd z c n j = some (pd z c n j)) := by
  intro n
  induction n with
  | zero =>
    intro j
    show (True ∧ hr z c j = nI 59 ∧ j = j + 0 ∧ xite (hr z c j = nI 59) none (some j) = none) ∨ (¬ (True ∧ hr z c j = nI 59) ∧ xite (hr z c j = nI 59) none (some j) = some j)
    by_cases e : hr z c j = nI 59
    · rw [xite_t e]
      exact Or.inl ⟨trivial, e, rfl, rfl⟩
    · rw [xite_f e]
      exact Or.inr ⟨fun h => e h.2, rfl⟩
  | succ n ih =>
    intro j
    show ((isD (hr z c j) ∧ okd z c n (j + 1)) ∧ hr z c (xite (isD (hr z c j)) (pd z c n (j + 1)) j) = nI 59 ∧ xite (isD (hr z c j)) (pd z c n (j + 1)) j = j + (n + 1) ∧ xite (isD (hr z c j)) (bd z c n (j + 1)) (some j) = none) ∨ (¬ ((isD (hr z c j) ∧ okd z c n (j + 1)) ∧ hr z c (xite (isD (hr z c j)) (pd z c n (j + 1)) j) = nI 59) ∧ xite (isD (hr z c j)) (bd z c n (j + 1)) (some j) = some (xite (isD (hr z c j)) (pd z c n (j + 1)) j))
    by_cases e : isD (hr z c j)
    · rw [xite_t e, xite_t e]
      rcases ih (j + 1) with ⟨h1, h2, h3, h4⟩ | ⟨h1, h2⟩
      · exact Or.inl ⟨⟨e, h1⟩, h2, by omega, h4⟩
      · exact Or.inr ⟨fun h => h1 ⟨h.1.2, h.2⟩, h2⟩
    · rw [xite_f e, xite_f e]
      exact Or.inr ⟨fun h => e h.1.1, rfl⟩
theorem pd_z {z : Nat} {c : Nat → Int32} {n j : Nat} (hj : j ≤ z) : pd z c n j ≤ z := by
  rcases okd_bd (z := z) (c := c) n j with ⟨_, _, h3, h4⟩ | ⟨_, h2⟩
  · have := (bd_n _ _ h4).2.1
    omega
  · exact bd_z n j _ hj h2
/-- a statement is read -/
theorem M25 (d : Nat) (σ : xS) {e i : Nat} {x : mSh} (hs : mShl σ e x) (he : e < 8) (hrd : rdr σ e x.2.2.2.2.1 i) (hi : i ≤ x.2.2.2.2.1) : ∃ σ', run (d + 5) (xentry 25 [.inr (.inr (17, (some 0)))] σ) = some ((bI (brk x.2.2.2.2.1 x.2.2.2.2.2 i = none), 0, none), σ') ∧ rdr σ' e x.2.2.2.2.1 (match brk x.2.2.2.2.1 x.2.2.2.2.2 i with
    | some p => p
    | none => i + dgt (x.2.2.2.2.2 i) + 2) ∧ xF Srd σ σ' ∧ (brk x.2.2.2.2.1 x.2.2.2.2.2 i = none → ∀ a, a < dgt (x.2.2.2.2.2 i) → rI σ' 32 0 a = nI (dgv (x.2.2.2.2.2 (i + 1 + a)))) := by
  have hz := hs.1.2.2.2
  have e23 := M23 (d + 3) σ hs he hrd (by omega)
  have e52 : run (d + 5) (xentry 25 [.inr (.inr (17, (some 0)))] σ) = run (d + 5) (25, 52, [some (.inr (.inr (17, (some 0)))), none, none], [.inl (nI (dgt (hr x.2.2.2.2.1 x.2.2.2.2.2 i)))], σ) := by
    rw [B25_0]
    simp (disch := omega) only [n_cl, n_lt, n_le, n_eq, n_lt0, n_0lt, n_le0, n_eq0, n_gneq, n_ngeq, n_ng0, n_nglt, n_glt, n_gle, n_ltg, n_leg, n_gg, n_ge0, n_add, n_mul, n_rem, n_shl1, n_and, n_or, n_bit, n_not, n_not', n_B1, n_B0, n_BB, obind, xite_T, xite_F, xite_not, xite_same, oI_s, oI_n, Bool.false_eq_true, reduceCtorEq, eq_self, Classical.not_not, bI_T, bI_Fa, bI_0, bI_n0, bI_x, xb_0, xb_1, xite_bI, xite_bI', not_true_eq_false, not_false_eq_true, Nat.zero_add, Nat.add_zero, Nat.mul_zero, Nat.mul_one, Nat.one_mul, reduceIte, Nat.reduceEqDiff, Nat.reduceAdd, Nat.reduceMul, Nat.reduceSub, Nat.reduceLT, Nat.reduceLeDiff, Nat.reducePow, ite_true, ite_false, if_true, if_false, and_true, true_and, false_and, and_false, or_false, false_or, true_or, or_true, ne_eq, xite_t, xite_f, e23]
    rcases dgt_c (hr x.2.2.2.2.1 x.2.2.2.2.2 i) with ⟨e, h⟩ | ⟨e, h⟩ | ⟨e, h⟩ | ⟨e, h⟩ | ⟨e, h⟩ | ⟨e1, e2, e3, e4, e5, h⟩
    · rw [h, e]; simp (disch := omega) only [n_cl, n_lt, n_le, n_eq, n_lt0, n_0lt, n_le0, n_eq0, n_gneq, n_ngeq, n_ng0, n_nglt, n_glt, n_gle, n_ltg, n_leg, n_gg, n_ge0, n_add, n_mul, n_rem, n_shl1, n_and, n_or, n_bit, n_not, n_not', n_B1, n_B0, n_BB, obind, xite_T, xite_F, xite_not, xite_same, oI_s, oI_n, Bool.false_eq_true, reduceCtorEq, eq_self, Classical.not_not, bI_T, bI_Fa, bI_0, bI_n0, bI_x, xb_0, xb_1, xite_bI, xite_bI', not_true_eq_false, not_false_eq_true, Nat.zero_add, Nat.add_zero, Nat.mul_zero, Nat.mul_one, Nat.one_mul, reduceIte, Nat.reduceEqDiff, Nat.reduceAdd, Nat.reduceMul, Nat.reduceSub, Nat.reduceLT, Nat.reduceLeDiff, Nat.reducePow, ite_true, ite_false, if_true, if_false, and_true, true_and, false_and, and_false, or_false, false_or, true_or, or_true, ne_eq, xite_t, xite_f, ]
    · rw [h, e]; simp (disch := omega) only [n_cl, n_lt, n_le, n_eq, n_lt0, n_0lt, n_le0, n_eq0, n_gneq, n_ngeq, n_ng0, n_nglt, n_glt, n_gle, n_ltg, n_leg, n_gg, n_ge0, n_add, n_mul, n_rem, n_shl1, n_and, n_or, n_bit, n_not, n_not', n_B1, n_B0, n_BB, obind, xite_T, xite_F, xite_not, xite_same, oI_s, oI_n, Bool.false_eq_true, reduceCtorEq, eq_self, Classical.not_not, bI_T, bI_Fa, bI_0, bI_n0, bI_x, xb_0, xb_1, xite_bI, xite_bI', not_true_eq_false, not_false_eq_true, Nat.zero_add, Nat.add_zero, Nat.mul_zero, Nat.mul_one, Nat.one_mul, reduceIte, Nat.reduceEqDiff, Nat.reduceAdd, Nat.reduceMul, Nat.reduceSub, Nat.reduceLT, Nat.reduceLeDiff, Nat.reducePow, ite_true, ite_false, if_true, if_false, and_true, true_and, false_and, and_false, or_false, false_or, true_or, or_true, ne_eq, xite_t, xite_f, ]
    · rw [h, e]; simp (disch := omega) only [n_cl, n_lt, n_le, n_eq, n_lt0, n_0lt, n_le0, n_eq0, n_gneq, n_ngeq, n_ng0, n_nglt, n_glt, n_gle, n_ltg, n_leg, n_gg, n_ge0, n_add, n_mul, n_rem, n_shl1, n_and, n_or, n_bit, n_not, n_not', n_B1, n_B0, n_BB, obind, xite_T, xite_F, xite_not, xite_same, oI_s, oI_n, Bool.false_eq_true, reduceCtorEq, eq_self, Classical.not_not, bI_T, bI_Fa, bI_0, bI_n0, bI_x, xb_0, xb_1, xite_bI, xite_bI', not_true_eq_false, not_false_eq_true, Nat.zero_add, Nat.add_zero, Nat.mul_zero, Nat.mul_one, Nat.one_mul, reduceIte, Nat.reduceEqDiff, Nat.reduceAdd, Nat.reduceMul, Nat.reduceSub, Nat.reduceLT, Nat.reduceLeDiff, Nat.reducePow, ite_true, ite_false, if_true, if_false, and_true, true_and, false_and, and_false, or_false, false_or, true_or, or_true, ne_eq, xite_t, xite_f, ]
    · rw [h, e]; simp (disch := omega) only [n_cl, n_lt, n_le, n_eq, n_lt0, n_0lt, n_le0, n_eq0, n_gneq, n_ngeq, n_ng0, n_nglt, n_glt, n_gle, n_ltg, n_leg, n_gg, n_ge0, n_add, n_mul, n_rem, n_shl1, n_and, n_or, n_bit, n_not, n_not', n_B1, n_B0, n_BB, obind, xite_T, xite_F, xite_not, xite_same, oI_s, oI_n, Bool.false_eq_true, reduceCtorEq, eq_self, Classical.not_not, bI_T, bI_Fa, bI_0, bI_n0, bI_x, xb_0, xb_1, xite_bI, xite_bI', not_true_eq_false, not_false_eq_true, Nat.zero_add, Nat.add_zero, Nat.mul_zero, Nat.mul_one, Nat.one_mul, reduceIte, Nat.reduceEqDiff, Nat.reduceAdd, Nat.reduceMul, Nat.reduceSub, Nat.reduceLT, Nat.reduceLeDiff, Nat.reducePow, ite_true, ite_false, if_true, if_false, and_true, true_and, false_and, and_false, or_false, false_or, true_or, or_true, ne_eq, xite_t, xite_f, ]
    · rw [h, e]; simp (disch := omega) only [n_cl, n_lt, n_le, n_eq, n_lt0, n_0lt, n_le0, n_eq0, n_gneq, n_ngeq, n_ng0, n_nglt, n_glt, n_gle, n_ltg, n_leg, n_gg, n_ge0, n_add, n_mul, n_rem, n_shl1, n_and, n_or, n_bit, n_not, n_not', n_B1, n_B0, n_BB, obind, xite_T, xite_F, xite_not, xite_same, oI_s, oI_n, Bool.false_eq_true, reduceCtorEq, eq_self, Classical.not_not, bI_T, bI_Fa, bI_0, bI_n0, bI_x, xb_0, xb_1, xite_bI, xite_bI', not_true_eq_false, not_false_eq_true, Nat.zero_add, Nat.add_zero, Nat.mul_zero, Nat.mul_one, Nat.one_mul, reduceIte, Nat.reduceEqDiff, Nat.reduceAdd, Nat.reduceMul, Nat.reduceSub, Nat.reduceLT, Nat.reduceLeDiff, Nat.reducePow, ite_true, ite_false, if_true, if_false, and_true, true_and, false_and, and_false, or_false, false_or, true_or, or_true, ne_eq, xite_t, xite_f, ]
    · rw [h]; simp (disch := omega) only [n_cl, n_lt, n_le, n_eq, n_lt0, n_0lt, n_le0, n_eq0, n_gneq, n_ngeq, n_ng0, n_nglt, n_glt, n_gle, n_ltg, n_leg, n_gg, n_ge0, n_add, n_mul, n_rem, n_shl1, n_and, n_or, n_bit, n_not, n_not', n_B1, n_B0, n_BB, obind, xite_T, xite_F, xite_not, xite_same, oI_s, oI_n, Bool.false_eq_true, reduceCtorEq, eq_self, Classical.not_not, bI_T, bI_Fa, bI_0, bI_n0, bI_x, xb_0, xb_1, xite_bI, xite_bI', not_true_eq_false, not_false_eq_true, Nat.zero_add, Nat.add_zero, Nat.mul_zero, Nat.mul_one, Nat.one_mul, reduceIte, Nat.reduceEqDiff, Nat.reduceAdd, Nat.reduceMul, Nat.reduceSub, Nat.reduceLT, Nat.reduceLeDiff, Nat.reducePow, ite_true, ite_false, if_true, if_false, and_true, true_and, false_and, and_false, or_false, false_or, true_or, or_true, ne_eq, xite_t, xite_f, e1, e2, e3, e4, e5]
  have hd4 := dgt_4 (hr x.2.2.2.2.1 x.2.2.2.2.2 i)
  rw [e52, B25_52]
  by_cases c0 : dgt (hr x.2.2.2.2.1 x.2.2.2.2.2 i) = 0
  · have eb : brk x.2.2.2.2.1 x.2.2.2.2.2 i = some i := xite_t c0
    rw [eb]
    refine ⟨σ, ?_, hrd, xF_refl σ, fun h => by cases h⟩
    simp (disch := omega) only [n_cl, n_lt, n_le, n_eq, n_lt0, n_0lt, n_le0, n_eq0, n_gneq, n_ngeq, n_ng0, n_nglt, n_glt, n_gle, n_ltg, n_leg, n_gg, n_ge0, n_add, n_mul, n_rem, n_shl1, n_and, n_or, n_bit, n_not, n_not', n_B1, n_B0, n_BB, obind, xite_T, xite_F, xite_not, xite_same, oI_s, oI_n, Bool.false_eq_true, reduceCtorEq, eq_self, Classical.not_not, bI_T, bI_Fa, bI_0, bI_n0, bI_x, xb_0, xb_1, xite_bI, xite_bI', not_true_eq_false, not_false_eq_true, Nat.zero_add, Nat.add_zero, Nat.mul_zero, Nat.mul_one, Nat.one_mul, reduceIte, Nat.reduceEqDiff, Nat.reduceAdd, Nat.reduceMul, Nat.reduceSub, Nat.reduceLT, Nat.reduceLeDiff, Nat.reducePow, ite_true, ite_false, if_true, if_false, and_true, true_and, false_and, and_false, or_false, false_or, true_or, or_true, ne_eq, xite_t, xite_f, c0]
  · have eb : brk x.2.2.2.2.1 x.2.2.2.2.2 i = bd x.2.2.2.2.1 x.2.2.2.2.2 (dgt (hr x.2.2.2.2.1 x.2.2.2.2.2 i)) (i + 1) := xite_f c0
    have hiz : i < x.2.2.2.2.1 := by
      apply Classical.byContradiction
      intro q
      rw [hr_x q] at c0
      exact c0 m1000.2.2
    have hF0 : xF Srd σ (wI σ 17 0 19 (nI (i + 1))) := xF_wI (xF_refl σ) _ (Or.inr ⟨rfl, rfl⟩)
    obtain ⟨σ1, f1, f2, f3, f4, f5⟩ := M24 (d + 1) he hz (dgt (hr x.2.2.2.2.1 x.2.2.2.2.2 i)) hd4 (dgt (hr x.2.2.2.2.1 x.2.2.2.2.2 i)) 0 (i + 1) (wI σ 17 0 19 (nI (i + 1))) (by omega) (by omega) (mShl_X hs (xF_le hF0 Srd_X)) (rdr_w hrd (i + 1))
    have hF1 := xF_trans hF0 f3
    have hs1 := mShl_X hs (xF_le hF1 Srd_X)
    have hpz := pd_z (z := x.2.2.2.2.1) (c := x.2.2.2.2.2) (n := dgt (hr x.2.2.2.2.1 x.2.2.2.2.2 i)) (show i + 1 ≤ x.2.2.2.2.1 by omega)
    have e23' := M23 (d + 3) σ1 hs1 he f2 (by omega)
    have e24 : run (d + 4) (xentry 24 [.inr (.inr (17, (some 0))), .inl (nI (dgt (hr x.2.2.2.2.1 x.2.2.2.2.2 i)))] (wI σ 17 0 19 (nI (i + 1)))) = some ((bI (okd x.2.2.2.2.1 x.2.2.2.2.2 (dgt (hr x.2.2.2.2.1 x.2.2.2.2.2 i)) (i + 1)), 0, none), σ1) := by
      rw [B24_0]
      exact f1
    have e19 := hrd.1
    rw [eb]
    simp (disch := omega) only [n_cl, n_lt, n_le, n_eq, n_lt0, n_0lt, n_le0, n_eq0, n_gneq, n_ngeq, n_ng0, n_nglt, n_glt, n_gle, n_ltg, n_leg, n_gg, n_ge0, n_add, n_mul, n_rem, n_shl1, n_and, n_or, n_bit, n_not, n_not', n_B1, n_B0, n_BB, obind, xite_T, xite_F, xite_not, xite_same, oI_s, oI_n, Bool.false_eq_true, reduceCtorEq, eq_self, Classical.not_not, bI_T, bI_Fa, bI_0, bI_n0, bI_x, xb_0, xb_1, xite_bI, xite_bI', not_true_eq_false, not_false_eq_true, Nat.zero_add, Nat.add_zero, Nat.mul_zero, Nat.mul_one, Nat.one_mul, reduceIte, Nat.reduceEqDiff, Nat.reduceAdd, Nat.reduceMul, Nat.reduceSub, Nat.reduceLT, Nat.reduceLeDiff, Nat.reducePow, ite_true, ite_false, if_true, if_false, and_true, true_and, false_and, and_false, or_false, false_or, true_or, or_true, ne_eq, xite_t, xite_f, c0, e19, e24]
    rcases okd_bd (z := x.2.2.2.2.1) (c := x.2.2.2.2.2) (dgt (hr x.2.2.2.2.1 x.2.2.2.2.2 i)) (i + 1) with ⟨h1, h2, h3, h4⟩ | ⟨h1, h2⟩
    · rw [h4]
      have hF2 : xF Srd σ (wI σ1 17 0 19 (nI (i + dgt (x.2.2.2.2.2 i) + 2))) := xF_wI hF1 _ (Or.inr ⟨rfl, rfl⟩)
      have ehr := hr_i (c := x.2.2.2.2.2) hiz
      refine ⟨wI σ1 17 0 19 (nI (i + dgt (x.2.2.2.2.2 i) + 2)), ?_, rdr_w f2 _, hF2, fun _ a ha => ?_⟩
      · have e19' := f2.1
        rw [xite_t h1, e23']
        rw [h3] at e19' h2
        rw [h3]
        simp (disch := omega) only [n_cl, n_lt, n_le, n_eq, n_lt0, n_0lt, n_le0, n_eq0, n_gneq, n_ngeq, n_ng0, n_nglt, n_glt, n_gle, n_ltg, n_leg, n_gg, n_ge0, n_add, n_mul, n_rem, n_shl1, n_and, n_or, n_bit, n_not, n_not', n_B1, n_B0, n_BB, obind, xite_T, xite_F, xite_not, xite_same, oI_s, oI_n, Bool.false_eq_true, reduceCtorEq, eq_self, Classical.not_not, bI_T, bI_Fa, bI_0, bI_n0, bI_x, xb_0, xb_1, xite_bI, xite_bI', not_true_eq_false, not_false_eq_true, Nat.zero_add, Nat.add_zero, Nat.mul_zero, Nat.mul_one, Nat.one_mul, reduceIte, Nat.reduceEqDiff, Nat.reduceAdd, Nat.reduceMul, Nat.reduceSub, Nat.reduceLT, Nat.reduceLeDiff, Nat.reducePow, ite_true, ite_false, if_true, if_false, and_true, true_and, false_and, and_false, or_false, false_or, true_or, or_true, ne_eq, xite_t, xite_f, h2, e19']
        rw [ehr]
        congr 3
        congr 1
        omega
      · rw [w_I2 (by omega)]
        have := f5 h1 a (by rw [ehr]; exact ha)
        rw [Nat.zero_add] at this
        rw [this]
        have hb := (bd_n _ _ h4).1 a (by rw [ehr]; exact ha)
        rw [hr_i hb.1]
    · rw [h2]
      refine ⟨σ1, ?_, f2, hF1, fun h => by cases h⟩
      by_cases c1 : okd x.2.2.2.2.1 x.2.2.2.2.2 (dgt (hr x.2.2.2.2.1 x.2.2.2.2.2 i)) (i + 1)
      · have c2 : ¬ hr x.2.2.2.2.1 x.2.2.2.2.2 (pd x.2.2.2.2.1 x.2.2.2.2.2 (dgt (hr x.2.2.2.2.1 x.2.2.2.2.2 i)) (i + 1)) = nI 59 := fun h => h1 ⟨c1, h⟩
        rw [xite_t c1, e23']
        simp (disch := omega) only [n_cl, n_lt, n_le, n_eq, n_lt0, n_0lt, n_le0, n_eq0, n_gneq, n_ngeq, n_ng0, n_nglt, n_glt, n_gle, n_ltg, n_leg, n_gg, n_ge0, n_add, n_mul, n_rem, n_shl1, n_and, n_or, n_bit, n_not, n_not', n_B1, n_B0, n_BB, obind, xite_T, xite_F, xite_not, xite_same, oI_s, oI_n, Bool.false_eq_true, reduceCtorEq, eq_self, Classical.not_not, bI_T, bI_Fa, bI_0, bI_n0, bI_x, xb_0, xb_1, xite_bI, xite_bI', not_true_eq_false, not_false_eq_true, Nat.zero_add, Nat.add_zero, Nat.mul_zero, Nat.mul_one, Nat.one_mul, reduceIte, Nat.reduceEqDiff, Nat.reduceAdd, Nat.reduceMul, Nat.reduceSub, Nat.reduceLT, Nat.reduceLeDiff, Nat.reducePow, ite_true, ite_false, if_true, if_false, and_true, true_and, false_and, and_false, or_false, false_or, true_or, or_true, ne_eq, xite_t, xite_f, c2]
      · rw [xite_f c1]
        simp (disch := omega) only [n_cl, n_lt, n_le, n_eq, n_lt0, n_0lt, n_le0, n_eq0, n_gneq, n_ngeq, n_ng0, n_nglt, n_glt, n_gle, n_ltg, n_leg, n_gg, n_ge0, n_add, n_mul, n_rem, n_shl1, n_and, n_or, n_bit, n_not, n_not', n_B1, n_B0, n_BB, obind, xite_T, xite_F, xite_not, xite_same, oI_s, oI_n, Bool.false_eq_true, reduceCtorEq, eq_self, Classical.not_not, bI_T, bI_Fa, bI_0, bI_n0, bI_x, xb_0, xb_1, xite_bI, xite_bI', not_true_eq_false, not_false_eq_true, Nat.zero_add, Nat.add_zero, Nat.mul_zero, Nat.mul_one, Nat.one_mul, reduceIte, Nat.reduceEqDiff, Nat.reduceAdd, Nat.reduceMul, Nat.reduceSub, Nat.reduceLT, Nat.reduceLeDiff, Nat.reducePow, ite_true, ite_false, if_true, if_false, and_true, true_and, false_and, and_false, or_false, false_or, true_or, or_true, ne_eq, xite_t, xite_f, ]
