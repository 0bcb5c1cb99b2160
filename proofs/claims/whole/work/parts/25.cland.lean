/-! THE CLASS'S LANDS -/
/-- the nicks of all roads in one long -/
def nrep (N R : Nat) (nk : Nat → Nat) : Prop := N < 2 ^ (4 * R) ∧ ∀ r, r < R → ∀ g, g < 4 → N.testBit (4 * r + g) = (nk r).testBit g
def CL (σ : xS) (i : Nat) (X : mX) : Prop := WX (xaR X) X ∧ rI σ 1 i 0 = nI (xaP X) ∧ rI σ 1 i 1 = nI (xaR X) ∧ rI σ 1 i 2 = nI (xaC X) ∧ (∀ r, r < xaR X → rI σ 2 i r = nI (xaF X r) ∧ rI σ 3 i r = nI (xaT X r) ∧ rI σ 4 i r = nI (xaM X r)) ∧ (∃ N, rL σ 1 i 3 = lN N ∧ nrep N (xaR X) (xaN X)) ∧ (∀ c, c < xaC X → ∃ q, rP σ 5 i c = some q ∧ cOk σ q (xaK X c) (xaG X c))
theorem nrep_lt {N R : Nat} {nk : Nat → Nat} (h : nrep N R nk) (hR : R ≤ 9) : N < 2 ^ 36 := Nat.lt_of_lt_of_le h.1 (Nat.pow_le_pow_right (by omega) (by omega))
theorem nrep_free {N R : Nat} {nk : Nat → Nat} (h : nrep N R nk) {r g : Nat} (hr : r < R) (hg : g < 4) : (N &&& 2 ^ (4 * r + g) = 0) = ((nk r).testBit g = false) := by
  have e := h.2 r hr g hg
  rw [← e]
  apply propext
  constructor
  · intro h0
    have a : (N &&& 2 ^ (4 * r + g)).testBit (4 * r + g) = false := by rw [h0, Nat.zero_testBit]
    rw [Nat.testBit_and, Nat.testBit_two_pow_self, Bool.and_true] at a
    exact a
  · intro h0
    apply Nat.eq_of_testBit_eq
    intro j
    rw [Nat.testBit_and, Nat.zero_testBit, Nat.testBit_two_pow]
    by_cases ej : 4 * r + g = j
    · rw [← ej, h0]; rfl
    · simp [ej]
theorem nrep_nicks {N R : Nat} {nk : Nat → Nat} (h : nrep N R nk) {r : Nat} (hr : r < R) (hk : nk r < 16) : N / 2 ^ (4 * r) &&& 15 = nk r := by
  apply Nat.eq_of_testBit_eq
  intro j
  rw [show (15 : Nat) = 2 ^ 4 - 1 from rfl, Nat.and_two_pow_sub_one_eq_mod, Nat.testBit_mod_two_pow, Nat.testBit_div_two_pow]
  by_cases hj : j < 4
  · rw [Nat.add_comm, h.2 r hr j hj]
    simp [hj]
  · have : (nk r).testBit j = false := Nat.testBit_lt_two_pow (Nat.lt_of_lt_of_le hk (Nat.pow_le_pow_right (n := 2) (by omega) (show 4 ≤ j by omega)))
    rw [this]
    simp [hj]
theorem nrep_or {N R : Nat} {nk nk' : Nat → Nat} (h : nrep N R nk) {r l : Nat} (hr : r < R) (hl : l < 16) (hk : ∀ r', r' < R → nk' r' = if r' = r then nk r ||| l else nk r') : nrep (N ||| l * 2 ^ (4 * r)) R nk' := by
  constructor
  · apply Nat.or_lt_two_pow h.1
    have a : l * 2 ^ (4 * r) < 2 ^ 4 * 2 ^ (4 * r) := Nat.mul_lt_mul_of_pos_right hl (Nat.two_pow_pos _)
    rw [← Nat.pow_add] at a
    exact Nat.lt_of_lt_of_le a (Nat.pow_le_pow_right (by omega) (by omega))
  · intro r' hr' g hg
    rw [Nat.testBit_or, h.2 r' hr' g hg, hk r' hr', Nat.testBit_mul_two_pow]
    by_cases e : r' = r
    · subst e
      rw [if_pos rfl, Nat.testBit_or]
      have : 4 * r' + g - 4 * r' = g := by omega
      rw [this]
      simp
    · rw [if_neg e]
      by_cases e2 : 4 * r ≤ 4 * r' + g
      · have : l.testBit (4 * r' + g - 4 * r) = false := Nat.testBit_lt_two_pow (Nat.lt_of_lt_of_le hl (Nat.pow_le_pow_right (n := 2) (by omega) (show 4 ≤ 4 * r' + g - 4 * r by omega)))
        rw [this]
        simp
      · simp [e2]
theorem n_rng {v : Int32} {P : Nat} (hP : P < 2147483648) {α : Type} {a b : α} : xite (v < 0) a (xite (nI P ≤ v) a b) = xite (inb v P) b a := by
  by_cases h : v < 0
  · rw [xite_t h, xite_f]
    intro hi
    rw [n_ltx] at h
    have := hi.1
    have h : v.toInt < 0 := h
    omega
  · obtain ⟨k, hk, e⟩ := nI_of h
    subst e
    rw [xite_f h, inb_nI (by omega), n_le hP (by omega)]
    by_cases h2 : P ≤ k
    · rw [xite_t h2, xite_f (by omega)]
    · rw [xite_f h2, xite_t (by omega)]
theorem C166 (d : Nat) (σ : xS) (v : Int32) {n : Nat} (hn : n < 2147483648) : run (d + 1) (xentry 166 [.inl v, .inl (nI n)] σ) = some ((bI (inb v n), 0, none), σ) := by
  rw [B166_0, n_rng hn]
  simp (disch := omega) only [n_cl, n_lt, n_le, n_eq, n_lt0, n_0lt, n_le0, n_eq0, n_gneq, n_ngeq, n_ng0, n_nglt, n_glt, n_gle, n_ltg, n_leg, n_gg, n_ge0, n_add, n_mul, n_rem, n_shl1, n_and, n_or, n_bit, n_not, n_not', n_B1, n_B0, n_BB, obind, xite_T, xite_F, xite_not, xite_same, oI_s, oI_n, Bool.false_eq_true, reduceCtorEq, eq_self, Classical.not_not, bI_T, bI_Fa, bI_0, bI_n0, bI_x, xb_0, xb_1, xite_bI, xite_bI', not_true_eq_false, not_false_eq_true, Nat.zero_add, Nat.add_zero, Nat.mul_zero, Nat.mul_one, Nat.one_mul, reduceIte, Nat.reduceEqDiff, Nat.reduceAdd, Nat.reduceMul, Nat.reduceSub, Nat.reduceLT, Nat.reduceLeDiff, Nat.reducePow, ite_true, ite_false, if_true, if_false, and_true, true_and, false_and, and_false, or_false, false_or, true_or, or_true, ne_eq, ]
theorem C167 (d : Nat) (σ : xS) {s p : Nat} (hs : s < 2147483648) (hp : p < 32) : run (d + 1) (xentry 167 [.inl (nI s), .inl (nI p)] σ) = some ((bI (s.testBit p = true), 0, none), σ) := by
  rw [B167_0]
  simp (disch := omega) only [n_cl, n_lt, n_le, n_eq, n_lt0, n_0lt, n_le0, n_eq0, n_gneq, n_ngeq, n_ng0, n_nglt, n_glt, n_gle, n_ltg, n_leg, n_gg, n_ge0, n_add, n_mul, n_rem, n_shl1, n_and, n_or, n_bit, n_not, n_not', n_B1, n_B0, n_BB, obind, xite_T, xite_F, xite_not, xite_same, oI_s, oI_n, Bool.false_eq_true, reduceCtorEq, eq_self, Classical.not_not, bI_T, bI_Fa, bI_0, bI_n0, bI_x, xb_0, xb_1, xite_bI, xite_bI', not_true_eq_false, not_false_eq_true, Nat.zero_add, Nat.add_zero, Nat.mul_zero, Nat.mul_one, Nat.one_mul, reduceIte, Nat.reduceEqDiff, Nat.reduceAdd, Nat.reduceMul, Nat.reduceSub, Nat.reduceLT, Nat.reduceLeDiff, Nat.reducePow, ite_true, ite_false, if_true, if_false, and_true, true_and, false_and, and_false, or_false, false_or, true_or, or_true, ne_eq, ]
  congr 3
  cases s.testBit p <;> simp
theorem C168 (d : Nat) (σ : xS) {r g : Nat} (hr : r < 9) (hg : g < 4) : run (d + 1) (xentry 168 [.inl (nI r), .inl (nI g)] σ) = some ((0, lN (2 ^ (4 * r + g)), none), σ) := by
  rw [B168_0]
  simp (disch := omega) only [n_cl, n_lt, n_le, n_eq, n_lt0, n_0lt, n_le0, n_eq0, n_gneq, n_ngeq, n_ng0, n_nglt, n_glt, n_gle, n_ltg, n_leg, n_gg, n_ge0, n_add, n_mul, n_rem, n_shl1, n_and, n_or, n_bit, n_not, n_not', n_B1, n_B0, n_BB, obind, xite_T, xite_F, xite_not, xite_same, oI_s, oI_n, Bool.false_eq_true, reduceCtorEq, eq_self, Classical.not_not, bI_T, bI_Fa, bI_0, bI_n0, bI_x, xb_0, xb_1, xite_bI, xite_bI', not_true_eq_false, not_false_eq_true, Nat.zero_add, Nat.add_zero, Nat.mul_zero, Nat.mul_one, Nat.one_mul, reduceIte, Nat.reduceEqDiff, Nat.reduceAdd, Nat.reduceMul, Nat.reduceSub, Nat.reduceLT, Nat.reduceLeDiff, Nat.reducePow, ite_true, ite_false, if_true, if_false, and_true, true_and, false_and, and_false, or_false, false_or, true_or, or_true, ne_eq, ]
  rw [n_l (by omega), l_shl (by omega) (by rw [Nat.one_mul]; exact Nat.pow_lt_pow_right (by omega) (by omega)), Nat.one_mul]
theorem C92 (d : Nat) (σ : xS) {i : Nat} (v : Int32) {X : mX} (h : CL σ i X) : run (d + 1) (xentry 92 [.inr (.inr (1, (some i))), .inl v] σ) = some ((bI (inb v (xaP X)), 0, none), σ) := by
  have h6 := h.1.2.1
  rw [B92_0, h.2.1, n_rng (by omega)]
  simp (disch := omega) only [n_cl, n_lt, n_le, n_eq, n_lt0, n_0lt, n_le0, n_eq0, n_gneq, n_ngeq, n_ng0, n_nglt, n_glt, n_gle, n_ltg, n_leg, n_gg, n_ge0, n_add, n_mul, n_rem, n_shl1, n_and, n_or, n_bit, n_not, n_not', n_B1, n_B0, n_BB, obind, xite_T, xite_F, xite_not, xite_same, oI_s, oI_n, Bool.false_eq_true, reduceCtorEq, eq_self, Classical.not_not, bI_T, bI_Fa, bI_0, bI_n0, bI_x, xb_0, xb_1, xite_bI, xite_bI', not_true_eq_false, not_false_eq_true, Nat.zero_add, Nat.add_zero, Nat.mul_zero, Nat.mul_one, Nat.one_mul, reduceIte, Nat.reduceEqDiff, Nat.reduceAdd, Nat.reduceMul, Nat.reduceSub, Nat.reduceLT, Nat.reduceLeDiff, Nat.reducePow, ite_true, ite_false, if_true, if_false, and_true, true_and, false_and, and_false, or_false, false_or, true_or, or_true, ne_eq, ]
theorem C94 (d : Nat) (σ : xS) {i : Nat} (v : Int32) {X : mX} (h : CL σ i X) : run (d + 1) (xentry 94 [.inr (.inr (1, (some i))), .inl v] σ) = some ((bI (inb v (xaR X)), 0, none), σ) := by
  have h6 := h.1.2.2.1
  rw [B94_0, h.2.2.1, n_rng (by omega)]
  simp (disch := omega) only [n_cl, n_lt, n_le, n_eq, n_lt0, n_0lt, n_le0, n_eq0, n_gneq, n_ngeq, n_ng0, n_nglt, n_glt, n_gle, n_ltg, n_leg, n_gg, n_ge0, n_add, n_mul, n_rem, n_shl1, n_and, n_or, n_bit, n_not, n_not', n_B1, n_B0, n_BB, obind, xite_T, xite_F, xite_not, xite_same, oI_s, oI_n, Bool.false_eq_true, reduceCtorEq, eq_self, Classical.not_not, bI_T, bI_Fa, bI_0, bI_n0, bI_x, xb_0, xb_1, xite_bI, xite_bI', not_true_eq_false, not_false_eq_true, Nat.zero_add, Nat.add_zero, Nat.mul_zero, Nat.mul_one, Nat.one_mul, reduceIte, Nat.reduceEqDiff, Nat.reduceAdd, Nat.reduceMul, Nat.reduceSub, Nat.reduceLT, Nat.reduceLeDiff, Nat.reducePow, ite_true, ite_false, if_true, if_false, and_true, true_and, false_and, and_false, or_false, false_or, true_or, or_true, ne_eq, ]
theorem C93 (d : Nat) (σ : xS) {i : Nat} (a b : Int32) {X : mX} (h : CL σ i X) : run (d + 2) (xentry 93 [.inr (.inr (1, (some i))), .inl a, .inl b] σ) = some ((bI (inb a (xaP X) ∧ inb b (xaP X) ∧ ¬ a = b), 0, none), σ) := by
  rw [B93_0, C92 _ _ _ h]
  simp (disch := omega) only [n_cl, n_lt, n_le, n_eq, n_lt0, n_0lt, n_le0, n_eq0, n_gneq, n_ngeq, n_ng0, n_nglt, n_glt, n_gle, n_ltg, n_leg, n_gg, n_ge0, n_add, n_mul, n_rem, n_shl1, n_and, n_or, n_bit, n_not, n_not', n_B1, n_B0, n_BB, obind, xite_T, xite_F, xite_not, xite_same, oI_s, oI_n, Bool.false_eq_true, reduceCtorEq, eq_self, Classical.not_not, bI_T, bI_Fa, bI_0, bI_n0, bI_x, xb_0, xb_1, xite_bI, xite_bI', not_true_eq_false, not_false_eq_true, Nat.zero_add, Nat.add_zero, Nat.mul_zero, Nat.mul_one, Nat.one_mul, reduceIte, Nat.reduceEqDiff, Nat.reduceAdd, Nat.reduceMul, Nat.reduceSub, Nat.reduceLT, Nat.reduceLeDiff, Nat.reducePow, ite_true, ite_false, if_true, if_false, and_true, true_and, false_and, and_false, or_false, false_or, true_or, or_true, ne_eq, ]
  by_cases h1 : inb a (xaP X)
  · rw [xite_t h1, C92 _ _ _ h]
    simp (disch := omega) only [n_cl, n_lt, n_le, n_eq, n_lt0, n_0lt, n_le0, n_eq0, n_gneq, n_ngeq, n_ng0, n_nglt, n_glt, n_gle, n_ltg, n_leg, n_gg, n_ge0, n_add, n_mul, n_rem, n_shl1, n_and, n_or, n_bit, n_not, n_not', n_B1, n_B0, n_BB, obind, xite_T, xite_F, xite_not, xite_same, oI_s, oI_n, Bool.false_eq_true, reduceCtorEq, eq_self, Classical.not_not, bI_T, bI_Fa, bI_0, bI_n0, bI_x, xb_0, xb_1, xite_bI, xite_bI', not_true_eq_false, not_false_eq_true, Nat.zero_add, Nat.add_zero, Nat.mul_zero, Nat.mul_one, Nat.one_mul, reduceIte, Nat.reduceEqDiff, Nat.reduceAdd, Nat.reduceMul, Nat.reduceSub, Nat.reduceLT, Nat.reduceLeDiff, Nat.reducePow, ite_true, ite_false, if_true, if_false, and_true, true_and, false_and, and_false, or_false, false_or, true_or, or_true, ne_eq, ]
    by_cases h2 : inb b (xaP X)
    · rw [xite_t h2]
      simp (disch := omega) only [n_cl, n_lt, n_le, n_eq, n_lt0, n_0lt, n_le0, n_eq0, n_gneq, n_ngeq, n_ng0, n_nglt, n_glt, n_gle, n_ltg, n_leg, n_gg, n_ge0, n_add, n_mul, n_rem, n_shl1, n_and, n_or, n_bit, n_not, n_not', n_B1, n_B0, n_BB, obind, xite_T, xite_F, xite_not, xite_same, oI_s, oI_n, Bool.false_eq_true, reduceCtorEq, eq_self, Classical.not_not, bI_T, bI_Fa, bI_0, bI_n0, bI_x, xb_0, xb_1, xite_bI, xite_bI', not_true_eq_false, not_false_eq_true, Nat.zero_add, Nat.add_zero, Nat.mul_zero, Nat.mul_one, Nat.one_mul, reduceIte, Nat.reduceEqDiff, Nat.reduceAdd, Nat.reduceMul, Nat.reduceSub, Nat.reduceLT, Nat.reduceLeDiff, Nat.reducePow, ite_true, ite_false, if_true, if_false, and_true, true_and, false_and, and_false, or_false, false_or, true_or, or_true, ne_eq, h1, h2]
    · rw [xite_f h2, bI_f (fun h => h2 h.2.1)]
  · rw [xite_f h1, bI_f (fun h => h1 h.1)]
theorem C95_t (d : Nat) (σ : xS) {i c : Nat} {X : mX} (h : CL σ i X) (hc : c < xaC X) : run (d + 1) (xentry 95 [.inr (.inr (1, (some i))), .inl (nI c)] σ) = some ((0, 0, rP σ 5 i c), σ) := by
  have h6 := h.1.2.2.2.1
  rw [B95_0, h.2.2.2.1]
  simp (disch := omega) only [n_cl, n_lt, n_le, n_eq, n_lt0, n_0lt, n_le0, n_eq0, n_gneq, n_ngeq, n_ng0, n_nglt, n_glt, n_gle, n_ltg, n_leg, n_gg, n_ge0, n_add, n_mul, n_rem, n_shl1, n_and, n_or, n_bit, n_not, n_not', n_B1, n_B0, n_BB, obind, xite_T, xite_F, xite_not, xite_same, oI_s, oI_n, Bool.false_eq_true, reduceCtorEq, eq_self, Classical.not_not, bI_T, bI_Fa, bI_0, bI_n0, bI_x, xb_0, xb_1, xite_bI, xite_bI', not_true_eq_false, not_false_eq_true, Nat.zero_add, Nat.add_zero, Nat.mul_zero, Nat.mul_one, Nat.one_mul, reduceIte, Nat.reduceEqDiff, Nat.reduceAdd, Nat.reduceMul, Nat.reduceSub, Nat.reduceLT, Nat.reduceLeDiff, Nat.reducePow, ite_true, ite_false, if_true, if_false, and_true, true_and, false_and, and_false, or_false, false_or, true_or, or_true, ne_eq, xite_t, xite_f, ]
theorem C95_f (d : Nat) (σ : xS) {i : Nat} {v : Int32} {X : mX} (h : CL σ i X) (hc : ¬ inb v (xaC X)) : run (d + 1) (xentry 95 [.inr (.inr (1, (some i))), .inl v] σ) = some ((0, 0, none), σ) := by
  have h6 := h.1.2.2.2.1
  rw [B95_0, h.2.2.2.1, n_rng (by omega), xite_f hc]
theorem C99 (d : Nat) (σ : xS) {i r : Nat} {X : mX} (h : CL σ i X) (hr : r < xaR X) : run (d + 1) (xentry 99 [.inr (.inr (1, (some i))), .inl (nI r)] σ) = some ((nI (xaN X r), 0, none), σ) := by
  have h9 := h.1.2.2.1
  have hb := h.1.2.2.2.2.2.1 r hr
  obtain ⟨N, e, hN⟩ := h.2.2.2.2.2.1
  have hl := nrep_lt hN h9
  rw [B99_0, e]
  simp (disch := omega) only [n_cl, n_lt, n_le, n_eq, n_lt0, n_0lt, n_le0, n_eq0, n_gneq, n_ngeq, n_ng0, n_nglt, n_glt, n_gle, n_ltg, n_leg, n_gg, n_ge0, n_add, n_mul, n_rem, n_shl1, n_and, n_or, n_bit, n_not, n_not', n_B1, n_B0, n_BB, obind, xite_T, xite_F, xite_not, xite_same, oI_s, oI_n, Bool.false_eq_true, reduceCtorEq, eq_self, Classical.not_not, bI_T, bI_Fa, bI_0, bI_n0, bI_x, xb_0, xb_1, xite_bI, xite_bI', not_true_eq_false, not_false_eq_true, Nat.zero_add, Nat.add_zero, Nat.mul_zero, Nat.mul_one, Nat.one_mul, reduceIte, Nat.reduceEqDiff, Nat.reduceAdd, Nat.reduceMul, Nat.reduceSub, Nat.reduceLT, Nat.reduceLeDiff, Nat.reducePow, ite_true, ite_false, if_true, if_false, and_true, true_and, false_and, and_false, or_false, false_or, true_or, or_true, ne_eq, ]
  rw [n_l (by omega), l_shr (by omega) (by omega), lN_i, n_and, nrep_nicks hN hr hb.2.2.2.2.2]
theorem C100 (d : Nat) (σ : xS) {i r g : Nat} {X : mX} (h : CL σ i X) (hr : r < xaR X) (hg : g < 4) : run (d + 2) (xentry 100 [.inr (.inr (1, (some i))), .inl (nI r), .inl (nI g)] σ) = some ((bI (fre X g r = true), 0, none), σ) := by
  have h9 := h.1.2.2.1
  have hb := h.1.2.2.2.2.2.1 r hr
  obtain ⟨N, e, hN⟩ := h.2.2.2.2.2.1
  have hl := nrep_lt hN h9
  rw [B100_0, C168 _ _ (by omega) hg, obind]
  show xite (¬ lg_cmp (rL σ 1 i 3 &&& lN (2 ^ (4 * r + g))) (lN 0) = 0) _ _ = _
  rw [e, l_and, l_cmp0 (Nat.lt_of_le_of_lt Nat.and_le_left (by omega)), nrep_free hN hr hg, ← fre_t]
  simp (disch := omega) only [n_cl, n_lt, n_le, n_eq, n_lt0, n_0lt, n_le0, n_eq0, n_gneq, n_ngeq, n_ng0, n_nglt, n_glt, n_gle, n_ltg, n_leg, n_gg, n_ge0, n_add, n_mul, n_rem, n_shl1, n_and, n_or, n_bit, n_not, n_not', n_B1, n_B0, n_BB, obind, xite_T, xite_F, xite_not, xite_same, oI_s, oI_n, Bool.false_eq_true, reduceCtorEq, eq_self, Classical.not_not, bI_T, bI_Fa, bI_0, bI_n0, bI_x, xb_0, xb_1, xite_bI, xite_bI', not_true_eq_false, not_false_eq_true, Nat.zero_add, Nat.add_zero, Nat.mul_zero, Nat.mul_one, Nat.one_mul, reduceIte, Nat.reduceEqDiff, Nat.reduceAdd, Nat.reduceMul, Nat.reduceSub, Nat.reduceLT, Nat.reduceLeDiff, Nat.reducePow, ite_true, ite_false, if_true, if_false, and_true, true_and, false_and, and_false, or_false, false_or, true_or, or_true, ne_eq, ]
theorem C103 (d : Nat) (σ : xS) {i r p : Nat} {X : mX} (h : CL σ i X) (hr : r < xaR X) (hp : p < 6) : run (d + 2) (xentry 103 [.inr (.inr (1, (some i))), .inl (nI r), .inl (nI p)] σ) = some ((oI 1 (oth X r p), 0, none), σ) := by
  have h9 := h.1.2.2.1
  have hP := h.1.2.1
  have hb := h.1.2.2.2.2.2.1 r hr
  have e := h.2.2.2.2.1 r hr
  rw [B103_0, C94 _ _ _ h]
  simp (disch := omega) only [n_cl, n_lt, n_le, n_eq, n_lt0, n_0lt, n_le0, n_eq0, n_gneq, n_ngeq, n_ng0, n_nglt, n_glt, n_gle, n_ltg, n_leg, n_gg, n_ge0, n_add, n_mul, n_rem, n_shl1, n_and, n_or, n_bit, n_not, n_not', n_B1, n_B0, n_BB, obind, xite_T, xite_F, xite_not, xite_same, oI_s, oI_n, Bool.false_eq_true, reduceCtorEq, eq_self, Classical.not_not, bI_T, bI_Fa, bI_0, bI_n0, bI_x, xb_0, xb_1, xite_bI, xite_bI', not_true_eq_false, not_false_eq_true, Nat.zero_add, Nat.add_zero, Nat.mul_zero, Nat.mul_one, Nat.one_mul, reduceIte, Nat.reduceEqDiff, Nat.reduceAdd, Nat.reduceMul, Nat.reduceSub, Nat.reduceLT, Nat.reduceLeDiff, Nat.reducePow, ite_true, ite_false, if_true, if_false, and_true, true_and, false_and, and_false, or_false, false_or, true_or, or_true, ne_eq, xite_t, xite_f, e.1, e.2.1, inb_nI, hr]
  unfold oth
  by_cases h1 : xaF X r = p
  · rw [xite_t h1, if_pos h1]; rfl
  · rw [xite_f h1, if_neg h1]
    by_cases h2 : xaT X r = p
    · rw [xite_t h2, if_pos h2]; rfl
    · rw [xite_f h2, if_neg h2]; rfl
theorem cOk_w {σ σ' : xS} {q k f : Nat} (h : cOk σ q k f) (hC : rC σ' = rC σ) (hI : rI σ' 16 q = rI σ 16 q) : cOk σ' q k f := by
  unfold cOk
  rw [hC, hI]
  exact h
/-- regions that no land needs -/
theorem CL_F {S : Nat → Nat → Nat → Prop} {σ σ' : xS} {i : Nat} {X : mX} (h : CL σ i X) (hF : xF S σ σ') (hS : ∀ r k, r = 1 ∨ r = 2 ∨ r = 3 ∨ r = 4 ∨ r = 5 → ¬ S r i k) (hS2 : ∀ j k, ¬ S 16 j k) : CL σ' i X := by
  unfold CL
  rw [xF_I hF (fun k => hS 1 k (by omega)), xF_I hF (fun k => hS 2 k (by omega)), xF_I hF (fun k => hS 3 k (by omega)), xF_I hF (fun k => hS 4 k (by omega)), xF_L hF (fun k => hS 1 k (by omega)), xF_P hF (fun k => hS 5 k (by omega))]
  refine ⟨h.1, h.2.1, h.2.2.1, h.2.2.2.1, h.2.2.2.2.1, h.2.2.2.2.2.1, fun c hc => ?_⟩
  obtain ⟨q, e, hq⟩ := h.2.2.2.2.2.2 c hc
  exact ⟨q, e, cOk_w hq hF.2.2.2.1 (xF_I hF (fun k => hS2 q k))⟩
