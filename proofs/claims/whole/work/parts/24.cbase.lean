/-! THE CLASS'S SMALL METHODS -/
theorem l_63 : ∀ k : Nat, k < 64 → ((lN k &&& 63).toBitVec.smod 64).toNat = k := by decide +kernel
theorem l_tn {n : Nat} (h : n < 2 ^ 64) : (lN n).toBitVec.toNat = n := by
  show (BitVec.ofNat 64 n).toNat = n
  rw [BitVec.toNat_ofNat, Nat.mod_eq_of_lt h]
theorem l_shl {a k : Nat} (hk : k < 64) (h : a * 2 ^ k < 2 ^ 64) : lN a <<< (lN k &&& 63) = lN (a * 2 ^ k) := by
  apply Int64.toBitVec_inj.mp
  apply BitVec.eq_of_toNat_eq
  have ha : a < 2 ^ 64 := Nat.lt_of_le_of_lt (Nat.le_mul_of_pos_right a (Nat.two_pow_pos k)) h
  show ((lN a).toBitVec <<< ((lN k &&& 63).toBitVec.smod 64).toNat).toNat = _
  rw [l_63 k hk, BitVec.toNat_shiftLeft, Nat.shiftLeft_eq, l_tn ha, l_tn h, Nat.mod_eq_of_lt h]
theorem l_shr {a k : Nat} (hk : k < 64) (h : a < 2 ^ 63) : lN a >>> (lN k &&& 63) = lN (a / 2 ^ k) := by
  apply Int64.toInt_inj.mp
  have h2 : a / 2 ^ k ≤ a := Nat.div_le_self _ _
  show ((lN a).toBitVec.sshiftRight ((lN k &&& 63).toBitVec.smod 64).toNat).toInt = _
  rw [l_63 k hk, BitVec.toInt_sshiftRight]
  show (lN a).toInt >>> k = _
  rw [pk_lT h, pk_lT (by omega), Int.shiftRight_eq_div_pow]
  rfl
theorem l_bv {a : Nat} : (lN a).toBitVec = BitVec.ofNat 64 a := rfl
theorem l_and (a b : Nat) : lN a &&& lN b = lN (a &&& b) := by
  apply Int64.toBitVec_inj.mp
  rw [Int64.toBitVec_and, l_bv, l_bv, l_bv]
  exact BitVec.ofNat_and.symm
theorem l_or (a b : Nat) : lN a ||| lN b = lN (a ||| b) := by
  apply Int64.toBitVec_inj.mp
  rw [Int64.toBitVec_or, l_bv, l_bv, l_bv]
  exact BitVec.ofNat_or.symm
theorem l_xor (a b : Nat) : lN a ^^^ lN b = lN (a ^^^ b) := by
  apply Int64.toBitVec_inj.mp
  rw [Int64.toBitVec_xor, l_bv, l_bv, l_bv]
  exact BitVec.ofNat_xor.symm
theorem l_cmp0 {a : Nat} (h : a < 2 ^ 63) : (lg_cmp (lN a) (lN 0) = 0) = (a = 0) := by
  have e : (lg_cmp (lN a) (lN 0) = 0) = (lN a = lN 0) := by
    unfold lg_cmp
    apply propext
    by_cases h1 : lN a > lN 0
    · rw [if_pos h1]
      refine ⟨fun h => absurd h (by decide), fun h => ?_⟩
      rw [h] at h1
      exact absurd h1 (by decide)
    · rw [if_neg h1]
      by_cases h2 : lN a = lN 0
      · rw [if_pos h2]; exact ⟨fun _ => h2, fun _ => rfl⟩
      · rw [if_neg h2]; exact ⟨fun h => absurd h (by decide), fun h => absurd h h2⟩
  rw [e]
  exact propext (pk_lEQ h (by omega))
def clsOf (k : Nat) : Nat := [0, 5, 8, 3, 6, 1, 4, 9].getD k 0
/-- a carrier of kind k and figure f -/
def cOk (σ : xS) (q k f : Nat) : Prop := q < (rC σ).length ∧ (rC σ).getD q 0 = clsOf k ∧ rI σ 16 q 0 = nI k ∧ rI σ 16 q 1 = nI f
theorem k8 {P : Nat → Prop} (h0 : P 0) (h1 : P 1) (h2 : P 2) (h3 : P 3) (h4 : P 4) (h5 : P 5) (h6 : P 6) (h7 : P 7) {k : Nat} (h : k < 8) : P k := by
  have : k = 0 ∨ k = 1 ∨ k = 2 ∨ k = 3 ∨ k = 4 ∨ k = 5 ∨ k = 6 ∨ k = 7 := by omega
  rcases this with e | e | e | e | e | e | e | e <;> subst e <;> assumption
theorem C77 (d : Nat) (σ : xS) {a : Nat} (h : a < 64) : run (d + 1) (xentry 77 [.inl (nI a)] σ) = some ((nI (popf 6 a), 0, none), σ) := by
  rw [B77_0]
  refine congrArg (fun x => some ((x, (0 : Int64), (none : Option Nat)), σ)) ?_
  revert a
  suffices h : ∀ a, a < 64 → _ from fun {a} h' => h a h'
  decide +kernel
theorem C81 (d : Nat) (σ : xS) {q g : Nat} {v w : Int32} (hg : g < 31) : run (d + 1) (xentry 81 [.inr (.inr (16, (some q))), .inl (nI g), .inl v, .inl w] σ) = some ((nI (2 ^ g), 0, none), σ) := by
  rw [B81_0]
  simp (disch := omega) only [n_cl, n_lt, n_le, n_eq, n_lt0, n_0lt, n_le0, n_eq0, n_gneq, n_ngeq, n_ng0, n_nglt, n_glt, n_gle, n_ltg, n_leg, n_gg, n_ge0, n_add, n_mul, n_rem, n_shl1, n_and, n_or, n_bit, n_not, n_not', n_B1, n_B0, n_BB, obind, xite_T, xite_F, xite_not, xite_same, oI_s, oI_n, Bool.false_eq_true, reduceCtorEq, eq_self, Classical.not_not, bI_T, bI_Fa, bI_0, bI_n0, bI_x, xb_0, xb_1, xite_bI, xite_bI', not_true_eq_false, not_false_eq_true, Nat.zero_add, Nat.add_zero, Nat.mul_zero, Nat.mul_one, Nat.one_mul, reduceIte, Nat.reduceEqDiff, Nat.reduceAdd, Nat.reduceMul, Nat.reduceSub, Nat.reduceLT, Nat.reduceLeDiff, Nat.reducePow, ite_true, ite_false, if_true, if_false, and_true, true_and, false_and, and_false, or_false, false_or, true_or, or_true, ne_eq, xite_t, xite_f, ]
theorem C112 (d : Nat) (σ : xS) {q g been P f : Nat} (hf : rI σ 16 q 1 = nI f) (hf9 : f ≤ 9) (hg : g < 4) (hb : been < 64) (hP : 0 < P) (hP6 : P ≤ 6) : run (d + 1) (xentry 112 [.inr (.inr (16, (some q))), .inl (nI g), .inl (nI been), .inl (nI P)] σ) = some ((nI (2 ^ (if been.testBit (f % P) = true then (g + 1) % 4 else g)), 0, none), σ) := by
  have hm : f % P < 6 := Nat.lt_of_lt_of_le (Nat.mod_lt _ hP) hP6
  have e : ∀ s, s ≤ 1 → run (d + 1) (112, 22, [none, some (.inl (nI (g))), none, none, none], [.inl (nI s)], σ) = some ((nI (2 ^ (if s = 1 then (g + 1) % 4 else g)), 0, none), σ) := by
    intro s hs
    rw [B112_22]
    by_cases h : s = 1
    · subst h
      simp (disch := omega) only [n_cl, n_lt, n_le, n_eq, n_lt0, n_0lt, n_le0, n_eq0, n_gneq, n_ngeq, n_ng0, n_nglt, n_glt, n_gle, n_ltg, n_leg, n_gg, n_ge0, n_add, n_mul, n_rem, n_shl1, n_and, n_or, n_bit, n_not, n_not', n_B1, n_B0, n_BB, obind, xite_T, xite_F, xite_not, xite_same, oI_s, oI_n, Bool.false_eq_true, reduceCtorEq, eq_self, Classical.not_not, bI_T, bI_Fa, bI_0, bI_n0, bI_x, xb_0, xb_1, xite_bI, xite_bI', not_true_eq_false, not_false_eq_true, Nat.zero_add, Nat.add_zero, Nat.mul_zero, Nat.mul_one, Nat.one_mul, reduceIte, Nat.reduceEqDiff, Nat.reduceAdd, Nat.reduceMul, Nat.reduceSub, Nat.reduceLT, Nat.reduceLeDiff, Nat.reducePow, ite_true, ite_false, if_true, if_false, and_true, true_and, false_and, and_false, or_false, false_or, true_or, or_true, ne_eq, xite_t, xite_f, ]
    · have h0 : s = 0 := by omega
      subst h0
      simp (disch := omega) only [n_cl, n_lt, n_le, n_eq, n_lt0, n_0lt, n_le0, n_eq0, n_gneq, n_ngeq, n_ng0, n_nglt, n_glt, n_gle, n_ltg, n_leg, n_gg, n_ge0, n_add, n_mul, n_rem, n_shl1, n_and, n_or, n_bit, n_not, n_not', n_B1, n_B0, n_BB, obind, xite_T, xite_F, xite_not, xite_same, oI_s, oI_n, Bool.false_eq_true, reduceCtorEq, eq_self, Classical.not_not, bI_T, bI_Fa, bI_0, bI_n0, bI_x, xb_0, xb_1, xite_bI, xite_bI', not_true_eq_false, not_false_eq_true, Nat.zero_add, Nat.add_zero, Nat.mul_zero, Nat.mul_one, Nat.one_mul, reduceIte, Nat.reduceEqDiff, Nat.reduceAdd, Nat.reduceMul, Nat.reduceSub, Nat.reduceLT, Nat.reduceLeDiff, Nat.reducePow, ite_true, ite_false, if_true, if_false, and_true, true_and, false_and, and_false, or_false, false_or, true_or, or_true, ne_eq, xite_t, xite_f, ]
  rw [B112_0]
  by_cases h : been.testBit (f % P) = true
  · simp (disch := omega) only [n_cl, n_lt, n_le, n_eq, n_lt0, n_0lt, n_le0, n_eq0, n_gneq, n_ngeq, n_ng0, n_nglt, n_glt, n_gle, n_ltg, n_leg, n_gg, n_ge0, n_add, n_mul, n_rem, n_shl1, n_and, n_or, n_bit, n_not, n_not', n_B1, n_B0, n_BB, obind, xite_T, xite_F, xite_not, xite_same, oI_s, oI_n, Bool.false_eq_true, reduceCtorEq, eq_self, Classical.not_not, bI_T, bI_Fa, bI_0, bI_n0, bI_x, xb_0, xb_1, xite_bI, xite_bI', not_true_eq_false, not_false_eq_true, Nat.zero_add, Nat.add_zero, Nat.mul_zero, Nat.mul_one, Nat.one_mul, reduceIte, Nat.reduceEqDiff, Nat.reduceAdd, Nat.reduceMul, Nat.reduceSub, Nat.reduceLT, Nat.reduceLeDiff, Nat.reducePow, ite_true, ite_false, if_true, if_false, and_true, true_and, false_and, and_false, or_false, false_or, true_or, or_true, ne_eq, xite_t, xite_f, hf, h, e]
  · have h' : been.testBit (f % P) = false := by cases h2 : been.testBit (f % P) with | true => exact absurd h2 h | false => rfl
    simp (disch := omega) only [n_cl, n_lt, n_le, n_eq, n_lt0, n_0lt, n_le0, n_eq0, n_gneq, n_ngeq, n_ng0, n_nglt, n_glt, n_gle, n_ltg, n_leg, n_gg, n_ge0, n_add, n_mul, n_rem, n_shl1, n_and, n_or, n_bit, n_not, n_not', n_B1, n_B0, n_BB, obind, xite_T, xite_F, xite_not, xite_same, oI_s, oI_n, Bool.false_eq_true, reduceCtorEq, eq_self, Classical.not_not, bI_T, bI_Fa, bI_0, bI_n0, bI_x, xb_0, xb_1, xite_bI, xite_bI', not_true_eq_false, not_false_eq_true, Nat.zero_add, Nat.add_zero, Nat.mul_zero, Nat.mul_one, Nat.one_mul, reduceIte, Nat.reduceEqDiff, Nat.reduceAdd, Nat.reduceMul, Nat.reduceSub, Nat.reduceLT, Nat.reduceLeDiff, Nat.reducePow, ite_true, ite_false, if_true, if_false, and_true, true_and, false_and, and_false, or_false, false_or, true_or, or_true, ne_eq, xite_t, xite_f, hf, h', e]
theorem rot4 : ∀ y, y < 4 → 2 ^ y ||| ((2 ^ y * 2 ^ 1 ||| 2 ^ y / 2 ^ 3) &&& 15) = 2 ^ y ||| 2 ^ ((y + 1) % 4) := by decide
theorem C_loads (d : Nat) (σ : xS) {q k f g been P : Nat} (h : cOk σ q k f) (hk : k < 8) (hf : f ≤ 9) (hg : g < 4) (hb : been < 64) (hP : 0 < P) (hP6 : P ≤ 6) : run (d + 2) (xentry (xvt 0 ((rC σ).getD q 0)) [.inr (.inr (16, (some q))), .inl (nI g), .inl (nI been), .inl (nI P)] σ) = some ((nI (ldm P k f g been), 0, none), σ) := by
  have hfv := h.2.2.2
  rw [h.2.1]
  revert hk
  clear h
  have plain : ∀ k, ¬ k = 3 → ¬ k = 6 → ldm P k f g been = 2 ^ g := by
    intro k h3 h6
    unfold ldm ldg
    rw [if_neg h6, if_neg (fun h => h.1.elim h3 h6), Nat.or_zero]
  have e81 : ∀ k, ¬ k = 3 → ¬ k = 6 → run (d + 2) (xentry 81 [.inr (.inr (16, (some q))), .inl (nI g), .inl (nI been), .inl (nI P)] σ) = some ((nI (ldm P k f g been), 0, none), σ) := by
    intro k h3 h6
    rw [plain k h3 h6, C81 _ _ (by omega)]
  refine k8 (P := fun k => run (d + 2) (xentry (xvt 0 (clsOf k)) [.inr (.inr (16, (some q))), .inl (nI g), .inl (nI been), .inl (nI P)] σ) = some ((nI (ldm P k f g been), 0, none), σ)) ?_ ?_ ?_ ?_ ?_ ?_ ?_ ?_
  · exact e81 0 (by omega) (by omega)
  · exact e81 1 (by omega) (by omega)
  · exact e81 2 (by omega) (by omega)
  · show run (d + 2) (xentry 112 _ σ) = _
    rw [C112 _ _ hfv hf hg hb hP hP6]
    unfold ldm ldg
    simp (disch := omega) only [n_cl, n_lt, n_le, n_eq, n_lt0, n_0lt, n_le0, n_eq0, n_gneq, n_ngeq, n_ng0, n_nglt, n_glt, n_gle, n_ltg, n_leg, n_gg, n_ge0, n_add, n_mul, n_rem, n_shl1, n_and, n_or, n_bit, n_not, n_not', n_B1, n_B0, n_BB, obind, xite_T, xite_F, xite_not, xite_same, oI_s, oI_n, Bool.false_eq_true, reduceCtorEq, eq_self, Classical.not_not, bI_T, bI_Fa, bI_0, bI_n0, bI_x, xb_0, xb_1, xite_bI, xite_bI', not_true_eq_false, not_false_eq_true, Nat.zero_add, Nat.add_zero, Nat.mul_zero, Nat.mul_one, Nat.one_mul, reduceIte, Nat.reduceEqDiff, Nat.reduceAdd, Nat.reduceMul, Nat.reduceSub, Nat.reduceLT, Nat.reduceLeDiff, Nat.reducePow, ite_true, ite_false, if_true, if_false, and_true, true_and, false_and, and_false, or_false, false_or, true_or, or_true, ne_eq, xite_t, xite_f, Nat.or_zero]
  · exact e81 4 (by omega) (by omega)
  · exact e81 5 (by omega) (by omega)
  · show run (d + 2) (xentry 115 _ σ) = _
    rw [B115_0, C112 _ _ hfv hf hg hb hP hP6]
    unfold ldm ldg
    simp (disch := omega) only [n_cl, n_lt, n_le, n_eq, n_lt0, n_0lt, n_le0, n_eq0, n_gneq, n_ngeq, n_ng0, n_nglt, n_glt, n_gle, n_ltg, n_leg, n_gg, n_ge0, n_add, n_mul, n_rem, n_shl1, n_and, n_or, n_bit, n_not, n_not', n_B1, n_B0, n_BB, obind, xite_T, xite_F, xite_not, xite_same, oI_s, oI_n, Bool.false_eq_true, reduceCtorEq, eq_self, Classical.not_not, bI_T, bI_Fa, bI_0, bI_n0, bI_x, xb_0, xb_1, xite_bI, xite_bI', not_true_eq_false, not_false_eq_true, Nat.zero_add, Nat.add_zero, Nat.mul_zero, Nat.mul_one, Nat.one_mul, reduceIte, Nat.reduceEqDiff, Nat.reduceAdd, Nat.reduceMul, Nat.reduceSub, Nat.reduceLT, Nat.reduceLeDiff, Nat.reducePow, ite_true, ite_false, if_true, if_false, and_true, true_and, false_and, and_false, or_false, false_or, true_or, or_true, ne_eq, ]
    have hy : (if been.testBit (f % P) = true then (g + 1) % 4 else g) < 4 := by split <;> omega
    revert hy
    generalize (if been.testBit (f % P) = true then (g + 1) % 4 else g) = y
    intro hy
    have h16 : 2 ^ y ≤ 2 ^ 3 := Nat.pow_le_pow_right (by omega) (by omega)
    rw [n_shl (by omega) (by omega), n_shr (by omega) (by omega), n_or, n_and, n_or, rot4 y hy]
  · exact e81 7 (by omega) (by omega)
theorem C82 (d : Nat) (σ : xS) {q r n l : Nat} (hn : n < 16) : run (d + 1) (xentry 82 [.inr (.inr (16, (some q))), .inl (nI r), .inl (nI n), .inl (nI l)] σ) = some ((bI (n &&& l = 0), 0, none), σ) := by
  have : n &&& l < 16 := Nat.lt_of_le_of_lt Nat.and_le_left hn
  rw [B82_0]
  simp (disch := omega) only [n_cl, n_lt, n_le, n_eq, n_lt0, n_0lt, n_le0, n_eq0, n_gneq, n_ngeq, n_ng0, n_nglt, n_glt, n_gle, n_ltg, n_leg, n_gg, n_ge0, n_add, n_mul, n_rem, n_shl1, n_and, n_or, n_bit, n_not, n_not', n_B1, n_B0, n_BB, obind, xite_T, xite_F, xite_not, xite_same, oI_s, oI_n, Bool.false_eq_true, reduceCtorEq, eq_self, Classical.not_not, bI_T, bI_Fa, bI_0, bI_n0, bI_x, xb_0, xb_1, xite_bI, xite_bI', not_true_eq_false, not_false_eq_true, Nat.zero_add, Nat.add_zero, Nat.mul_zero, Nat.mul_one, Nat.one_mul, reduceIte, Nat.reduceEqDiff, Nat.reduceAdd, Nat.reduceMul, Nat.reduceSub, Nat.reduceLT, Nat.reduceLeDiff, Nat.reducePow, ite_true, ite_false, if_true, if_false, and_true, true_and, false_and, and_false, or_false, false_or, true_or, or_true, ne_eq, ]
theorem C_may (d : Nat) (σ : xS) {q k f r n l : Nat} (h : cOk σ q k f) (hk : k < 8) (hf : f ≤ 9) (hr : r < 9) (hn : n < 16) : run (d + 2) (xentry (xvt 1 ((rC σ).getD q 0)) [.inr (.inr (16, (some q))), .inl (nI r), .inl (nI n), .inl (nI l)] σ) = some ((bI (n &&& l = 0 ∨ (k = 5 ∧ r = f)), 0, none), σ) := by
  have hfv := h.2.2.2
  rw [h.2.1]
  revert hk
  clear h
  have e82 : ∀ k, ¬ k = 5 → run (d + 2) (xentry 82 [.inr (.inr (16, (some q))), .inl (nI r), .inl (nI n), .inl (nI l)] σ) = some ((bI (n &&& l = 0 ∨ (k = 5 ∧ r = f)), 0, none), σ) := by
    intro k h5
    rw [C82 _ _ hn]
    simp (disch := omega) only [n_cl, n_lt, n_le, n_eq, n_lt0, n_0lt, n_le0, n_eq0, n_gneq, n_ngeq, n_ng0, n_nglt, n_glt, n_gle, n_ltg, n_leg, n_gg, n_ge0, n_add, n_mul, n_rem, n_shl1, n_and, n_or, n_bit, n_not, n_not', n_B1, n_B0, n_BB, obind, xite_T, xite_F, xite_not, xite_same, oI_s, oI_n, Bool.false_eq_true, reduceCtorEq, eq_self, Classical.not_not, bI_T, bI_Fa, bI_0, bI_n0, bI_x, xb_0, xb_1, xite_bI, xite_bI', not_true_eq_false, not_false_eq_true, Nat.zero_add, Nat.add_zero, Nat.mul_zero, Nat.mul_one, Nat.one_mul, reduceIte, Nat.reduceEqDiff, Nat.reduceAdd, Nat.reduceMul, Nat.reduceSub, Nat.reduceLT, Nat.reduceLeDiff, Nat.reducePow, ite_true, ite_false, if_true, if_false, and_true, true_and, false_and, and_false, or_false, false_or, true_or, or_true, ne_eq, h5]
  refine k8 (P := fun k => run (d + 2) (xentry (xvt 1 (clsOf k)) [.inr (.inr (16, (some q))), .inl (nI r), .inl (nI n), .inl (nI l)] σ) = some ((bI (n &&& l = 0 ∨ (k = 5 ∧ r = f)), 0, none), σ)) ?_ ?_ ?_ ?_ ?_ ?_ ?_ ?_
  · exact e82 0 (by omega)
  · exact e82 1 (by omega)
  · exact e82 2 (by omega)
  · exact e82 3 (by omega)
  · exact e82 4 (by omega)
  · show run (d + 2) (xentry 88 _ σ) = _
    rw [B88_0]
    simp (disch := omega) only [n_cl, n_lt, n_le, n_eq, n_lt0, n_0lt, n_le0, n_eq0, n_gneq, n_ngeq, n_ng0, n_nglt, n_glt, n_gle, n_ltg, n_leg, n_gg, n_ge0, n_add, n_mul, n_rem, n_shl1, n_and, n_or, n_bit, n_not, n_not', n_B1, n_B0, n_BB, obind, xite_T, xite_F, xite_not, xite_same, oI_s, oI_n, Bool.false_eq_true, reduceCtorEq, eq_self, Classical.not_not, bI_T, bI_Fa, bI_0, bI_n0, bI_x, xb_0, xb_1, xite_bI, xite_bI', not_true_eq_false, not_false_eq_true, Nat.zero_add, Nat.add_zero, Nat.mul_zero, Nat.mul_one, Nat.one_mul, reduceIte, Nat.reduceEqDiff, Nat.reduceAdd, Nat.reduceMul, Nat.reduceSub, Nat.reduceLT, Nat.reduceLeDiff, Nat.reducePow, ite_true, ite_false, if_true, if_false, and_true, true_and, false_and, and_false, or_false, false_or, true_or, or_true, ne_eq, C82, hfv]
    by_cases h : r = f
    · rw [xite_t h, bI_t (Or.inr h)]
    · rw [xite_f h]
      simp (disch := omega) only [n_cl, n_lt, n_le, n_eq, n_lt0, n_0lt, n_le0, n_eq0, n_gneq, n_ngeq, n_ng0, n_nglt, n_glt, n_gle, n_ltg, n_leg, n_gg, n_ge0, n_add, n_mul, n_rem, n_shl1, n_and, n_or, n_bit, n_not, n_not', n_B1, n_B0, n_BB, obind, xite_T, xite_F, xite_not, xite_same, oI_s, oI_n, Bool.false_eq_true, reduceCtorEq, eq_self, Classical.not_not, bI_T, bI_Fa, bI_0, bI_n0, bI_x, xb_0, xb_1, xite_bI, xite_bI', not_true_eq_false, not_false_eq_true, Nat.zero_add, Nat.add_zero, Nat.mul_zero, Nat.mul_one, Nat.one_mul, reduceIte, Nat.reduceEqDiff, Nat.reduceAdd, Nat.reduceMul, Nat.reduceSub, Nat.reduceLT, Nat.reduceLeDiff, Nat.reducePow, ite_true, ite_false, if_true, if_false, and_true, true_and, false_and, and_false, or_false, false_or, true_or, or_true, ne_eq, h]
  · exact e82 6 (by omega)
  · exact e82 7 (by omega)
theorem C_leaves (d : Nat) (σ : xS) {q k f r l : Nat} (h : cOk σ q k f) (hk : k < 8) (hf : f ≤ 9) (hr : r < 9) : run (d + 1) (xentry (xvt 2 ((rC σ).getD q 0)) [.inr (.inr (16, (some q))), .inl (nI r), .inl (nI l)] σ) = some ((nI (lvm k f r l), 0, none), σ) := by
  have hfv := h.2.2.2
  rw [h.2.1]
  revert hk
  clear h
  have e83 : ∀ k, ¬ k = 5 → run (d + 1) (xentry 83 [.inr (.inr (16, (some q))), .inl (nI r), .inl (nI l)] σ) = some ((nI (lvm k f r l), 0, none), σ) := by
    intro k h5
    rw [B83_0]
    unfold lvm
    simp (disch := omega) only [n_cl, n_lt, n_le, n_eq, n_lt0, n_0lt, n_le0, n_eq0, n_gneq, n_ngeq, n_ng0, n_nglt, n_glt, n_gle, n_ltg, n_leg, n_gg, n_ge0, n_add, n_mul, n_rem, n_shl1, n_and, n_or, n_bit, n_not, n_not', n_B1, n_B0, n_BB, obind, xite_T, xite_F, xite_not, xite_same, oI_s, oI_n, Bool.false_eq_true, reduceCtorEq, eq_self, Classical.not_not, bI_T, bI_Fa, bI_0, bI_n0, bI_x, xb_0, xb_1, xite_bI, xite_bI', not_true_eq_false, not_false_eq_true, Nat.zero_add, Nat.add_zero, Nat.mul_zero, Nat.mul_one, Nat.one_mul, reduceIte, Nat.reduceEqDiff, Nat.reduceAdd, Nat.reduceMul, Nat.reduceSub, Nat.reduceLT, Nat.reduceLeDiff, Nat.reducePow, ite_true, ite_false, if_true, if_false, and_true, true_and, false_and, and_false, or_false, false_or, true_or, or_true, ne_eq, h5]
  refine k8 (P := fun k => run (d + 1) (xentry (xvt 2 (clsOf k)) [.inr (.inr (16, (some q))), .inl (nI r), .inl (nI l)] σ) = some ((nI (lvm k f r l), 0, none), σ)) ?_ ?_ ?_ ?_ ?_ ?_ ?_ ?_
  · exact e83 0 (by omega)
  · exact e83 1 (by omega)
  · exact e83 2 (by omega)
  · exact e83 3 (by omega)
  · exact e83 4 (by omega)
  · show run (d + 1) (xentry 89 _ σ) = _
    rw [B89_0]
    unfold lvm
    simp (disch := omega) only [n_cl, n_lt, n_le, n_eq, n_lt0, n_0lt, n_le0, n_eq0, n_gneq, n_ngeq, n_ng0, n_nglt, n_glt, n_gle, n_ltg, n_leg, n_gg, n_ge0, n_add, n_mul, n_rem, n_shl1, n_and, n_or, n_bit, n_not, n_not', n_B1, n_B0, n_BB, obind, xite_T, xite_F, xite_not, xite_same, oI_s, oI_n, Bool.false_eq_true, reduceCtorEq, eq_self, Classical.not_not, bI_T, bI_Fa, bI_0, bI_n0, bI_x, xb_0, xb_1, xite_bI, xite_bI', not_true_eq_false, not_false_eq_true, Nat.zero_add, Nat.add_zero, Nat.mul_zero, Nat.mul_one, Nat.one_mul, reduceIte, Nat.reduceEqDiff, Nat.reduceAdd, Nat.reduceMul, Nat.reduceSub, Nat.reduceLT, Nat.reduceLeDiff, Nat.reducePow, ite_true, ite_false, if_true, if_false, and_true, true_and, false_and, and_false, or_false, false_or, true_or, or_true, ne_eq, hfv]
    by_cases h : r = f
    · rw [xite_t h, if_pos h]
    · rw [xite_f h, if_neg h]
  · exact e83 6 (by omega)
  · exact e83 7 (by omega)
theorem C_wt (d : Nat) (σ : xS) {q k f r m n : Nat} (h : cOk σ q k f) (hk : k < 8) (hf : f ≤ 9) (hr : r < 9) (hm : m ≤ 9) (hn : n < 16) : run (d + 2) (xentry (xvt 3 ((rC σ).getD q 0)) [.inr (.inr (16, (some q))), .inl (nI r), .inl (nI m), .inl (nI n)] σ) = some ((nI (wtm k f r m n), 0, none), σ) := by
  have hfv := h.2.2.2
  rw [h.2.1]
  revert hk
  clear h
  have hp : ∀ a, a < 16 → popf 6 a ≤ 4 := by decide
  have hp := hp _ hn
  unfold wtm
  refine k8 (P := fun k => run (d + 2) (xentry (xvt 3 (clsOf k)) [.inr (.inr (16, (some q))), .inl (nI r), .inl (nI m), .inl (nI n)] σ) = some ((nI (if k = 1 ∨ k = 7 then 10 * m else if k = 2 then 10 * m + 4 - popf 6 n else if k = 4 then (if r = f then 100 else 10) else if k = 6 then 10 + m else 10), 0, none), σ)) ?_ ?_ ?_ ?_ ?_ ?_ ?_ ?_
  · show run (d + 2) (xentry 84 _ σ) = _
    rw [B84_0]; simp (disch := omega) only [n_cl, n_lt, n_le, n_eq, n_lt0, n_0lt, n_le0, n_eq0, n_gneq, n_ngeq, n_ng0, n_nglt, n_glt, n_gle, n_ltg, n_leg, n_gg, n_ge0, n_add, n_mul, n_rem, n_shl1, n_and, n_or, n_bit, n_not, n_not', n_B1, n_B0, n_BB, obind, xite_T, xite_F, xite_not, xite_same, oI_s, oI_n, Bool.false_eq_true, reduceCtorEq, eq_self, Classical.not_not, bI_T, bI_Fa, bI_0, bI_n0, bI_x, xb_0, xb_1, xite_bI, xite_bI', not_true_eq_false, not_false_eq_true, Nat.zero_add, Nat.add_zero, Nat.mul_zero, Nat.mul_one, Nat.one_mul, reduceIte, Nat.reduceEqDiff, Nat.reduceAdd, Nat.reduceMul, Nat.reduceSub, Nat.reduceLT, Nat.reduceLeDiff, Nat.reducePow, ite_true, ite_false, if_true, if_false, and_true, true_and, false_and, and_false, or_false, false_or, true_or, or_true, ne_eq, ]
  · show run (d + 2) (xentry 119 _ σ) = _
    rw [B119_0]; simp (disch := omega) only [n_cl, n_lt, n_le, n_eq, n_lt0, n_0lt, n_le0, n_eq0, n_gneq, n_ngeq, n_ng0, n_nglt, n_glt, n_gle, n_ltg, n_leg, n_gg, n_ge0, n_add, n_mul, n_rem, n_shl1, n_and, n_or, n_bit, n_not, n_not', n_B1, n_B0, n_BB, obind, xite_T, xite_F, xite_not, xite_same, oI_s, oI_n, Bool.false_eq_true, reduceCtorEq, eq_self, Classical.not_not, bI_T, bI_Fa, bI_0, bI_n0, bI_x, xb_0, xb_1, xite_bI, xite_bI', not_true_eq_false, not_false_eq_true, Nat.zero_add, Nat.add_zero, Nat.mul_zero, Nat.mul_one, Nat.one_mul, reduceIte, Nat.reduceEqDiff, Nat.reduceAdd, Nat.reduceMul, Nat.reduceSub, Nat.reduceLT, Nat.reduceLeDiff, Nat.reducePow, ite_true, ite_false, if_true, if_false, and_true, true_and, false_and, and_false, or_false, false_or, true_or, or_true, ne_eq, ]
  · show run (d + 2) (xentry 129 _ σ) = _
    rw [B129_0, B119_0]; simp (disch := omega) only [n_cl, n_lt, n_le, n_eq, n_lt0, n_0lt, n_le0, n_eq0, n_gneq, n_ngeq, n_ng0, n_nglt, n_glt, n_gle, n_ltg, n_leg, n_gg, n_ge0, n_add, n_mul, n_rem, n_shl1, n_and, n_or, n_bit, n_not, n_not', n_B1, n_B0, n_BB, obind, xite_T, xite_F, xite_not, xite_same, oI_s, oI_n, Bool.false_eq_true, reduceCtorEq, eq_self, Classical.not_not, bI_T, bI_Fa, bI_0, bI_n0, bI_x, xb_0, xb_1, xite_bI, xite_bI', not_true_eq_false, not_false_eq_true, Nat.zero_add, Nat.add_zero, Nat.mul_zero, Nat.mul_one, Nat.one_mul, reduceIte, Nat.reduceEqDiff, Nat.reduceAdd, Nat.reduceMul, Nat.reduceSub, Nat.reduceLT, Nat.reduceLeDiff, Nat.reducePow, ite_true, ite_false, if_true, if_false, and_true, true_and, false_and, and_false, or_false, false_or, true_or, or_true, ne_eq, C77]
    rw [n_sub (by omega)]
  · show run (d + 2) (xentry 84 _ σ) = _
    rw [B84_0]; simp (disch := omega) only [n_cl, n_lt, n_le, n_eq, n_lt0, n_0lt, n_le0, n_eq0, n_gneq, n_ngeq, n_ng0, n_nglt, n_glt, n_gle, n_ltg, n_leg, n_gg, n_ge0, n_add, n_mul, n_rem, n_shl1, n_and, n_or, n_bit, n_not, n_not', n_B1, n_B0, n_BB, obind, xite_T, xite_F, xite_not, xite_same, oI_s, oI_n, Bool.false_eq_true, reduceCtorEq, eq_self, Classical.not_not, bI_T, bI_Fa, bI_0, bI_n0, bI_x, xb_0, xb_1, xite_bI, xite_bI', not_true_eq_false, not_false_eq_true, Nat.zero_add, Nat.add_zero, Nat.mul_zero, Nat.mul_one, Nat.one_mul, reduceIte, Nat.reduceEqDiff, Nat.reduceAdd, Nat.reduceMul, Nat.reduceSub, Nat.reduceLT, Nat.reduceLeDiff, Nat.reducePow, ite_true, ite_false, if_true, if_false, and_true, true_and, false_and, and_false, or_false, false_or, true_or, or_true, ne_eq, ]
  · show run (d + 2) (xentry 122 _ σ) = _
    rw [B122_0, B84_0]; simp (disch := omega) only [n_cl, n_lt, n_le, n_eq, n_lt0, n_0lt, n_le0, n_eq0, n_gneq, n_ngeq, n_ng0, n_nglt, n_glt, n_gle, n_ltg, n_leg, n_gg, n_ge0, n_add, n_mul, n_rem, n_shl1, n_and, n_or, n_bit, n_not, n_not', n_B1, n_B0, n_BB, obind, xite_T, xite_F, xite_not, xite_same, oI_s, oI_n, Bool.false_eq_true, reduceCtorEq, eq_self, Classical.not_not, bI_T, bI_Fa, bI_0, bI_n0, bI_x, xb_0, xb_1, xite_bI, xite_bI', not_true_eq_false, not_false_eq_true, Nat.zero_add, Nat.add_zero, Nat.mul_zero, Nat.mul_one, Nat.one_mul, reduceIte, Nat.reduceEqDiff, Nat.reduceAdd, Nat.reduceMul, Nat.reduceSub, Nat.reduceLT, Nat.reduceLeDiff, Nat.reducePow, ite_true, ite_false, if_true, if_false, and_true, true_and, false_and, and_false, or_false, false_or, true_or, or_true, ne_eq, hfv]
    by_cases h : r = f
    · rw [xite_t h, if_pos h]
    · rw [xite_f h, if_neg h]
  · show run (d + 2) (xentry 84 _ σ) = _
    rw [B84_0]; simp (disch := omega) only [n_cl, n_lt, n_le, n_eq, n_lt0, n_0lt, n_le0, n_eq0, n_gneq, n_ngeq, n_ng0, n_nglt, n_glt, n_gle, n_ltg, n_leg, n_gg, n_ge0, n_add, n_mul, n_rem, n_shl1, n_and, n_or, n_bit, n_not, n_not', n_B1, n_B0, n_BB, obind, xite_T, xite_F, xite_not, xite_same, oI_s, oI_n, Bool.false_eq_true, reduceCtorEq, eq_self, Classical.not_not, bI_T, bI_Fa, bI_0, bI_n0, bI_x, xb_0, xb_1, xite_bI, xite_bI', not_true_eq_false, not_false_eq_true, Nat.zero_add, Nat.add_zero, Nat.mul_zero, Nat.mul_one, Nat.one_mul, reduceIte, Nat.reduceEqDiff, Nat.reduceAdd, Nat.reduceMul, Nat.reduceSub, Nat.reduceLT, Nat.reduceLeDiff, Nat.reducePow, ite_true, ite_false, if_true, if_false, and_true, true_and, false_and, and_false, or_false, false_or, true_or, or_true, ne_eq, ]
  · show run (d + 2) (xentry 116 _ σ) = _
    rw [B116_0, B84_0]; simp (disch := omega) only [n_cl, n_lt, n_le, n_eq, n_lt0, n_0lt, n_le0, n_eq0, n_gneq, n_ngeq, n_ng0, n_nglt, n_glt, n_gle, n_ltg, n_leg, n_gg, n_ge0, n_add, n_mul, n_rem, n_shl1, n_and, n_or, n_bit, n_not, n_not', n_B1, n_B0, n_BB, obind, xite_T, xite_F, xite_not, xite_same, oI_s, oI_n, Bool.false_eq_true, reduceCtorEq, eq_self, Classical.not_not, bI_T, bI_Fa, bI_0, bI_n0, bI_x, xb_0, xb_1, xite_bI, xite_bI', not_true_eq_false, not_false_eq_true, Nat.zero_add, Nat.add_zero, Nat.mul_zero, Nat.mul_one, Nat.one_mul, reduceIte, Nat.reduceEqDiff, Nat.reduceAdd, Nat.reduceMul, Nat.reduceSub, Nat.reduceLT, Nat.reduceLeDiff, Nat.reducePow, ite_true, ite_false, if_true, if_false, and_true, true_and, false_and, and_false, or_false, false_or, true_or, or_true, ne_eq, ]
  · show run (d + 2) (xentry 119 _ σ) = _
    rw [B119_0]; simp (disch := omega) only [n_cl, n_lt, n_le, n_eq, n_lt0, n_0lt, n_le0, n_eq0, n_gneq, n_ngeq, n_ng0, n_nglt, n_glt, n_gle, n_ltg, n_leg, n_gg, n_ge0, n_add, n_mul, n_rem, n_shl1, n_and, n_or, n_bit, n_not, n_not', n_B1, n_B0, n_BB, obind, xite_T, xite_F, xite_not, xite_same, oI_s, oI_n, Bool.false_eq_true, reduceCtorEq, eq_self, Classical.not_not, bI_T, bI_Fa, bI_0, bI_n0, bI_x, xb_0, xb_1, xite_bI, xite_bI', not_true_eq_false, not_false_eq_true, Nat.zero_add, Nat.add_zero, Nat.mul_zero, Nat.mul_one, Nat.one_mul, reduceIte, Nat.reduceEqDiff, Nat.reduceAdd, Nat.reduceMul, Nat.reduceSub, Nat.reduceLT, Nat.reduceLeDiff, Nat.reducePow, ite_true, ite_false, if_true, if_false, and_true, true_and, false_and, and_false, or_false, false_or, true_or, or_true, ne_eq, ]
theorem C_most (d : Nat) (σ : xS) {q k f : Nat} (h : cOk σ q k f) (hk : k < 8) : run (d + 1) (xentry (xvt 4 ((rC σ).getD q 0)) [.inr (.inr (16, (some q)))] σ) = some ((nI (if k = 7 then f else 5), 0, none), σ) := by
  have hfv := h.2.2.2
  rw [h.2.1]
  revert hk
  clear h
  refine k8 (P := fun k => run (d + 1) (xentry (xvt 4 (clsOf k)) [.inr (.inr (16, (some q)))] σ) = some ((nI (if k = 7 then f else 5), 0, none), σ)) ?_ ?_ ?_ ?_ ?_ ?_ ?_ ?_
  · exact B85_0 _ _ _
  · exact B85_0 _ _ _
  · exact B85_0 _ _ _
  · exact B85_0 _ _ _
  · exact B85_0 _ _ _
  · exact B85_0 _ _ _
  · exact B85_0 _ _ _
  · show run (d + 1) (xentry 132 _ σ) = _
    rw [B132_0, hfv]; rfl
def payI (k f : Nat) : Int32 := if k = 1 then nI 4 else if k = 2 then nI (4 + f) else if k = 3 then nI (5 + 2 * f) else if k = 5 then nI 15 else if k = 6 then nI (10 + 4 * f) else if k = 7 then nI 4 - nI f else nI 5
theorem C_pay (d : Nat) (σ : xS) {q k f : Nat} (h : cOk σ q k f) (hk : k < 8) : run (d + 3) (xentry (xvt 5 ((rC σ).getD q 0)) [.inr (.inr (16, (some q)))] σ) = some ((payI k f, 0, none), σ) := by
  have hfv := h.2.2.2
  rw [h.2.1]
  revert hk
  clear h
  refine k8 (P := fun k => run (d + 3) (xentry (xvt 5 (clsOf k)) [.inr (.inr (16, (some q)))] σ) = some ((payI k f, 0, none), σ)) ?_ ?_ ?_ ?_ ?_ ?_ ?_ ?_
  · exact B86_0 _ _ _
  · show run (d + 3) (xentry 120 _ σ) = _
    rw [B120_0, B86_0]; unfold payI; simp (disch := omega) only [n_cl, n_lt, n_le, n_eq, n_lt0, n_0lt, n_le0, n_eq0, n_gneq, n_ngeq, n_ng0, n_nglt, n_glt, n_gle, n_ltg, n_leg, n_gg, n_ge0, n_add, n_mul, n_rem, n_shl1, n_and, n_or, n_bit, n_not, n_not', n_B1, n_B0, n_BB, obind, xite_T, xite_F, xite_not, xite_same, oI_s, oI_n, Bool.false_eq_true, reduceCtorEq, eq_self, Classical.not_not, bI_T, bI_Fa, bI_0, bI_n0, bI_x, xb_0, xb_1, xite_bI, xite_bI', not_true_eq_false, not_false_eq_true, Nat.zero_add, Nat.add_zero, Nat.mul_zero, Nat.mul_one, Nat.one_mul, reduceIte, Nat.reduceEqDiff, Nat.reduceAdd, Nat.reduceMul, Nat.reduceSub, Nat.reduceLT, Nat.reduceLeDiff, Nat.reducePow, ite_true, ite_false, if_true, if_false, and_true, true_and, false_and, and_false, or_false, false_or, true_or, or_true, ne_eq, n_sub]
  · show run (d + 3) (xentry 130 _ σ) = _
    rw [B130_0, B120_0, B86_0]; unfold payI; simp (disch := omega) only [n_cl, n_lt, n_le, n_eq, n_lt0, n_0lt, n_le0, n_eq0, n_gneq, n_ngeq, n_ng0, n_nglt, n_glt, n_gle, n_ltg, n_leg, n_gg, n_ge0, n_add, n_mul, n_rem, n_shl1, n_and, n_or, n_bit, n_not, n_not', n_B1, n_B0, n_BB, obind, xite_T, xite_F, xite_not, xite_same, oI_s, oI_n, Bool.false_eq_true, reduceCtorEq, eq_self, Classical.not_not, bI_T, bI_Fa, bI_0, bI_n0, bI_x, xb_0, xb_1, xite_bI, xite_bI', not_true_eq_false, not_false_eq_true, Nat.zero_add, Nat.add_zero, Nat.mul_zero, Nat.mul_one, Nat.one_mul, reduceIte, Nat.reduceEqDiff, Nat.reduceAdd, Nat.reduceMul, Nat.reduceSub, Nat.reduceLT, Nat.reduceLeDiff, Nat.reducePow, ite_true, ite_false, if_true, if_false, and_true, true_and, false_and, and_false, or_false, false_or, true_or, or_true, ne_eq, n_sub, hfv]
  · show run (d + 3) (xentry 113 _ σ) = _
    rw [B113_0, B86_0]; unfold payI; simp (disch := omega) only [n_cl, n_lt, n_le, n_eq, n_lt0, n_0lt, n_le0, n_eq0, n_gneq, n_ngeq, n_ng0, n_nglt, n_glt, n_gle, n_ltg, n_leg, n_gg, n_ge0, n_add, n_mul, n_rem, n_shl1, n_and, n_or, n_bit, n_not, n_not', n_B1, n_B0, n_BB, obind, xite_T, xite_F, xite_not, xite_same, oI_s, oI_n, Bool.false_eq_true, reduceCtorEq, eq_self, Classical.not_not, bI_T, bI_Fa, bI_0, bI_n0, bI_x, xb_0, xb_1, xite_bI, xite_bI', not_true_eq_false, not_false_eq_true, Nat.zero_add, Nat.add_zero, Nat.mul_zero, Nat.mul_one, Nat.one_mul, reduceIte, Nat.reduceEqDiff, Nat.reduceAdd, Nat.reduceMul, Nat.reduceSub, Nat.reduceLT, Nat.reduceLeDiff, Nat.reducePow, ite_true, ite_false, if_true, if_false, and_true, true_and, false_and, and_false, or_false, false_or, true_or, or_true, ne_eq, n_sub, hfv]
  · exact B86_0 _ _ _
  · show run (d + 3) (xentry 90 _ σ) = _
    rw [B90_0, B86_0]; unfold payI; simp (disch := omega) only [n_cl, n_lt, n_le, n_eq, n_lt0, n_0lt, n_le0, n_eq0, n_gneq, n_ngeq, n_ng0, n_nglt, n_glt, n_gle, n_ltg, n_leg, n_gg, n_ge0, n_add, n_mul, n_rem, n_shl1, n_and, n_or, n_bit, n_not, n_not', n_B1, n_B0, n_BB, obind, xite_T, xite_F, xite_not, xite_same, oI_s, oI_n, Bool.false_eq_true, reduceCtorEq, eq_self, Classical.not_not, bI_T, bI_Fa, bI_0, bI_n0, bI_x, xb_0, xb_1, xite_bI, xite_bI', not_true_eq_false, not_false_eq_true, Nat.zero_add, Nat.add_zero, Nat.mul_zero, Nat.mul_one, Nat.one_mul, reduceIte, Nat.reduceEqDiff, Nat.reduceAdd, Nat.reduceMul, Nat.reduceSub, Nat.reduceLT, Nat.reduceLeDiff, Nat.reducePow, ite_true, ite_false, if_true, if_false, and_true, true_and, false_and, and_false, or_false, false_or, true_or, or_true, ne_eq, n_sub, hfv]
  · show run (d + 3) (xentry 117 _ σ) = _
    rw [B117_0, B113_0, B86_0]; unfold payI; simp (disch := omega) only [n_cl, n_lt, n_le, n_eq, n_lt0, n_0lt, n_le0, n_eq0, n_gneq, n_ngeq, n_ng0, n_nglt, n_glt, n_gle, n_ltg, n_leg, n_gg, n_ge0, n_add, n_mul, n_rem, n_shl1, n_and, n_or, n_bit, n_not, n_not', n_B1, n_B0, n_BB, obind, xite_T, xite_F, xite_not, xite_same, oI_s, oI_n, Bool.false_eq_true, reduceCtorEq, eq_self, Classical.not_not, bI_T, bI_Fa, bI_0, bI_n0, bI_x, xb_0, xb_1, xite_bI, xite_bI', not_true_eq_false, not_false_eq_true, Nat.zero_add, Nat.add_zero, Nat.mul_zero, Nat.mul_one, Nat.one_mul, reduceIte, Nat.reduceEqDiff, Nat.reduceAdd, Nat.reduceMul, Nat.reduceSub, Nat.reduceLT, Nat.reduceLeDiff, Nat.reducePow, ite_true, ite_false, if_true, if_false, and_true, true_and, false_and, and_false, or_false, false_or, true_or, or_true, ne_eq, n_sub, hfv]
    rw [show 2 * (5 + 2 * f) = 10 + 4 * f by omega]
  · show run (d + 3) (xentry 133 _ σ) = _
    rw [B133_0, B120_0, B86_0]; unfold payI; simp (disch := omega) only [n_cl, n_lt, n_le, n_eq, n_lt0, n_0lt, n_le0, n_eq0, n_gneq, n_ngeq, n_ng0, n_nglt, n_glt, n_gle, n_ltg, n_leg, n_gg, n_ge0, n_add, n_mul, n_rem, n_shl1, n_and, n_or, n_bit, n_not, n_not', n_B1, n_B0, n_BB, obind, xite_T, xite_F, xite_not, xite_same, oI_s, oI_n, Bool.false_eq_true, reduceCtorEq, eq_self, Classical.not_not, bI_T, bI_Fa, bI_0, bI_n0, bI_x, xb_0, xb_1, xite_bI, xite_bI', not_true_eq_false, not_false_eq_true, Nat.zero_add, Nat.add_zero, Nat.mul_zero, Nat.mul_one, Nat.one_mul, reduceIte, Nat.reduceEqDiff, Nat.reduceAdd, Nat.reduceMul, Nat.reduceSub, Nat.reduceLT, Nat.reduceLeDiff, Nat.reducePow, ite_true, ite_false, if_true, if_false, and_true, true_and, false_and, and_false, or_false, false_or, true_or, or_true, ne_eq, n_sub, hfv]
