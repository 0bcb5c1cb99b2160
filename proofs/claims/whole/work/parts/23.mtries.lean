/-! THE REFERENCE LOOKS FOR A WAY -/
def fl {A : Type} (f : Nat → A → A) : Nat → Nat → A → A
  | 0, _, a => a
  | n + 1, r, a => fl f n (r + 1) (f r a)
/-- the best way so far: weight, roads, road and load of each -/
abbrev mW : Type := Option (Nat × Nat × (Nat → Nat × Nat))
def pU (p : Nat → Nat × Nat) (n : Nat) (v : Nat × Nat) : Nat → Nat × Nat := fun i => if i = n then v else p i
def tB (sum n : Nat) (p : Nat → Nat × Nat) : mW → mW
  | none => some (sum, n, p)
  | some (w, n', p') => if w ≤ sum then some (w, n', p') else some (sum, n, p)
def lvm (k f r l : Nat) : Nat := if k = 5 ∧ r = f then 0 else l
def tT (X : mX) (k f g goal : Nat) : Nat → Nat → Nat → Nat → (Nat → Nat × Nat) → Nat → mW → mW
  | 0, _, _, _, _, _, acc => acc
  | m + 1, pl, been, n, p, sum, acc => if pl = goal then tB sum n p acc else if k = 7 ∧ n = f then acc else
    fl (fun r acc => match oth X r pl with
      | none => acc
      | some q => if been.testBit q = true ∨ (¬ xaN X r &&& ldm (xaP X) k f g been = 0 ∧ ¬ (k = 5 ∧ r = f)) then acc else
        tT X k f g goal m q (been ||| 2 ^ q) (n + 1) (pU p n (r, lvm k f r (ldm (xaP X) k f g been))) (sum + wtm k f r (xaM X r) (xaN X r)) acc) (xaR X) 0 acc
/-- one road of it -/
def tR (X : mX) (k f g goal m pl been n : Nat) (p : Nat → Nat × Nat) (sum r : Nat) (acc : mW) : mW := match oth X r pl with
  | none => acc
  | some q => if been.testBit q = true ∨ (¬ xaN X r &&& ldm (xaP X) k f g been = 0 ∧ ¬ (k = 5 ∧ r = f)) then acc else
    tT X k f g goal m q (been ||| 2 ^ q) (n + 1) (pU p n (r, lvm k f r (ldm (xaP X) k f g been))) (sum + wtm k f r (xaM X r) (xaN X r)) acc
theorem tT_s {X : mX} {k f g goal m pl been n : Nat} {p : Nat → Nat × Nat} {sum : Nat} {acc : mW} : tT X k f g goal (m + 1) pl been n p sum acc = if pl = goal then tB sum n p acc else if k = 7 ∧ n = f then acc else fl (tR X k f g goal m pl been n p sum) (xaR X) 0 acc := rfl
def smm (X : mX) (p : Nat → Nat × Nat) : Nat → Nat
  | 0 => 0
  | n + 1 => smm X p n + xaM X (p n).1
/-- the roads and loads of a way are such -/
def pOk (X : mX) (n : Nat) (p : Nat → Nat × Nat) : Prop := ∀ i, i < n → (p i).1 < xaR X ∧ (p i).2 < 16
/-- the way that the reference has found -/
def mA (σ : xS) (X : mX) : mW → Prop
  | none => rI σ 17 0 16 = -nI 4 ∧ rI σ 17 0 17 = -nI 4 ∧ rI σ 17 0 18 = -nI 4
  | some (w, n, p) => rI σ 17 0 16 = nI w ∧ rI σ 17 0 17 = nI n ∧ rI σ 17 0 18 = nI (smm X p n) ∧ n ≤ 6 ∧ w ≤ 100 * n ∧ pOk X n p ∧ ∀ i, i < n → rI σ 29 0 i = nI (p i).1 ∧ rI σ 30 0 i = nI (p i).2
def mT (σ : xS) (n : Nat) (p : Nat → Nat × Nat) : Prop := ∀ i, i < n → rI σ 28 0 i = nI (p i).1 ∧ rI σ 31 0 i = nI (p i).2
def S20 (r _ k : Nat) : Prop := r = 28 ∨ r = 29 ∨ r = 30 ∨ r = 31 ∨ (r = 17 ∧ 16 ≤ k ∧ k ≤ 18)
theorem popf_add : ∀ b, b < 64 → ∀ q, q < 6 → b.testBit q = false → popf 6 (b ||| 2 ^ q) = popf 6 b + 1 ∧ (b ||| 2 ^ q) < 64 := by decide +kernel
theorem popf_le : ∀ b, b < 64 → popf 6 b ≤ 6 := by decide +kernel
theorem smm_le {X : mX} {n : Nat} (hX : WX n X) (hR : xaR X ≤ n) {p : Nat → Nat × Nat} : ∀ j, pOk X j p → smm X p j ≤ 9 * j := by
  intro j
  induction j with
  | zero => intro _; exact Nat.le_refl 0
  | succ j ih =>
    intro h
    have a := ih (fun i hi => h i (by omega))
    have b := hX.2.2.2.2.2.1 (p j).1 (by have := (h j (by omega)).1; omega)
    show smm X p j + xaM X (p j).1 ≤ _
    omega
theorem smm_U {X : mX} {p : Nat → Nat × Nat} {v : Nat × Nat} {n : Nat} : ∀ j, j ≤ n → smm X (pU p n v) j = smm X p j := by
  intro j
  induction j with
  | zero => intro _; rfl
  | succ j ih =>
    intro h
    show smm X (pU p n v) j + xaM X (pU p n v j).1 = smm X p j + xaM X (p j).1
    rw [ih (by omega)]
    unfold pU
    rw [if_neg (by omega)]
theorem wtm_le {X : mX} {n k f r : Nat} (hX : WX n X) (hr : r < n) : wtm k f r (xaM X r) (xaN X r) ≤ 100 := by
  have b := hX.2.2.2.2.2.1 r hr
  unfold wtm
  repeat' split
  all_goals omega
theorem ldg_lt {P k f g been : Nat} (hg : g < 4) : ldg P k f g been < 4 := by
  unfold ldg
  split <;> omega
theorem ldm_lt {P k f g been : Nat} (hg : g < 4) : ldm P k f g been < 16 := by
  unfold ldm
  have h := ldg_lt (P := P) (k := k) (f := f) (been := been) hg
  revert h
  generalize ldg P k f g been = y
  intro h
  have t : ∀ y, y < 4 → 2 ^ y ||| 2 ^ ((y + 1) % 4) < 16 ∧ 2 ^ y ||| 0 < 16 := by decide
  split
  · exact (t y h).1
  · exact (t y h).2
theorem lvm_lt {k f r l : Nat} (h : l < 16) : lvm k f r l < 16 := by
  unfold lvm
  split <;> omega
/-- the way found is laid down -/
theorem M20c (X : mX) (p : Nat → Nat × Nat) (n : Nat) (hn : n ≤ 6) (d : Nat) : ∀ (j i : Nat) (σ : xS), i + j = n → mT σ n p → (∀ a, a < i → rI σ 29 0 a = nI (p a).1 ∧ rI σ 30 0 a = nI (p a).2) →
    ∃ σ', run (d + 1) (20, 44, [some (.inr (.inr (17, (some 0)))), none, none, none, none, none, some (.inl (nI n)), none, none, some (.inl (nI i)), none, none, none, none, none], [], σ) = some ((0, 0, none), σ') ∧ (∀ a, a < n → rI σ' 29 0 a = nI (p a).1 ∧ rI σ' 30 0 a = nI (p a).2) ∧ xF (fun r _ _ => r = 29 ∨ r = 30) σ σ' := by
  intro j
  induction j with
  | zero =>
    intro i σ hi hT hA
    refine ⟨σ, ?_, fun a ha => hA a (by omega), xF_refl σ⟩
    rw [B20_44]
    simp (disch := omega) only [n_cl, n_lt, n_le, n_eq, n_lt0, n_0lt, n_le0, n_eq0, n_gneq, n_ngeq, n_ng0, n_nglt, n_glt, n_gle, n_ltg, n_leg, n_gg, n_ge0, n_add, n_mul, n_rem, n_shl1, n_and, n_or, n_bit, n_not, n_not', n_B1, n_B0, n_BB, obind, xite_T, xite_F, xite_not, xite_same, oI_s, oI_n, Bool.false_eq_true, reduceCtorEq, eq_self, Classical.not_not, bI_T, bI_Fa, bI_0, bI_n0, bI_x, xb_0, xb_1, xite_bI, xite_bI', not_true_eq_false, not_false_eq_true, Nat.zero_add, Nat.add_zero, Nat.mul_zero, Nat.mul_one, Nat.one_mul, reduceIte, Nat.reduceEqDiff, Nat.reduceAdd, Nat.reduceMul, Nat.reduceSub, Nat.reduceLT, Nat.reduceLeDiff, Nat.reducePow, ite_true, ite_false, if_true, if_false, and_true, true_and, false_and, and_false, or_false, false_or, true_or, or_true, ne_eq, xite_t, xite_f, ]
  | succ j ih =>
    intro i σ hi hT hA
    have e := hT i (by omega)
    obtain ⟨σ', h1, h2, h3⟩ := ih (i + 1) (wI (wI σ 29 0 i (nI (p i).1)) 30 0 i (nI (p i).2)) (by omega) (fun a ha => by simp (disch := omega) only [n_cl, n_lt, n_le, n_eq, n_lt0, n_0lt, n_le0, n_eq0, n_gneq, n_ngeq, n_ng0, n_nglt, n_glt, n_gle, n_ltg, n_leg, n_gg, n_ge0, n_add, n_mul, n_rem, n_shl1, n_and, n_or, n_bit, n_not, n_not', n_B1, n_B0, n_BB, obind, xite_T, xite_F, xite_not, xite_same, oI_s, oI_n, Bool.false_eq_true, reduceCtorEq, eq_self, Classical.not_not, bI_T, bI_Fa, bI_0, bI_n0, bI_x, xb_0, xb_1, xite_bI, xite_bI', not_true_eq_false, not_false_eq_true, Nat.zero_add, Nat.add_zero, Nat.mul_zero, Nat.mul_one, Nat.one_mul, reduceIte, Nat.reduceEqDiff, Nat.reduceAdd, Nat.reduceMul, Nat.reduceSub, Nat.reduceLT, Nat.reduceLeDiff, Nat.reducePow, ite_true, ite_false, if_true, if_false, and_true, true_and, false_and, and_false, or_false, false_or, true_or, or_true, ne_eq, xite_t, xite_f, w_I2, w_Is, w_In, w_IL, w_IP, w_IC, w_LI, w_LP, w_LC, w_PI, w_PL, w_PC]; exact hT a ha) (fun a ha => by
      by_cases hai : a = i
      · subst hai
        simp (disch := omega) only [n_cl, n_lt, n_le, n_eq, n_lt0, n_0lt, n_le0, n_eq0, n_gneq, n_ngeq, n_ng0, n_nglt, n_glt, n_gle, n_ltg, n_leg, n_gg, n_ge0, n_add, n_mul, n_rem, n_shl1, n_and, n_or, n_bit, n_not, n_not', n_B1, n_B0, n_BB, obind, xite_T, xite_F, xite_not, xite_same, oI_s, oI_n, Bool.false_eq_true, reduceCtorEq, eq_self, Classical.not_not, bI_T, bI_Fa, bI_0, bI_n0, bI_x, xb_0, xb_1, xite_bI, xite_bI', not_true_eq_false, not_false_eq_true, Nat.zero_add, Nat.add_zero, Nat.mul_zero, Nat.mul_one, Nat.one_mul, reduceIte, Nat.reduceEqDiff, Nat.reduceAdd, Nat.reduceMul, Nat.reduceSub, Nat.reduceLT, Nat.reduceLeDiff, Nat.reducePow, ite_true, ite_false, if_true, if_false, and_true, true_and, false_and, and_false, or_false, false_or, true_or, or_true, ne_eq, xite_t, xite_f, w_I2, w_Is, w_In, w_IL, w_IP, w_IC, w_LI, w_LP, w_LC, w_PI, w_PL, w_PC]
      · have := hA a (by omega)
        simp (disch := omega) only [n_cl, n_lt, n_le, n_eq, n_lt0, n_0lt, n_le0, n_eq0, n_gneq, n_ngeq, n_ng0, n_nglt, n_glt, n_gle, n_ltg, n_leg, n_gg, n_ge0, n_add, n_mul, n_rem, n_shl1, n_and, n_or, n_bit, n_not, n_not', n_B1, n_B0, n_BB, obind, xite_T, xite_F, xite_not, xite_same, oI_s, oI_n, Bool.false_eq_true, reduceCtorEq, eq_self, Classical.not_not, bI_T, bI_Fa, bI_0, bI_n0, bI_x, xb_0, xb_1, xite_bI, xite_bI', not_true_eq_false, not_false_eq_true, Nat.zero_add, Nat.add_zero, Nat.mul_zero, Nat.mul_one, Nat.one_mul, reduceIte, Nat.reduceEqDiff, Nat.reduceAdd, Nat.reduceMul, Nat.reduceSub, Nat.reduceLT, Nat.reduceLeDiff, Nat.reducePow, ite_true, ite_false, if_true, if_false, and_true, true_and, false_and, and_false, or_false, false_or, true_or, or_true, ne_eq, xite_t, xite_f, w_I2, w_Is, w_In, w_IL, w_IP, w_IC, w_LI, w_LP, w_LC, w_PI, w_PL, w_PC]
        exact this)
    refine ⟨σ', ?_, h2, xF_trans (xF_wI (xF_wI (xF_refl σ) _ (Or.inl rfl)) _ (Or.inr rfl)) h3⟩
    rw [B20_44]
    simp (disch := omega) only [n_cl, n_lt, n_le, n_eq, n_lt0, n_0lt, n_le0, n_eq0, n_gneq, n_ngeq, n_ng0, n_nglt, n_glt, n_gle, n_ltg, n_leg, n_gg, n_ge0, n_add, n_mul, n_rem, n_shl1, n_and, n_or, n_bit, n_not, n_not', n_B1, n_B0, n_BB, obind, xite_T, xite_F, xite_not, xite_same, oI_s, oI_n, Bool.false_eq_true, reduceCtorEq, eq_self, Classical.not_not, bI_T, bI_Fa, bI_0, bI_n0, bI_x, xb_0, xb_1, xite_bI, xite_bI', not_true_eq_false, not_false_eq_true, Nat.zero_add, Nat.add_zero, Nat.mul_zero, Nat.mul_one, Nat.one_mul, reduceIte, Nat.reduceEqDiff, Nat.reduceAdd, Nat.reduceMul, Nat.reduceSub, Nat.reduceLT, Nat.reduceLeDiff, Nat.reducePow, ite_true, ite_false, if_true, if_false, and_true, true_and, false_and, and_false, or_false, false_or, true_or, or_true, ne_eq, xite_t, xite_f, w_I2, w_Is, w_In, w_IL, w_IP, w_IC, w_LI, w_LP, w_LC, w_PI, w_PL, w_PC, e.1, e.2]
    exact h1
theorem M20a (X : mX) {n0 : Nat} (d : Nat) (σ : xS) {c g pl goal been n sum mil k f L r : Nat} (h : ML (rI σ 18 0) n0 X) (hn : xaR X ≤ n0) (hr : r < xaR X) (hpl : pl < 6) (hk : k < 8) (hf : f ≤ 9) :
    run (d + 3) (20, 131, [some (.inr (.inr (17, (some 0)))), some (.inl (nI (c))), some (.inl (nI (g))), some (.inl (nI (pl))), some (.inl (nI (goal))), some (.inl (nI (been))), some (.inl (nI (n))), some (.inl (nI (sum))), some (.inl (nI (mil))), some (.inl (nI (k))), some (.inl (nI (f))), some (.inl (nI (L))), some (.inl (nI (r))), none, none], [], σ) = run (d + 3) (20, 169, [some (.inr (.inr (17, (some 0)))), some (.inl (nI (c))), some (.inl (nI (g))), some (.inl (nI (pl))), some (.inl (nI (goal))), some (.inl (nI (been))), some (.inl (nI (n))), some (.inl (nI (sum))), some (.inl (nI (mil))), some (.inl (nI (k))), some (.inl (nI (f))), some (.inl (nI (L))), some (.inl (nI (r))), some (.inl (oI 4 (oth X r pl))), none], [.inl (nI (if k = 5 ∧ r = f then 1 else 0))], σ) := by
  have hP2 := h.1.1; have hP6 := h.1.2.1; have hR9 := h.1.2.2.1; have hC6 := h.1.2.2.2.1; have hn10 := h.1.2.2.2.2.1; have hp0 := h.2.1; have hr0 := h.2.2.1; have hc0 := h.2.2.2.1
  rw [B20_131]
  simp (disch := omega) only [n_cl, n_lt, n_le, n_eq, n_lt0, n_0lt, n_le0, n_eq0, n_gneq, n_ngeq, n_ng0, n_nglt, n_glt, n_gle, n_ltg, n_leg, n_gg, n_ge0, n_add, n_mul, n_rem, n_shl1, n_and, n_or, n_bit, n_not, n_not', n_B1, n_B0, n_BB, obind, xite_T, xite_F, xite_not, xite_same, oI_s, oI_n, Bool.false_eq_true, reduceCtorEq, eq_self, Classical.not_not, bI_T, bI_Fa, bI_0, bI_n0, bI_x, xb_0, xb_1, xite_bI, xite_bI', not_true_eq_false, not_false_eq_true, Nat.zero_add, Nat.add_zero, Nat.mul_zero, Nat.mul_one, Nat.one_mul, reduceIte, Nat.reduceEqDiff, Nat.reduceAdd, Nat.reduceMul, Nat.reduceSub, Nat.reduceLT, Nat.reduceLeDiff, Nat.reducePow, ite_true, ite_false, if_true, if_false, and_true, true_and, false_and, and_false, or_false, false_or, true_or, or_true, ne_eq, xite_t, xite_f, hr0, M16 _ _ h (show r < n0 by omega) hpl]
  by_cases h5 : k = 5
  · subst h5
    by_cases h6 : r = f
    · subst h6
      simp (disch := omega) only [n_cl, n_lt, n_le, n_eq, n_lt0, n_0lt, n_le0, n_eq0, n_gneq, n_ngeq, n_ng0, n_nglt, n_glt, n_gle, n_ltg, n_leg, n_gg, n_ge0, n_add, n_mul, n_rem, n_shl1, n_and, n_or, n_bit, n_not, n_not', n_B1, n_B0, n_BB, obind, xite_T, xite_F, xite_not, xite_same, oI_s, oI_n, Bool.false_eq_true, reduceCtorEq, eq_self, Classical.not_not, bI_T, bI_Fa, bI_0, bI_n0, bI_x, xb_0, xb_1, xite_bI, xite_bI', not_true_eq_false, not_false_eq_true, Nat.zero_add, Nat.add_zero, Nat.mul_zero, Nat.mul_one, Nat.one_mul, reduceIte, Nat.reduceEqDiff, Nat.reduceAdd, Nat.reduceMul, Nat.reduceSub, Nat.reduceLT, Nat.reduceLeDiff, Nat.reducePow, ite_true, ite_false, if_true, if_false, and_true, true_and, false_and, and_false, or_false, false_or, true_or, or_true, ne_eq, xite_t, xite_f, ]
    · simp (disch := omega) only [n_cl, n_lt, n_le, n_eq, n_lt0, n_0lt, n_le0, n_eq0, n_gneq, n_ngeq, n_ng0, n_nglt, n_glt, n_gle, n_ltg, n_leg, n_gg, n_ge0, n_add, n_mul, n_rem, n_shl1, n_and, n_or, n_bit, n_not, n_not', n_B1, n_B0, n_BB, obind, xite_T, xite_F, xite_not, xite_same, oI_s, oI_n, Bool.false_eq_true, reduceCtorEq, eq_self, Classical.not_not, bI_T, bI_Fa, bI_0, bI_n0, bI_x, xb_0, xb_1, xite_bI, xite_bI', not_true_eq_false, not_false_eq_true, Nat.zero_add, Nat.add_zero, Nat.mul_zero, Nat.mul_one, Nat.one_mul, reduceIte, Nat.reduceEqDiff, Nat.reduceAdd, Nat.reduceMul, Nat.reduceSub, Nat.reduceLT, Nat.reduceLeDiff, Nat.reducePow, ite_true, ite_false, if_true, if_false, and_true, true_and, false_and, and_false, or_false, false_or, true_or, or_true, ne_eq, xite_t, xite_f, h6]
  · simp (disch := omega) only [n_cl, n_lt, n_le, n_eq, n_lt0, n_0lt, n_le0, n_eq0, n_gneq, n_ngeq, n_ng0, n_nglt, n_glt, n_gle, n_ltg, n_leg, n_gg, n_ge0, n_add, n_mul, n_rem, n_shl1, n_and, n_or, n_bit, n_not, n_not', n_B1, n_B0, n_BB, obind, xite_T, xite_F, xite_not, xite_same, oI_s, oI_n, Bool.false_eq_true, reduceCtorEq, eq_self, Classical.not_not, bI_T, bI_Fa, bI_0, bI_n0, bI_x, xb_0, xb_1, xite_bI, xite_bI', not_true_eq_false, not_false_eq_true, Nat.zero_add, Nat.add_zero, Nat.mul_zero, Nat.mul_one, Nat.one_mul, reduceIte, Nat.reduceEqDiff, Nat.reduceAdd, Nat.reduceMul, Nat.reduceSub, Nat.reduceLT, Nat.reduceLeDiff, Nat.reducePow, ite_true, ite_false, if_true, if_false, and_true, true_and, false_and, and_false, or_false, false_or, true_or, or_true, ne_eq, xite_t, xite_f, h5]
/-- the next road of it is passed over -/
theorem M20p (X : mX) {n0 : Nat} (d : Nat) (σ : xS) {c g pl goal been n sum mil k f L r s : Nat} (h : ML (rI σ 18 0) n0 X) (hn : xaR X ≤ n0) (hr : r < xaR X) (hpl : pl < 6) (hs : s ≤ 1) (hb : been < 64) (hL : L < 16)
    (ho : oth X r pl = none ∨ ∃ q, oth X r pl = some q ∧ (been.testBit q = true ∨ (¬ xaN X r &&& L = 0 ∧ s = 0))) :
    run (d + 3) (20, 169, [some (.inr (.inr (17, (some 0)))), some (.inl (nI (c))), some (.inl (nI (g))), some (.inl (nI (pl))), some (.inl (nI (goal))), some (.inl (nI (been))), some (.inl (nI (n))), some (.inl (nI (sum))), some (.inl (nI (mil))), some (.inl (nI (k))), some (.inl (nI (f))), some (.inl (nI (L))), some (.inl (nI (r))), some (.inl (oI 4 (oth X r pl))), none], [.inl (nI s)], σ) = run (d + 3) (20, 131, [some (.inr (.inr (17, (some 0)))), some (.inl (nI (c))), some (.inl (nI (g))), some (.inl (nI (pl))), some (.inl (nI (goal))), some (.inl (nI (been))), some (.inl (nI (n))), some (.inl (nI (sum))), some (.inl (nI (mil))), some (.inl (nI (k))), some (.inl (nI (f))), some (.inl (nI (L))), some (.inl (nI (r + 1))), none, none], [], σ) := by
  have hP2 := h.1.1; have hP6 := h.1.2.1; have hR9 := h.1.2.2.1; have hC6 := h.1.2.2.2.1; have hn10 := h.1.2.2.2.2.1; have hp0 := h.2.1; have hr0 := h.2.2.1; have hc0 := h.2.2.2.1
  have hb2 := h.1.2.2.2.2.2.1 r (by omega)
  rw [B20_169]
  rcases ho with ho | ⟨q, ho, h1⟩
  · rw [ho]
    simp (disch := omega) only [n_cl, n_lt, n_le, n_eq, n_lt0, n_0lt, n_le0, n_eq0, n_gneq, n_ngeq, n_ng0, n_nglt, n_glt, n_gle, n_ltg, n_leg, n_gg, n_ge0, n_add, n_mul, n_rem, n_shl1, n_and, n_or, n_bit, n_not, n_not', n_B1, n_B0, n_BB, obind, xite_T, xite_F, xite_not, xite_same, oI_s, oI_n, Bool.false_eq_true, reduceCtorEq, eq_self, Classical.not_not, bI_T, bI_Fa, bI_0, bI_n0, bI_x, xb_0, xb_1, xite_bI, xite_bI', not_true_eq_false, not_false_eq_true, Nat.zero_add, Nat.add_zero, Nat.mul_zero, Nat.mul_one, Nat.one_mul, reduceIte, Nat.reduceEqDiff, Nat.reduceAdd, Nat.reduceMul, Nat.reduceSub, Nat.reduceLT, Nat.reduceLeDiff, Nat.reducePow, ite_true, ite_false, if_true, if_false, and_true, true_and, false_and, and_false, or_false, false_or, true_or, or_true, ne_eq, xite_t, xite_f, ]
  · rw [ho]
    have hq : q < 6 := by
      unfold oth at ho
      split at ho
      · cases ho; omega
      · split at ho
        · cases ho; omega
        · cases ho
    by_cases ht : been.testBit q = true
    · simp (disch := omega) only [n_cl, n_lt, n_le, n_eq, n_lt0, n_0lt, n_le0, n_eq0, n_gneq, n_ngeq, n_ng0, n_nglt, n_glt, n_gle, n_ltg, n_leg, n_gg, n_ge0, n_add, n_mul, n_rem, n_shl1, n_and, n_or, n_bit, n_not, n_not', n_B1, n_B0, n_BB, obind, xite_T, xite_F, xite_not, xite_same, oI_s, oI_n, Bool.false_eq_true, reduceCtorEq, eq_self, Classical.not_not, bI_T, bI_Fa, bI_0, bI_n0, bI_x, xb_0, xb_1, xite_bI, xite_bI', not_true_eq_false, not_false_eq_true, Nat.zero_add, Nat.add_zero, Nat.mul_zero, Nat.mul_one, Nat.one_mul, reduceIte, Nat.reduceEqDiff, Nat.reduceAdd, Nat.reduceMul, Nat.reduceSub, Nat.reduceLT, Nat.reduceLeDiff, Nat.reducePow, ite_true, ite_false, if_true, if_false, and_true, true_and, false_and, and_false, or_false, false_or, true_or, or_true, ne_eq, xite_t, xite_f, ht]
    · rcases h1 with h1 | ⟨h1, h2⟩
      · exact absurd h1 ht
      · have ht' : been.testBit q = false := by cases hq : been.testBit q with | true => exact absurd hq ht | false => rfl
        have hand : xaN X r &&& L < 16 := Nat.lt_of_le_of_lt Nat.and_le_left hb2.2.2.2.2.2
        subst h2
        simp (disch := omega) only [n_cl, n_lt, n_le, n_eq, n_lt0, n_0lt, n_le0, n_eq0, n_gneq, n_ngeq, n_ng0, n_nglt, n_glt, n_gle, n_ltg, n_leg, n_gg, n_ge0, n_add, n_mul, n_rem, n_shl1, n_and, n_or, n_bit, n_not, n_not', n_B1, n_B0, n_BB, obind, xite_T, xite_F, xite_not, xite_same, oI_s, oI_n, Bool.false_eq_true, reduceCtorEq, eq_self, Classical.not_not, bI_T, bI_Fa, bI_0, bI_n0, bI_x, xb_0, xb_1, xite_bI, xite_bI', not_true_eq_false, not_false_eq_true, Nat.zero_add, Nat.add_zero, Nat.mul_zero, Nat.mul_one, Nat.one_mul, reduceIte, Nat.reduceEqDiff, Nat.reduceAdd, Nat.reduceMul, Nat.reduceSub, Nat.reduceLT, Nat.reduceLeDiff, Nat.reducePow, ite_true, ite_false, if_true, if_false, and_true, true_and, false_and, and_false, or_false, false_or, true_or, or_true, ne_eq, ht', M8_3 _ _ h (show r < n0 by omega), h1]
theorem oth_lt {X : mX} {n r pl q : Nat} (hX : WX n X) (hr : r < n) (ho : oth X r pl = some q) : q < 6 := by
  have hb2 := hX.2.2.2.2.2.1 r hr
  have := hX.2.1
  unfold oth at ho
  split at ho
  · cases ho; omega
  · split at ho
    · cases ho; omega
    · cases ho
/-- or gone along -/
theorem M20g (X : mX) {n0 : Nat} (d : Nat) (σ : xS) {c g pl goal been n sum mil k f L r q : Nat} (h : ML (rI σ 18 0) n0 X) (hn : xaR X ≤ n0) (hr : r < xaR X) (hpl : pl < 6) (hb : been < 64) (hL : L < 16) (hk : k < 8) (hf : f ≤ 9) (hn5 : n < 6)
    (ho : oth X r pl = some q) (ht : been.testBit q = false) (hgo : xaN X r &&& L = 0 ∨ (k = 5 ∧ r = f)) :
    run (d + 3) (20, 169, [some (.inr (.inr (17, (some 0)))), some (.inl (nI (c))), some (.inl (nI (g))), some (.inl (nI (pl))), some (.inl (nI (goal))), some (.inl (nI (been))), some (.inl (nI (n))), some (.inl (nI (sum))), some (.inl (nI (mil))), some (.inl (nI (k))), some (.inl (nI (f))), some (.inl (nI (L))), some (.inl (nI (r))), some (.inl (oI 4 (oth X r pl))), none], [.inl (nI (if k = 5 ∧ r = f then 1 else 0))], σ) =
    (run (d + 2) (xentry 20 [.inr (.inr (17, (some 0))), .inl (nI c), .inl (nI g), .inl (nI q), .inl (nI goal), .inl (nI (been ||| 2 ^ q)), .inl (nI (n + 1)), .inl (nI (sum + wtm k f r (xaM X r) (xaN X r))), .inl (nI (mil + xaM X r))] (wI (wI σ 28 0 n (nI r)) 31 0 n (nI (lvm k f r L))))).bind fun q3 => run (d + 3) (20, 131, [some (.inr (.inr (17, (some 0)))), some (.inl (nI (c))), some (.inl (nI (g))), some (.inl (nI (pl))), some (.inl (nI (goal))), some (.inl (nI (been))), some (.inl (nI (n))), some (.inl (nI (sum))), some (.inl (nI (mil))), some (.inl (nI (k))), some (.inl (nI (f))), some (.inl (nI (L))), some (.inl (nI (r + 1))), none, none], [], q3.2) := by
  have hP2 := h.1.1; have hP6 := h.1.2.1; have hR9 := h.1.2.2.1; have hC6 := h.1.2.2.2.1; have hn10 := h.1.2.2.2.2.1; have hp0 := h.2.1; have hr0 := h.2.2.1; have hc0 := h.2.2.2.1
  have hb2 := h.1.2.2.2.2.2.1 r (by omega)
  have hq := oth_lt h.1 (show r < n0 by omega) ho
  have hand : xaN X r &&& L < 16 := Nat.lt_of_le_of_lt Nat.and_le_left hb2.2.2.2.2.2
  have e234 : ∀ l, run (d + 3) (20, 234, [some (.inr (.inr (17, (some 0)))), some (.inl (nI (c))), some (.inl (nI (g))), some (.inl (nI (pl))), some (.inl (nI (goal))), some (.inl (nI (been))), some (.inl (nI (n))), some (.inl (nI (sum))), some (.inl (nI (mil))), some (.inl (nI (k))), some (.inl (nI (f))), some (.inl (nI (L))), some (.inl (nI (r))), some (.inl (nI q)), none], [.inl (nI l), .inl (nI n), .inr (.inr (31, (some 0)))], wI σ 28 0 n (nI r)) = (run (d + 2) (xentry 20 [.inr (.inr (17, (some 0))), .inl (nI c), .inl (nI g), .inl (nI q), .inl (nI goal), .inl (nI (been ||| 2 ^ q)), .inl (nI (n + 1)), .inl (nI (sum + wtm k f r (xaM X r) (xaN X r))), .inl (nI (mil + xaM X r))] (wI (wI σ 28 0 n (nI r)) 31 0 n (nI l)))).bind fun q3 => run (d + 3) (20, 131, [some (.inr (.inr (17, (some 0)))), some (.inl (nI (c))), some (.inl (nI (g))), some (.inl (nI (pl))), some (.inl (nI (goal))), some (.inl (nI (been))), some (.inl (nI (n))), some (.inl (nI (sum))), some (.inl (nI (mil))), some (.inl (nI (k))), some (.inl (nI (f))), some (.inl (nI (L))), some (.inl (nI (r + 1))), none, none], [], q3.2) := by
    intro l
    have h' : ML (rI (wI (wI σ 28 0 n (nI r)) 31 0 n (nI l)) 18 0) n0 X := by
      simp (disch := omega) only [n_cl, n_lt, n_le, n_eq, n_lt0, n_0lt, n_le0, n_eq0, n_gneq, n_ngeq, n_ng0, n_nglt, n_glt, n_gle, n_ltg, n_leg, n_gg, n_ge0, n_add, n_mul, n_rem, n_shl1, n_and, n_or, n_bit, n_not, n_not', n_B1, n_B0, n_BB, obind, xite_T, xite_F, xite_not, xite_same, oI_s, oI_n, Bool.false_eq_true, reduceCtorEq, eq_self, Classical.not_not, bI_T, bI_Fa, bI_0, bI_n0, bI_x, xb_0, xb_1, xite_bI, xite_bI', not_true_eq_false, not_false_eq_true, Nat.zero_add, Nat.add_zero, Nat.mul_zero, Nat.mul_one, Nat.one_mul, reduceIte, Nat.reduceEqDiff, Nat.reduceAdd, Nat.reduceMul, Nat.reduceSub, Nat.reduceLT, Nat.reduceLeDiff, Nat.reducePow, ite_true, ite_false, if_true, if_false, and_true, true_and, false_and, and_false, or_false, false_or, true_or, or_true, ne_eq, xite_t, xite_f, w_I2, w_Is, w_In, w_IL, w_IP, w_IC, w_LI, w_LP, w_LC, w_PI, w_PL, w_PC]; exact h
    rw [B20_234]
    simp (disch := omega) only [n_cl, n_lt, n_le, n_eq, n_lt0, n_0lt, n_le0, n_eq0, n_gneq, n_ngeq, n_ng0, n_nglt, n_glt, n_gle, n_ltg, n_leg, n_gg, n_ge0, n_add, n_mul, n_rem, n_shl1, n_and, n_or, n_bit, n_not, n_not', n_B1, n_B0, n_BB, obind, xite_T, xite_F, xite_not, xite_same, oI_s, oI_n, Bool.false_eq_true, reduceCtorEq, eq_self, Classical.not_not, bI_T, bI_Fa, bI_0, bI_n0, bI_x, xb_0, xb_1, xite_bI, xite_bI', not_true_eq_false, not_false_eq_true, Nat.zero_add, Nat.add_zero, Nat.mul_zero, Nat.mul_one, Nat.one_mul, reduceIte, Nat.reduceEqDiff, Nat.reduceAdd, Nat.reduceMul, Nat.reduceSub, Nat.reduceLT, Nat.reduceLeDiff, Nat.reducePow, ite_true, ite_false, if_true, if_false, and_true, true_and, false_and, and_false, or_false, false_or, true_or, or_true, ne_eq, xite_t, xite_f, M19 _ _ h' hk hf (show r < n0 by omega), M8_2 _ _ h' (show r < n0 by omega)]
  rw [B20_169, ho]
  by_cases h5 : k = 5 ∧ r = f
  · have el : lvm k f r L = 0 := if_pos h5
    rw [if_pos h5, el, ← e234]
    simp (disch := omega) only [n_cl, n_lt, n_le, n_eq, n_lt0, n_0lt, n_le0, n_eq0, n_gneq, n_ngeq, n_ng0, n_nglt, n_glt, n_gle, n_ltg, n_leg, n_gg, n_ge0, n_add, n_mul, n_rem, n_shl1, n_and, n_or, n_bit, n_not, n_not', n_B1, n_B0, n_BB, obind, xite_T, xite_F, xite_not, xite_same, oI_s, oI_n, Bool.false_eq_true, reduceCtorEq, eq_self, Classical.not_not, bI_T, bI_Fa, bI_0, bI_n0, bI_x, xb_0, xb_1, xite_bI, xite_bI', not_true_eq_false, not_false_eq_true, Nat.zero_add, Nat.add_zero, Nat.mul_zero, Nat.mul_one, Nat.one_mul, reduceIte, Nat.reduceEqDiff, Nat.reduceAdd, Nat.reduceMul, Nat.reduceSub, Nat.reduceLT, Nat.reduceLeDiff, Nat.reducePow, ite_true, ite_false, if_true, if_false, and_true, true_and, false_and, and_false, or_false, false_or, true_or, or_true, ne_eq, xite_t, xite_f, ht, M8_3 _ _ h (show r < n0 by omega)]
  · have el : lvm k f r L = L := if_neg h5
    have h6 : xaN X r &&& L = 0 := hgo.resolve_right h5
    rw [if_neg h5, el, ← e234]
    simp (disch := omega) only [n_cl, n_lt, n_le, n_eq, n_lt0, n_0lt, n_le0, n_eq0, n_gneq, n_ngeq, n_ng0, n_nglt, n_glt, n_gle, n_ltg, n_leg, n_gg, n_ge0, n_add, n_mul, n_rem, n_shl1, n_and, n_or, n_bit, n_not, n_not', n_B1, n_B0, n_BB, obind, xite_T, xite_F, xite_not, xite_same, oI_s, oI_n, Bool.false_eq_true, reduceCtorEq, eq_self, Classical.not_not, bI_T, bI_Fa, bI_0, bI_n0, bI_x, xb_0, xb_1, xite_bI, xite_bI', not_true_eq_false, not_false_eq_true, Nat.zero_add, Nat.add_zero, Nat.mul_zero, Nat.mul_one, Nat.one_mul, reduceIte, Nat.reduceEqDiff, Nat.reduceAdd, Nat.reduceMul, Nat.reduceSub, Nat.reduceLT, Nat.reduceLeDiff, Nat.reducePow, ite_true, ite_false, if_true, if_false, and_true, true_and, false_and, and_false, or_false, false_or, true_or, or_true, ne_eq, xite_t, xite_f, ht, M8_3 _ _ h (show r < n0 by omega), h6]
theorem popf_7 : ∀ b, b < 64 → popf 6 b < 7 := by decide +kernel
theorem pOk_U {X : mX} {n : Nat} {p : Nat → Nat × Nat} {v : Nat × Nat} (h : pOk X n p) (h1 : v.1 < xaR X) (h2 : v.2 < 16) : pOk X (n + 1) (pU p n v) := by
  intro i hi
  unfold pU
  by_cases e : i = n
  · rw [if_pos e]; exact ⟨h1, h2⟩
  · rw [if_neg e]; exact h i (by omega)
theorem mT_U {σ : xS} {n r l : Nat} {p : Nat → Nat × Nat} (h : mT σ n p) : mT (wI (wI σ 28 0 n (nI r)) 31 0 n (nI l)) (n + 1) (pU p n (r, l)) := by
  intro i hi
  unfold pU
  by_cases e : i = n
  · subst e
    rw [if_pos rfl]
    simp (disch := omega) only [n_cl, n_lt, n_le, n_eq, n_lt0, n_0lt, n_le0, n_eq0, n_gneq, n_ngeq, n_ng0, n_nglt, n_glt, n_gle, n_ltg, n_leg, n_gg, n_ge0, n_add, n_mul, n_rem, n_shl1, n_and, n_or, n_bit, n_not, n_not', n_B1, n_B0, n_BB, obind, xite_T, xite_F, xite_not, xite_same, oI_s, oI_n, Bool.false_eq_true, reduceCtorEq, eq_self, Classical.not_not, bI_T, bI_Fa, bI_0, bI_n0, bI_x, xb_0, xb_1, xite_bI, xite_bI', not_true_eq_false, not_false_eq_true, Nat.zero_add, Nat.add_zero, Nat.mul_zero, Nat.mul_one, Nat.one_mul, reduceIte, Nat.reduceEqDiff, Nat.reduceAdd, Nat.reduceMul, Nat.reduceSub, Nat.reduceLT, Nat.reduceLeDiff, Nat.reducePow, ite_true, ite_false, if_true, if_false, and_true, true_and, false_and, and_false, or_false, false_or, true_or, or_true, ne_eq, xite_t, xite_f, w_I2, w_Is, w_In, w_IL, w_IP, w_IC, w_LI, w_LP, w_LC, w_PI, w_PL, w_PC]
  · have := h i (by omega)
    rw [if_neg e]
    simp (disch := omega) only [n_cl, n_lt, n_le, n_eq, n_lt0, n_0lt, n_le0, n_eq0, n_gneq, n_ngeq, n_ng0, n_nglt, n_glt, n_gle, n_ltg, n_leg, n_gg, n_ge0, n_add, n_mul, n_rem, n_shl1, n_and, n_or, n_bit, n_not, n_not', n_B1, n_B0, n_BB, obind, xite_T, xite_F, xite_not, xite_same, oI_s, oI_n, Bool.false_eq_true, reduceCtorEq, eq_self, Classical.not_not, bI_T, bI_Fa, bI_0, bI_n0, bI_x, xb_0, xb_1, xite_bI, xite_bI', not_true_eq_false, not_false_eq_true, Nat.zero_add, Nat.add_zero, Nat.mul_zero, Nat.mul_one, Nat.one_mul, reduceIte, Nat.reduceEqDiff, Nat.reduceAdd, Nat.reduceMul, Nat.reduceSub, Nat.reduceLT, Nat.reduceLeDiff, Nat.reducePow, ite_true, ite_false, if_true, if_false, and_true, true_and, false_and, and_false, or_false, false_or, true_or, or_true, ne_eq, xite_t, xite_f, w_I2, w_Is, w_In, w_IL, w_IP, w_IC, w_LI, w_LP, w_LC, w_PI, w_PL, w_PC]
    exact this
theorem mA_w {σ σ' : xS} {X : mX} {acc : mW} (h : mA σ X acc) (h1 : rI σ' 17 0 = rI σ 17 0) (h2 : rI σ' 29 0 = rI σ 29 0) (h3 : rI σ' 30 0 = rI σ 30 0) : mA σ' X acc := by
  cases acc with
  | none => unfold mA; rw [h1]; exact h
  | some t =>
    obtain ⟨w, n, p⟩ := t
    unfold mA
    rw [h1, h2, h3]
    exact h
theorem mT_w {σ σ' : xS} {n : Nat} {p : Nat → Nat × Nat} (h : mT σ n p) (h1 : rI σ' 28 0 = rI σ 28 0) (h2 : rI σ' 31 0 = rI σ 31 0) : mT σ' n p := by
  unfold mT
  rw [h1, h2]
  exact h
theorem M20 (X : mX) (n0 c k f g goal : Nat) (hn : xaR X ≤ n0) (hc : c < xaC X) (hk : xaK X c = k) (hf : xaG X c = f) (hg : g < 4) (hgo : goal < 6) :
    ∀ (m d pl been n : Nat) (p : Nat → Nat × Nat) (sum : Nat) (acc : mW) (σ : xS), m + n = 6 → ML (rI σ 18 0) n0 X → pl < 6 → been < 64 → popf 6 been = n + 1 → pOk X n p → sum ≤ 100 * n → mT σ n p → mA σ X acc →
    ∃ σ', run (d + m + 2) (xentry 20 [.inr (.inr (17, (some 0))), .inl (nI c), .inl (nI g), .inl (nI pl), .inl (nI goal), .inl (nI been), .inl (nI n), .inl (nI sum), .inl (nI (smm X p n))] σ) = some ((0, 0, none), σ') ∧ mA σ' X (tT X k f g goal m pl been n p sum acc) ∧ xF S20 σ σ' ∧ mT σ' n p := by
  intro m
  induction m with
  | zero =>
    intro d pl been n p sum acc σ hm h hpl hb hpop
    have := popf_7 been hb
    omega
  | succ m ih =>
    intro d pl been n p sum acc σ hm h hpl hb hpop hp hsum hT hA
    have hP2 := h.1.1; have hP6 := h.1.2.1; have hR9 := h.1.2.2.1; have hC6 := h.1.2.2.2.1; have hn10 := h.1.2.2.2.2.1; have hp0 := h.2.1; have hr0 := h.2.2.1; have hc0 := h.2.2.2.1
    have hX := h.1
    have hkc := hX.2.2.2.2.2.2 c hc
    rw [hk, hf] at hkc
    have hL := ldm_lt (P := xaP X) (k := k) (f := f) (been := been) hg
    have loop : ∀ (j r : Nat) (acc : mW) (σ : xS), r + j = xaR X → ML (rI σ 18 0) n0 X → mT σ n p → mA σ X acc →
        ∃ σ', run (d + m + 3) (20, 131, [some (.inr (.inr (17, (some 0)))), some (.inl (nI (c))), some (.inl (nI (g))), some (.inl (nI (pl))), some (.inl (nI (goal))), some (.inl (nI (been))), some (.inl (nI (n))), some (.inl (nI (sum))), some (.inl (nI (smm X p n))), some (.inl (nI (k))), some (.inl (nI (f))), some (.inl (nI (ldm (xaP X) k f g been))), some (.inl (nI (r))), none, none], [], σ) = some ((0, 0, none), σ') ∧ mA σ' X (fl (tR X k f g goal m pl been n p sum) j r acc) ∧ xF S20 σ σ' ∧ mT σ' n p := by
      intro j
      induction j with
      | zero =>
        intro r acc σ hr h hT hA
        have hr0 := h.2.2.1
        refine ⟨σ, ?_, hA, xF_refl σ, hT⟩
        rw [B20_131]
        simp (disch := omega) only [n_cl, n_lt, n_le, n_eq, n_lt0, n_0lt, n_le0, n_eq0, n_gneq, n_ngeq, n_ng0, n_nglt, n_glt, n_gle, n_ltg, n_leg, n_gg, n_ge0, n_add, n_mul, n_rem, n_shl1, n_and, n_or, n_bit, n_not, n_not', n_B1, n_B0, n_BB, obind, xite_T, xite_F, xite_not, xite_same, oI_s, oI_n, Bool.false_eq_true, reduceCtorEq, eq_self, Classical.not_not, bI_T, bI_Fa, bI_0, bI_n0, bI_x, xb_0, xb_1, xite_bI, xite_bI', not_true_eq_false, not_false_eq_true, Nat.zero_add, Nat.add_zero, Nat.mul_zero, Nat.mul_one, Nat.one_mul, reduceIte, Nat.reduceEqDiff, Nat.reduceAdd, Nat.reduceMul, Nat.reduceSub, Nat.reduceLT, Nat.reduceLeDiff, Nat.reducePow, ite_true, ite_false, if_true, if_false, and_true, true_and, false_and, and_false, or_false, false_or, true_or, or_true, ne_eq, xite_t, xite_f, hr0]
      | succ j ij =>
        intro r acc σ hr h hT hA
        show ∃ σ', _ ∧ mA σ' X (fl (tR X k f g goal m pl been n p sum) j (r + 1) (tR X k f g goal m pl been n p sum r acc)) ∧ _
        rw [M20a X (d + m) σ h hn (by omega) hpl hkc.1 hkc.2]
        have hs1 : (if k = 5 ∧ r = f then 1 else 0 : Nat) ≤ 1 := by split <;> omega
        have pass : ∀ (ho : oth X r pl = none ∨ ∃ q, oth X r pl = some q ∧ (been.testBit q = true ∨ (¬ xaN X r &&& ldm (xaP X) k f g been = 0 ∧ ¬ (k = 5 ∧ r = f)))), tR X k f g goal m pl been n p sum r acc = acc → ∃ σ', run (d + m + 3) (20, 169, [some (.inr (.inr (17, (some 0)))), some (.inl (nI (c))), some (.inl (nI (g))), some (.inl (nI (pl))), some (.inl (nI (goal))), some (.inl (nI (been))), some (.inl (nI (n))), some (.inl (nI (sum))), some (.inl (nI (smm X p n))), some (.inl (nI (k))), some (.inl (nI (f))), some (.inl (nI (ldm (xaP X) k f g been))), some (.inl (nI (r))), some (.inl (oI 4 (oth X r pl))), none], [.inl (nI (if k = 5 ∧ r = f then 1 else 0))], σ) = some ((0, 0, none), σ') ∧ mA σ' X (fl (tR X k f g goal m pl been n p sum) j (r + 1) (tR X k f g goal m pl been n p sum r acc)) ∧ xF S20 σ σ' ∧ mT σ' n p := by
          intro ho e
          rw [e, M20p X (d + m) σ h hn (by omega) hpl hs1 hb hL (by
            rcases ho with ho | ⟨q, ho, h1 | ⟨h1, h2⟩⟩
            · exact Or.inl ho
            · exact Or.inr ⟨q, ho, Or.inl h1⟩
            · exact Or.inr ⟨q, ho, Or.inr ⟨h1, if_neg h2⟩⟩)]
          exact ij (r + 1) acc σ (by omega) h hT hA
        cases ho : oth X r pl with
        | none =>
          have pass := pass (Or.inl ho) (by unfold tR; rw [ho])
          rw [ho] at pass
          exact pass
        | some q =>
          have hq := oth_lt hX (show r < n0 by omega) ho
          by_cases hx : been.testBit q = true ∨ (¬ xaN X r &&& ldm (xaP X) k f g been = 0 ∧ ¬ (k = 5 ∧ r = f))
          · have pass := pass (Or.inr ⟨q, ho, hx⟩) (by unfold tR; rw [ho]; exact if_pos hx)
            rw [ho] at pass
            exact pass
          · have ht : been.testBit q = false := by
              cases hq : been.testBit q with
              | true => exact absurd (Or.inl hq) hx
              | false => rfl
            have hgo2 : xaN X r &&& ldm (xaP X) k f g been = 0 ∨ (k = 5 ∧ r = f) := by
              by_cases a : xaN X r &&& ldm (xaP X) k f g been = 0
              · exact Or.inl a
              · by_cases b : k = 5 ∧ r = f
                · exact Or.inr b
                · exact absurd (Or.inr ⟨a, b⟩) hx
            have hpa := popf_add been hb q hq ht
            have h7 := popf_7 _ hpa.2
            have eR : tR X k f g goal m pl been n p sum r acc = tT X k f g goal m q (been ||| 2 ^ q) (n + 1) (pU p n (r, lvm k f r (ldm (xaP X) k f g been))) (sum + wtm k f r (xaM X r) (xaN X r)) acc := by
              unfold tR
              rw [ho]
              exact if_neg hx
            have hw := wtm_le (k := k) (f := f) hX (show r < n0 by omega)
            have esm : smm X p n + xaM X r = smm X (pU p n (r, lvm k f r (ldm (xaP X) k f g been))) (n + 1) := by
              show _ = smm X (pU p n _) n + xaM X (pU p n (r, lvm k f r (ldm (xaP X) k f g been)) n).1
              rw [smm_U n (Nat.le_refl n)]
              unfold pU
              rw [if_pos rfl]
            obtain ⟨σ1, e1, hA1, hF1, hT1⟩ := ih d q (been ||| 2 ^ q) (n + 1) (pU p n (r, lvm k f r (ldm (xaP X) k f g been))) (sum + wtm k f r (xaM X r) (xaN X r)) acc (wI (wI σ 28 0 n (nI r)) 31 0 n (nI (lvm k f r (ldm (xaP X) k f g been)))) (by omega) (by simp (disch := omega) only [n_cl, n_lt, n_le, n_eq, n_lt0, n_0lt, n_le0, n_eq0, n_gneq, n_ngeq, n_ng0, n_nglt, n_glt, n_gle, n_ltg, n_leg, n_gg, n_ge0, n_add, n_mul, n_rem, n_shl1, n_and, n_or, n_bit, n_not, n_not', n_B1, n_B0, n_BB, obind, xite_T, xite_F, xite_not, xite_same, oI_s, oI_n, Bool.false_eq_true, reduceCtorEq, eq_self, Classical.not_not, bI_T, bI_Fa, bI_0, bI_n0, bI_x, xb_0, xb_1, xite_bI, xite_bI', not_true_eq_false, not_false_eq_true, Nat.zero_add, Nat.add_zero, Nat.mul_zero, Nat.mul_one, Nat.one_mul, reduceIte, Nat.reduceEqDiff, Nat.reduceAdd, Nat.reduceMul, Nat.reduceSub, Nat.reduceLT, Nat.reduceLeDiff, Nat.reducePow, ite_true, ite_false, if_true, if_false, and_true, true_and, false_and, and_false, or_false, false_or, true_or, or_true, ne_eq, xite_t, xite_f, w_I2, w_Is, w_In, w_IL, w_IP, w_IC, w_LI, w_LP, w_LC, w_PI, w_PL, w_PC]; exact h) hq hpa.2 (by omega) (pOk_U hp (by omega) (lvm_lt hL)) (by omega) (mT_U hT) (mA_w hA (by simp (disch := omega) only [n_cl, n_lt, n_le, n_eq, n_lt0, n_0lt, n_le0, n_eq0, n_gneq, n_ngeq, n_ng0, n_nglt, n_glt, n_gle, n_ltg, n_leg, n_gg, n_ge0, n_add, n_mul, n_rem, n_shl1, n_and, n_or, n_bit, n_not, n_not', n_B1, n_B0, n_BB, obind, xite_T, xite_F, xite_not, xite_same, oI_s, oI_n, Bool.false_eq_true, reduceCtorEq, eq_self, Classical.not_not, bI_T, bI_Fa, bI_0, bI_n0, bI_x, xb_0, xb_1, xite_bI, xite_bI', not_true_eq_false, not_false_eq_true, Nat.zero_add, Nat.add_zero, Nat.mul_zero, Nat.mul_one, Nat.one_mul, reduceIte, Nat.reduceEqDiff, Nat.reduceAdd, Nat.reduceMul, Nat.reduceSub, Nat.reduceLT, Nat.reduceLeDiff, Nat.reducePow, ite_true, ite_false, if_true, if_false, and_true, true_and, false_and, and_false, or_false, false_or, true_or, or_true, ne_eq, xite_t, xite_f, w_I2, w_Is, w_In, w_IL, w_IP, w_IC, w_LI, w_LP, w_LC, w_PI, w_PL, w_PC]) (by simp (disch := omega) only [n_cl, n_lt, n_le, n_eq, n_lt0, n_0lt, n_le0, n_eq0, n_gneq, n_ngeq, n_ng0, n_nglt, n_glt, n_gle, n_ltg, n_leg, n_gg, n_ge0, n_add, n_mul, n_rem, n_shl1, n_and, n_or, n_bit, n_not, n_not', n_B1, n_B0, n_BB, obind, xite_T, xite_F, xite_not, xite_same, oI_s, oI_n, Bool.false_eq_true, reduceCtorEq, eq_self, Classical.not_not, bI_T, bI_Fa, bI_0, bI_n0, bI_x, xb_0, xb_1, xite_bI, xite_bI', not_true_eq_false, not_false_eq_true, Nat.zero_add, Nat.add_zero, Nat.mul_zero, Nat.mul_one, Nat.one_mul, reduceIte, Nat.reduceEqDiff, Nat.reduceAdd, Nat.reduceMul, Nat.reduceSub, Nat.reduceLT, Nat.reduceLeDiff, Nat.reducePow, ite_true, ite_false, if_true, if_false, and_true, true_and, false_and, and_false, or_false, false_or, true_or, or_true, ne_eq, xite_t, xite_f, w_I2, w_Is, w_In, w_IL, w_IP, w_IC, w_LI, w_LP, w_LC, w_PI, w_PL, w_PC]) (by simp (disch := omega) only [n_cl, n_lt, n_le, n_eq, n_lt0, n_0lt, n_le0, n_eq0, n_gneq, n_ngeq, n_ng0, n_nglt, n_glt, n_gle, n_ltg, n_leg, n_gg, n_ge0, n_add, n_mul, n_rem, n_shl1, n_and, n_or, n_bit, n_not, n_not', n_B1, n_B0, n_BB, obind, xite_T, xite_F, xite_not, xite_same, oI_s, oI_n, Bool.false_eq_true, reduceCtorEq, eq_self, Classical.not_not, bI_T, bI_Fa, bI_0, bI_n0, bI_x, xb_0, xb_1, xite_bI, xite_bI', not_true_eq_false, not_false_eq_true, Nat.zero_add, Nat.add_zero, Nat.mul_zero, Nat.mul_one, Nat.one_mul, reduceIte, Nat.reduceEqDiff, Nat.reduceAdd, Nat.reduceMul, Nat.reduceSub, Nat.reduceLT, Nat.reduceLeDiff, Nat.reducePow, ite_true, ite_false, if_true, if_false, and_true, true_and, false_and, and_false, or_false, false_or, true_or, or_true, ne_eq, xite_t, xite_f, w_I2, w_Is, w_In, w_IL, w_IP, w_IC, w_LI, w_LP, w_LC, w_PI, w_PL, w_PC]))
            have hF0 : xF S20 σ σ1 := xF_trans (xF_wI (xF_wI (xF_refl σ) _ (Or.inl rfl)) _ (Or.inr (Or.inr (Or.inr (Or.inl rfl))))) hF1
            have hT2 : mT σ1 n p := by
              intro i hi
              have := hT1 i (by omega)
              unfold pU at this
              rw [if_neg (by omega)] at this
              exact this
            obtain ⟨σ2, e2, hA2, hF2, hT3⟩ := ij (r + 1) _ σ1 (by omega) (by rw [xF_I hF0 (by intro k; unfold S20; omega)]; exact h) hT2 hA1
            refine ⟨σ2, ?_, by rw [eR]; exact hA2, xF_trans hF0 hF2, hT3⟩
            have e := M20g X (d + m) σ (c := c) (g := g) (goal := goal) (n := n) (sum := sum) (mil := smm X p n) h hn (by omega) hpl hb hL hkc.1 hkc.2 (by omega) ho ht hgo2
            rw [ho] at e
            rw [e, esm, e1]
            exact e2
    rw [tT_s]
    show ∃ σ', run (d + m + 2 + 1) _ = _ ∧ _
    rw [B20_0]
    by_cases hpg : pl = goal
    · rw [if_pos hpg]
      have set : ∀ (hacc : tB sum n p acc = some (sum, n, p)), ∃ σ', run (d + m + 2 + 1) (20, 44, [some (.inr (.inr (17, (some 0)))), none, none, none, none, none, some (.inl (nI n)), none, none, some (.inl (nI 0)), none, none, none, none, none], [], (wI (wI (wI σ 17 0 16 (nI sum)) 17 0 17 (nI n)) 17 0 18 (nI (smm X p n)))) = some ((0, 0, none), σ') ∧ mA σ' X (tB sum n p acc) ∧ xF S20 σ σ' ∧ mT σ' n p := by
        intro hacc
        obtain ⟨σ', e1, e2, e3⟩ := M20c X p n (by omega) (d + m + 2) n 0 (wI (wI (wI σ 17 0 16 (nI sum)) 17 0 17 (nI n)) 17 0 18 (nI (smm X p n))) (by omega) (mT_w hT (by simp (disch := omega) only [n_cl, n_lt, n_le, n_eq, n_lt0, n_0lt, n_le0, n_eq0, n_gneq, n_ngeq, n_ng0, n_nglt, n_glt, n_gle, n_ltg, n_leg, n_gg, n_ge0, n_add, n_mul, n_rem, n_shl1, n_and, n_or, n_bit, n_not, n_not', n_B1, n_B0, n_BB, obind, xite_T, xite_F, xite_not, xite_same, oI_s, oI_n, Bool.false_eq_true, reduceCtorEq, eq_self, Classical.not_not, bI_T, bI_Fa, bI_0, bI_n0, bI_x, xb_0, xb_1, xite_bI, xite_bI', not_true_eq_false, not_false_eq_true, Nat.zero_add, Nat.add_zero, Nat.mul_zero, Nat.mul_one, Nat.one_mul, reduceIte, Nat.reduceEqDiff, Nat.reduceAdd, Nat.reduceMul, Nat.reduceSub, Nat.reduceLT, Nat.reduceLeDiff, Nat.reducePow, ite_true, ite_false, if_true, if_false, and_true, true_and, false_and, and_false, or_false, false_or, true_or, or_true, ne_eq, xite_t, xite_f, w_I2, w_Is, w_In, w_IL, w_IP, w_IC, w_LI, w_LP, w_LC, w_PI, w_PL, w_PC]) (by simp (disch := omega) only [n_cl, n_lt, n_le, n_eq, n_lt0, n_0lt, n_le0, n_eq0, n_gneq, n_ngeq, n_ng0, n_nglt, n_glt, n_gle, n_ltg, n_leg, n_gg, n_ge0, n_add, n_mul, n_rem, n_shl1, n_and, n_or, n_bit, n_not, n_not', n_B1, n_B0, n_BB, obind, xite_T, xite_F, xite_not, xite_same, oI_s, oI_n, Bool.false_eq_true, reduceCtorEq, eq_self, Classical.not_not, bI_T, bI_Fa, bI_0, bI_n0, bI_x, xb_0, xb_1, xite_bI, xite_bI', not_true_eq_false, not_false_eq_true, Nat.zero_add, Nat.add_zero, Nat.mul_zero, Nat.mul_one, Nat.one_mul, reduceIte, Nat.reduceEqDiff, Nat.reduceAdd, Nat.reduceMul, Nat.reduceSub, Nat.reduceLT, Nat.reduceLeDiff, Nat.reducePow, ite_true, ite_false, if_true, if_false, and_true, true_and, false_and, and_false, or_false, false_or, true_or, or_true, ne_eq, xite_t, xite_f, w_I2, w_Is, w_In, w_IL, w_IP, w_IC, w_LI, w_LP, w_LC, w_PI, w_PL, w_PC])) (fun a ha => by omega)
        have h17 : rI σ' 17 0 = rI (wI (wI (wI σ 17 0 16 (nI sum)) 17 0 17 (nI n)) 17 0 18 (nI (smm X p n))) 17 0 := xF_I e3 (by intro k; omega)
        have h28 : rI σ' 28 0 = rI (wI (wI (wI σ 17 0 16 (nI sum)) 17 0 17 (nI n)) 17 0 18 (nI (smm X p n))) 28 0 := xF_I e3 (by intro k; omega)
        have h31 : rI σ' 31 0 = rI (wI (wI (wI σ 17 0 16 (nI sum)) 17 0 17 (nI n)) 17 0 18 (nI (smm X p n))) 31 0 := xF_I e3 (by intro k; omega)
        refine ⟨σ', e1, ?_, xF_trans (xF_wI (xF_wI (xF_wI (xF_refl σ) _ (by unfold S20; omega)) _ (by unfold S20; omega)) _ (by unfold S20; omega)) (xF_le e3 (by intro r i k; unfold S20; omega)), mT_w hT (by rw [h28]; simp (disch := omega) only [n_cl, n_lt, n_le, n_eq, n_lt0, n_0lt, n_le0, n_eq0, n_gneq, n_ngeq, n_ng0, n_nglt, n_glt, n_gle, n_ltg, n_leg, n_gg, n_ge0, n_add, n_mul, n_rem, n_shl1, n_and, n_or, n_bit, n_not, n_not', n_B1, n_B0, n_BB, obind, xite_T, xite_F, xite_not, xite_same, oI_s, oI_n, Bool.false_eq_true, reduceCtorEq, eq_self, Classical.not_not, bI_T, bI_Fa, bI_0, bI_n0, bI_x, xb_0, xb_1, xite_bI, xite_bI', not_true_eq_false, not_false_eq_true, Nat.zero_add, Nat.add_zero, Nat.mul_zero, Nat.mul_one, Nat.one_mul, reduceIte, Nat.reduceEqDiff, Nat.reduceAdd, Nat.reduceMul, Nat.reduceSub, Nat.reduceLT, Nat.reduceLeDiff, Nat.reducePow, ite_true, ite_false, if_true, if_false, and_true, true_and, false_and, and_false, or_false, false_or, true_or, or_true, ne_eq, xite_t, xite_f, w_I2, w_Is, w_In, w_IL, w_IP, w_IC, w_LI, w_LP, w_LC, w_PI, w_PL, w_PC]) (by rw [h31]; simp (disch := omega) only [n_cl, n_lt, n_le, n_eq, n_lt0, n_0lt, n_le0, n_eq0, n_gneq, n_ngeq, n_ng0, n_nglt, n_glt, n_gle, n_ltg, n_leg, n_gg, n_ge0, n_add, n_mul, n_rem, n_shl1, n_and, n_or, n_bit, n_not, n_not', n_B1, n_B0, n_BB, obind, xite_T, xite_F, xite_not, xite_same, oI_s, oI_n, Bool.false_eq_true, reduceCtorEq, eq_self, Classical.not_not, bI_T, bI_Fa, bI_0, bI_n0, bI_x, xb_0, xb_1, xite_bI, xite_bI', not_true_eq_false, not_false_eq_true, Nat.zero_add, Nat.add_zero, Nat.mul_zero, Nat.mul_one, Nat.one_mul, reduceIte, Nat.reduceEqDiff, Nat.reduceAdd, Nat.reduceMul, Nat.reduceSub, Nat.reduceLT, Nat.reduceLeDiff, Nat.reducePow, ite_true, ite_false, if_true, if_false, and_true, true_and, false_and, and_false, or_false, false_or, true_or, or_true, ne_eq, xite_t, xite_f, w_I2, w_Is, w_In, w_IL, w_IP, w_IC, w_LI, w_LP, w_LC, w_PI, w_PL, w_PC])⟩
        rw [hacc]
        unfold mA
        rw [h17]
        refine ⟨by simp (disch := omega) only [n_cl, n_lt, n_le, n_eq, n_lt0, n_0lt, n_le0, n_eq0, n_gneq, n_ngeq, n_ng0, n_nglt, n_glt, n_gle, n_ltg, n_leg, n_gg, n_ge0, n_add, n_mul, n_rem, n_shl1, n_and, n_or, n_bit, n_not, n_not', n_B1, n_B0, n_BB, obind, xite_T, xite_F, xite_not, xite_same, oI_s, oI_n, Bool.false_eq_true, reduceCtorEq, eq_self, Classical.not_not, bI_T, bI_Fa, bI_0, bI_n0, bI_x, xb_0, xb_1, xite_bI, xite_bI', not_true_eq_false, not_false_eq_true, Nat.zero_add, Nat.add_zero, Nat.mul_zero, Nat.mul_one, Nat.one_mul, reduceIte, Nat.reduceEqDiff, Nat.reduceAdd, Nat.reduceMul, Nat.reduceSub, Nat.reduceLT, Nat.reduceLeDiff, Nat.reducePow, ite_true, ite_false, if_true, if_false, and_true, true_and, false_and, and_false, or_false, false_or, true_or, or_true, ne_eq, xite_t, xite_f, w_I2, w_Is, w_In, w_IL, w_IP, w_IC, w_LI, w_LP, w_LC, w_PI, w_PL, w_PC], by simp (disch := omega) only [n_cl, n_lt, n_le, n_eq, n_lt0, n_0lt, n_le0, n_eq0, n_gneq, n_ngeq, n_ng0, n_nglt, n_glt, n_gle, n_ltg, n_leg, n_gg, n_ge0, n_add, n_mul, n_rem, n_shl1, n_and, n_or, n_bit, n_not, n_not', n_B1, n_B0, n_BB, obind, xite_T, xite_F, xite_not, xite_same, oI_s, oI_n, Bool.false_eq_true, reduceCtorEq, eq_self, Classical.not_not, bI_T, bI_Fa, bI_0, bI_n0, bI_x, xb_0, xb_1, xite_bI, xite_bI', not_true_eq_false, not_false_eq_true, Nat.zero_add, Nat.add_zero, Nat.mul_zero, Nat.mul_one, Nat.one_mul, reduceIte, Nat.reduceEqDiff, Nat.reduceAdd, Nat.reduceMul, Nat.reduceSub, Nat.reduceLT, Nat.reduceLeDiff, Nat.reducePow, ite_true, ite_false, if_true, if_false, and_true, true_and, false_and, and_false, or_false, false_or, true_or, or_true, ne_eq, xite_t, xite_f, w_I2, w_Is, w_In, w_IL, w_IP, w_IC, w_LI, w_LP, w_LC, w_PI, w_PL, w_PC], by simp (disch := omega) only [n_cl, n_lt, n_le, n_eq, n_lt0, n_0lt, n_le0, n_eq0, n_gneq, n_ngeq, n_ng0, n_nglt, n_glt, n_gle, n_ltg, n_leg, n_gg, n_ge0, n_add, n_mul, n_rem, n_shl1, n_and, n_or, n_bit, n_not, n_not', n_B1, n_B0, n_BB, obind, xite_T, xite_F, xite_not, xite_same, oI_s, oI_n, Bool.false_eq_true, reduceCtorEq, eq_self, Classical.not_not, bI_T, bI_Fa, bI_0, bI_n0, bI_x, xb_0, xb_1, xite_bI, xite_bI', not_true_eq_false, not_false_eq_true, Nat.zero_add, Nat.add_zero, Nat.mul_zero, Nat.mul_one, Nat.one_mul, reduceIte, Nat.reduceEqDiff, Nat.reduceAdd, Nat.reduceMul, Nat.reduceSub, Nat.reduceLT, Nat.reduceLeDiff, Nat.reducePow, ite_true, ite_false, if_true, if_false, and_true, true_and, false_and, and_false, or_false, false_or, true_or, or_true, ne_eq, xite_t, xite_f, w_I2, w_Is, w_In, w_IL, w_IP, w_IC, w_LI, w_LP, w_LC, w_PI, w_PL, w_PC], by omega, by omega, hp, e2⟩
      cases acc with
      | none =>
        obtain ⟨h16, _, _⟩ := id hA
        simp (disch := omega) only [n_cl, n_lt, n_le, n_eq, n_lt0, n_0lt, n_le0, n_eq0, n_gneq, n_ngeq, n_ng0, n_nglt, n_glt, n_gle, n_ltg, n_leg, n_gg, n_ge0, n_add, n_mul, n_rem, n_shl1, n_and, n_or, n_bit, n_not, n_not', n_B1, n_B0, n_BB, obind, xite_T, xite_F, xite_not, xite_same, oI_s, oI_n, Bool.false_eq_true, reduceCtorEq, eq_self, Classical.not_not, bI_T, bI_Fa, bI_0, bI_n0, bI_x, xb_0, xb_1, xite_bI, xite_bI', not_true_eq_false, not_false_eq_true, Nat.zero_add, Nat.add_zero, Nat.mul_zero, Nat.mul_one, Nat.one_mul, reduceIte, Nat.reduceEqDiff, Nat.reduceAdd, Nat.reduceMul, Nat.reduceSub, Nat.reduceLT, Nat.reduceLeDiff, Nat.reducePow, ite_true, ite_false, if_true, if_false, and_true, true_and, false_and, and_false, or_false, false_or, true_or, or_true, ne_eq, xite_t, xite_f, hpg, h16]
        exact set rfl
      | some t =>
        obtain ⟨w, n', p'⟩ := t
        obtain ⟨h16, _, _, hn', hw, _⟩ := id hA
        by_cases hle : w ≤ sum
        · have e : tB sum n p (some (w, n', p')) = some (w, n', p') := if_pos hle
          rw [e]
          refine ⟨σ, ?_, hA, xF_refl σ, hT⟩
          simp (disch := omega) only [n_cl, n_lt, n_le, n_eq, n_lt0, n_0lt, n_le0, n_eq0, n_gneq, n_ngeq, n_ng0, n_nglt, n_glt, n_gle, n_ltg, n_leg, n_gg, n_ge0, n_add, n_mul, n_rem, n_shl1, n_and, n_or, n_bit, n_not, n_not', n_B1, n_B0, n_BB, obind, xite_T, xite_F, xite_not, xite_same, oI_s, oI_n, Bool.false_eq_true, reduceCtorEq, eq_self, Classical.not_not, bI_T, bI_Fa, bI_0, bI_n0, bI_x, xb_0, xb_1, xite_bI, xite_bI', not_true_eq_false, not_false_eq_true, Nat.zero_add, Nat.add_zero, Nat.mul_zero, Nat.mul_one, Nat.one_mul, reduceIte, Nat.reduceEqDiff, Nat.reduceAdd, Nat.reduceMul, Nat.reduceSub, Nat.reduceLT, Nat.reduceLeDiff, Nat.reducePow, ite_true, ite_false, if_true, if_false, and_true, true_and, false_and, and_false, or_false, false_or, true_or, or_true, ne_eq, xite_t, xite_f, hpg, h16]
        · have set := set (if_neg hle)
          simp (disch := omega) only [n_cl, n_lt, n_le, n_eq, n_lt0, n_0lt, n_le0, n_eq0, n_gneq, n_ngeq, n_ng0, n_nglt, n_glt, n_gle, n_ltg, n_leg, n_gg, n_ge0, n_add, n_mul, n_rem, n_shl1, n_and, n_or, n_bit, n_not, n_not', n_B1, n_B0, n_BB, obind, xite_T, xite_F, xite_not, xite_same, oI_s, oI_n, Bool.false_eq_true, reduceCtorEq, eq_self, Classical.not_not, bI_T, bI_Fa, bI_0, bI_n0, bI_x, xb_0, xb_1, xite_bI, xite_bI', not_true_eq_false, not_false_eq_true, Nat.zero_add, Nat.add_zero, Nat.mul_zero, Nat.mul_one, Nat.one_mul, reduceIte, Nat.reduceEqDiff, Nat.reduceAdd, Nat.reduceMul, Nat.reduceSub, Nat.reduceLT, Nat.reduceLeDiff, Nat.reducePow, ite_true, ite_false, if_true, if_false, and_true, true_and, false_and, and_false, or_false, false_or, true_or, or_true, ne_eq, xite_t, xite_f, hpg, h16]
          exact set
    · rw [if_neg hpg]
      have e10 := M10 (d + m + 1) σ h hc
      have e11 := M11 (d + m + 1) σ h hc
      rw [hk] at e10
      rw [hf] at e11
      have e18 := M18 (d + m + 1) σ h hkc.1 hkc.2 hg hb
      by_cases h7 : k = 7 ∧ n = f
      · rw [if_pos h7]
        refine ⟨σ, ?_, hA, xF_refl σ, hT⟩
        obtain ⟨h7, h8⟩ := h7
        simp (disch := omega) only [n_cl, n_lt, n_le, n_eq, n_lt0, n_0lt, n_le0, n_eq0, n_gneq, n_ngeq, n_ng0, n_nglt, n_glt, n_gle, n_ltg, n_leg, n_gg, n_ge0, n_add, n_mul, n_rem, n_shl1, n_and, n_or, n_bit, n_not, n_not', n_B1, n_B0, n_BB, obind, xite_T, xite_F, xite_not, xite_same, oI_s, oI_n, Bool.false_eq_true, reduceCtorEq, eq_self, Classical.not_not, bI_T, bI_Fa, bI_0, bI_n0, bI_x, xb_0, xb_1, xite_bI, xite_bI', not_true_eq_false, not_false_eq_true, Nat.zero_add, Nat.add_zero, Nat.mul_zero, Nat.mul_one, Nat.one_mul, reduceIte, Nat.reduceEqDiff, Nat.reduceAdd, Nat.reduceMul, Nat.reduceSub, Nat.reduceLT, Nat.reduceLeDiff, Nat.reducePow, ite_true, ite_false, if_true, if_false, and_true, true_and, false_and, and_false, or_false, false_or, true_or, or_true, ne_eq, xite_t, xite_f, hpg, e10, e11, h7, h8]
      · rw [if_neg h7]
        obtain ⟨σ', e1, e2⟩ := loop (xaR X) 0 acc σ (by omega) h hT hA
        refine ⟨σ', ?_, e2⟩
        by_cases h8 : k = 7
        · have h9 : ¬ n = f := fun e => h7 ⟨h8, e⟩
          rw [h8] at e1 e18
          simp (disch := omega) only [n_cl, n_lt, n_le, n_eq, n_lt0, n_0lt, n_le0, n_eq0, n_gneq, n_ngeq, n_ng0, n_nglt, n_glt, n_gle, n_ltg, n_leg, n_gg, n_ge0, n_add, n_mul, n_rem, n_shl1, n_and, n_or, n_bit, n_not, n_not', n_B1, n_B0, n_BB, obind, xite_T, xite_F, xite_not, xite_same, oI_s, oI_n, Bool.false_eq_true, reduceCtorEq, eq_self, Classical.not_not, bI_T, bI_Fa, bI_0, bI_n0, bI_x, xb_0, xb_1, xite_bI, xite_bI', not_true_eq_false, not_false_eq_true, Nat.zero_add, Nat.add_zero, Nat.mul_zero, Nat.mul_one, Nat.one_mul, reduceIte, Nat.reduceEqDiff, Nat.reduceAdd, Nat.reduceMul, Nat.reduceSub, Nat.reduceLT, Nat.reduceLeDiff, Nat.reducePow, ite_true, ite_false, if_true, if_false, and_true, true_and, false_and, and_false, or_false, false_or, true_or, or_true, ne_eq, xite_t, xite_f, hpg, e10, e11, e18, h8, h9]
          exact e1
        · simp (disch := omega) only [n_cl, n_lt, n_le, n_eq, n_lt0, n_0lt, n_le0, n_eq0, n_gneq, n_ngeq, n_ng0, n_nglt, n_glt, n_gle, n_ltg, n_leg, n_gg, n_ge0, n_add, n_mul, n_rem, n_shl1, n_and, n_or, n_bit, n_not, n_not', n_B1, n_B0, n_BB, obind, xite_T, xite_F, xite_not, xite_same, oI_s, oI_n, Bool.false_eq_true, reduceCtorEq, eq_self, Classical.not_not, bI_T, bI_Fa, bI_0, bI_n0, bI_x, xb_0, xb_1, xite_bI, xite_bI', not_true_eq_false, not_false_eq_true, Nat.zero_add, Nat.add_zero, Nat.mul_zero, Nat.mul_one, Nat.one_mul, reduceIte, Nat.reduceEqDiff, Nat.reduceAdd, Nat.reduceMul, Nat.reduceSub, Nat.reduceLT, Nat.reduceLeDiff, Nat.reducePow, ite_true, ite_false, if_true, if_false, and_true, true_and, false_and, and_false, or_false, false_or, true_or, or_true, ne_eq, xite_t, xite_f, hpg, e10, e11, e18, h8]
          exact e1

/-- the way of a carrier in mind -/
def tW (X : mX) (k f g a b : Nat) : mW := tT X k f g b 6 a (2 ^ a) 0 (fun _ => (0, 0)) 0 none
theorem p2_lt : ∀ a, a < 6 → 2 ^ a < 64 ∧ popf 6 (2 ^ a) = 1 := by decide
theorem M21 (d : Nat) (σ : xS) {X : mX} {n0 c g a b : Nat} (h : ML (rI σ 18 0) n0 X) (hn : xaR X ≤ n0) (hc : c < xaC X) (hg : g < 4) (ha : a < 6) (hb : b < 6) :
    ∃ σ', run (d + 9) (xentry 21 [.inr (.inr (17, (some 0))), .inl (nI c), .inl (nI g), .inl (nI a), .inl (nI b)] σ) = some ((bI (¬ tW X (xaK X c) (xaG X c) g a b = none), 0, none), σ') ∧ mA σ' X (tW X (xaK X c) (xaG X c) g a b) ∧ xF S20 σ σ' := by
  have hp := p2_lt a ha
  obtain ⟨σ', e1, e2, e3, _⟩ := M20 X n0 c _ _ g b hn hc rfl rfl hg hb 6 d a (2 ^ a) 0 (fun _ => (0, 0)) 0 none (wI (wI (wI σ 17 0 16 (-nI 4)) 17 0 17 (-nI 4)) 17 0 18 (-nI 4)) rfl (by simp (disch := omega) only [n_cl, n_lt, n_le, n_eq, n_lt0, n_0lt, n_le0, n_eq0, n_gneq, n_ngeq, n_ng0, n_nglt, n_glt, n_gle, n_ltg, n_leg, n_gg, n_ge0, n_add, n_mul, n_rem, n_shl1, n_and, n_or, n_bit, n_not, n_not', n_B1, n_B0, n_BB, obind, xite_T, xite_F, xite_not, xite_same, oI_s, oI_n, Bool.false_eq_true, reduceCtorEq, eq_self, Classical.not_not, bI_T, bI_Fa, bI_0, bI_n0, bI_x, xb_0, xb_1, xite_bI, xite_bI', not_true_eq_false, not_false_eq_true, Nat.zero_add, Nat.add_zero, Nat.mul_zero, Nat.mul_one, Nat.one_mul, reduceIte, Nat.reduceEqDiff, Nat.reduceAdd, Nat.reduceMul, Nat.reduceSub, Nat.reduceLT, Nat.reduceLeDiff, Nat.reducePow, ite_true, ite_false, if_true, if_false, and_true, true_and, false_and, and_false, or_false, false_or, true_or, or_true, ne_eq, xite_t, xite_f, w_I2, w_Is, w_In, w_IL, w_IP, w_IC, w_LI, w_LP, w_LC, w_PI, w_PL, w_PC]; exact h) ha hp.1 hp.2 (fun i hi => by omega) (by omega) (fun i hi => by omega) ⟨by simp (disch := omega) only [n_cl, n_lt, n_le, n_eq, n_lt0, n_0lt, n_le0, n_eq0, n_gneq, n_ngeq, n_ng0, n_nglt, n_glt, n_gle, n_ltg, n_leg, n_gg, n_ge0, n_add, n_mul, n_rem, n_shl1, n_and, n_or, n_bit, n_not, n_not', n_B1, n_B0, n_BB, obind, xite_T, xite_F, xite_not, xite_same, oI_s, oI_n, Bool.false_eq_true, reduceCtorEq, eq_self, Classical.not_not, bI_T, bI_Fa, bI_0, bI_n0, bI_x, xb_0, xb_1, xite_bI, xite_bI', not_true_eq_false, not_false_eq_true, Nat.zero_add, Nat.add_zero, Nat.mul_zero, Nat.mul_one, Nat.one_mul, reduceIte, Nat.reduceEqDiff, Nat.reduceAdd, Nat.reduceMul, Nat.reduceSub, Nat.reduceLT, Nat.reduceLeDiff, Nat.reducePow, ite_true, ite_false, if_true, if_false, and_true, true_and, false_and, and_false, or_false, false_or, true_or, or_true, ne_eq, xite_t, xite_f, w_I2, w_Is, w_In, w_IL, w_IP, w_IC, w_LI, w_LP, w_LC, w_PI, w_PL, w_PC], by simp (disch := omega) only [n_cl, n_lt, n_le, n_eq, n_lt0, n_0lt, n_le0, n_eq0, n_gneq, n_ngeq, n_ng0, n_nglt, n_glt, n_gle, n_ltg, n_leg, n_gg, n_ge0, n_add, n_mul, n_rem, n_shl1, n_and, n_or, n_bit, n_not, n_not', n_B1, n_B0, n_BB, obind, xite_T, xite_F, xite_not, xite_same, oI_s, oI_n, Bool.false_eq_true, reduceCtorEq, eq_self, Classical.not_not, bI_T, bI_Fa, bI_0, bI_n0, bI_x, xb_0, xb_1, xite_bI, xite_bI', not_true_eq_false, not_false_eq_true, Nat.zero_add, Nat.add_zero, Nat.mul_zero, Nat.mul_one, Nat.one_mul, reduceIte, Nat.reduceEqDiff, Nat.reduceAdd, Nat.reduceMul, Nat.reduceSub, Nat.reduceLT, Nat.reduceLeDiff, Nat.reducePow, ite_true, ite_false, if_true, if_false, and_true, true_and, false_and, and_false, or_false, false_or, true_or, or_true, ne_eq, xite_t, xite_f, w_I2, w_Is, w_In, w_IL, w_IP, w_IC, w_LI, w_LP, w_LC, w_PI, w_PL, w_PC], by simp (disch := omega) only [n_cl, n_lt, n_le, n_eq, n_lt0, n_0lt, n_le0, n_eq0, n_gneq, n_ngeq, n_ng0, n_nglt, n_glt, n_gle, n_ltg, n_leg, n_gg, n_ge0, n_add, n_mul, n_rem, n_shl1, n_and, n_or, n_bit, n_not, n_not', n_B1, n_B0, n_BB, obind, xite_T, xite_F, xite_not, xite_same, oI_s, oI_n, Bool.false_eq_true, reduceCtorEq, eq_self, Classical.not_not, bI_T, bI_Fa, bI_0, bI_n0, bI_x, xb_0, xb_1, xite_bI, xite_bI', not_true_eq_false, not_false_eq_true, Nat.zero_add, Nat.add_zero, Nat.mul_zero, Nat.mul_one, Nat.one_mul, reduceIte, Nat.reduceEqDiff, Nat.reduceAdd, Nat.reduceMul, Nat.reduceSub, Nat.reduceLT, Nat.reduceLeDiff, Nat.reducePow, ite_true, ite_false, if_true, if_false, and_true, true_and, false_and, and_false, or_false, false_or, true_or, or_true, ne_eq, xite_t, xite_f, w_I2, w_Is, w_In, w_IL, w_IP, w_IC, w_LI, w_LP, w_LC, w_PI, w_PL, w_PC]⟩
  refine ⟨σ', ?_, e2, xF_trans (xF_wI (xF_wI (xF_wI (xF_refl σ) _ (by unfold S20; omega)) _ (by unfold S20; omega)) _ (by unfold S20; omega)) e3⟩
  rw [B21_0]
  have e1' : run (d + 8) (xentry 20 [.inr (.inr (17, (some 0))), .inl (nI c), .inl (nI g), .inl (nI a), .inl (nI b), .inl (nI (2 ^ a)), .inl (nI 0), .inl (nI 0), .inl (nI 0)] (wI (wI (wI σ 17 0 16 (-nI 4)) 17 0 17 (-nI 4)) 17 0 18 (-nI 4))) = some ((0, 0, none), σ') := e1
  simp (disch := omega) only [n_cl, n_lt, n_le, n_eq, n_lt0, n_0lt, n_le0, n_eq0, n_gneq, n_ngeq, n_ng0, n_nglt, n_glt, n_gle, n_ltg, n_leg, n_gg, n_ge0, n_add, n_mul, n_rem, n_shl1, n_and, n_or, n_bit, n_not, n_not', n_B1, n_B0, n_BB, obind, xite_T, xite_F, xite_not, xite_same, oI_s, oI_n, Bool.false_eq_true, reduceCtorEq, eq_self, Classical.not_not, bI_T, bI_Fa, bI_0, bI_n0, bI_x, xb_0, xb_1, xite_bI, xite_bI', not_true_eq_false, not_false_eq_true, Nat.zero_add, Nat.add_zero, Nat.mul_zero, Nat.mul_one, Nat.one_mul, reduceIte, Nat.reduceEqDiff, Nat.reduceAdd, Nat.reduceMul, Nat.reduceSub, Nat.reduceLT, Nat.reduceLeDiff, Nat.reducePow, ite_true, ite_false, if_true, if_false, and_true, true_and, false_and, and_false, or_false, false_or, true_or, or_true, ne_eq, e1']
  congr 3
  have e2 := id e2
  unfold tW at e2 ⊢
  revert e2
  cases tT X (xaK X c) (xaG X c) g b 6 a (2 ^ a) 0 (fun _ => (0, 0)) 0 none with
  | none =>
    intro e2
    rw [e2.1, bI_f (by simp (disch := omega) only [n_cl, n_lt, n_le, n_eq, n_lt0, n_0lt, n_le0, n_eq0, n_gneq, n_ngeq, n_ng0, n_nglt, n_glt, n_gle, n_ltg, n_leg, n_gg, n_ge0, n_add, n_mul, n_rem, n_shl1, n_and, n_or, n_bit, n_not, n_not', n_B1, n_B0, n_BB, obind, xite_T, xite_F, xite_not, xite_same, oI_s, oI_n, Bool.false_eq_true, reduceCtorEq, eq_self, Classical.not_not, bI_T, bI_Fa, bI_0, bI_n0, bI_x, xb_0, xb_1, xite_bI, xite_bI', not_true_eq_false, not_false_eq_true, Nat.zero_add, Nat.add_zero, Nat.mul_zero, Nat.mul_one, Nat.one_mul, reduceIte, Nat.reduceEqDiff, Nat.reduceAdd, Nat.reduceMul, Nat.reduceSub, Nat.reduceLT, Nat.reduceLeDiff, Nat.reducePow, ite_true, ite_false, if_true, if_false, and_true, true_and, false_and, and_false, or_false, false_or, true_or, or_true, ne_eq, xite_t, xite_f, ]), bI_f (by simp)]
  | some t =>
    obtain ⟨w, n, p⟩ := t
    intro e2
    have hw := e2.2.2.2.2.1
    have hn := e2.2.2.2.1
    rw [e2.1, bI_t (by simp (disch := omega) only [n_cl, n_lt, n_le, n_eq, n_lt0, n_0lt, n_le0, n_eq0, n_gneq, n_ngeq, n_ng0, n_nglt, n_glt, n_gle, n_ltg, n_leg, n_gg, n_ge0, n_add, n_mul, n_rem, n_shl1, n_and, n_or, n_bit, n_not, n_not', n_B1, n_B0, n_BB, obind, xite_T, xite_F, xite_not, xite_same, oI_s, oI_n, Bool.false_eq_true, reduceCtorEq, eq_self, Classical.not_not, bI_T, bI_Fa, bI_0, bI_n0, bI_x, xb_0, xb_1, xite_bI, xite_bI', not_true_eq_false, not_false_eq_true, Nat.zero_add, Nat.add_zero, Nat.mul_zero, Nat.mul_one, Nat.one_mul, reduceIte, Nat.reduceEqDiff, Nat.reduceAdd, Nat.reduceMul, Nat.reduceSub, Nat.reduceLT, Nat.reduceLeDiff, Nat.reducePow, ite_true, ite_false, if_true, if_false, and_true, true_and, false_and, and_false, or_false, false_or, true_or, or_true, ne_eq, xite_t, xite_f, ]), bI_t (by simp)]
/-- a land after one has gone a way -/
def gN (nk : Nat → Nat) (p : Nat → Nat × Nat) : Nat → Nat → Nat
  | 0 => nk
  | n + 1 => fun r => if r = (p n).1 then gN nk p n r ||| (p n).2 else gN nk p n r
def gX (X : mX) : mW → mX
  | none => X
  | some (_, n, p) => (X.1, (xaF X, xaT X, xaM X, gN (xaN X) p n), X.2.2)
theorem gN_lt {nk : Nat → Nat} {R : Nat} {p : Nat → Nat × Nat} : ∀ n, (∀ r, r < R → nk r < 16) → (∀ i, i < n → (p i).2 < 16) → ∀ r, r < R → gN nk p n r < 16 := by
  intro n
  induction n with
  | zero => intro h _; exact h
  | succ n ih =>
    intro h hp r hr
    have a := ih h (fun i hi => hp i (by omega)) r hr
    show (if r = (p n).1 then gN nk p n r ||| (p n).2 else gN nk p n r) < 16
    split
    · exact Nat.or_lt_two_pow (n := 4) a (hp n (by omega))
    · exact a
theorem gX_W {X : mX} {n0 n : Nat} {p : Nat → Nat × Nat} {w : Nat} (h : WX n0 X) (hp : pOk X n p) : WX n0 (gX X (some (w, n, p))) :=
  ⟨h.1, h.2.1, h.2.2.1, h.2.2.2.1, h.2.2.2.2.1, fun r hr => ⟨(h.2.2.2.2.2.1 r hr).1, (h.2.2.2.2.2.1 r hr).2.1, (h.2.2.2.2.2.1 r hr).2.2.1, (h.2.2.2.2.2.1 r hr).2.2.2.1, (h.2.2.2.2.2.1 r hr).2.2.2.2.1, gN_lt n (fun r hr => (h.2.2.2.2.2.1 r hr).2.2.2.2.2) (fun i hi => (hp i hi).2) r hr⟩, h.2.2.2.2.2.2⟩
def SM (r _ _ : Nat) : Prop := r = 18
theorem ML_N {f : Nat → Int32} {n r v : Nat} {X : mX} {N' : Nat → Nat} (h : ML f n X) (hr : r < n) (hv : v < 16) (hN : ∀ r', N' r' = if r' = r then v else xaN X r') : ML (fun k => if k = 3 + 4 * r + 3 then nI v else f k) n (X.1, (xaF X, xaT X, xaM X, N'), X.2.2) := by
  obtain ⟨hX, h0, h1, h2, h3, h4⟩ := h
  have hn := hX.2.2.2.2.1
  refine ⟨⟨hX.1, hX.2.1, hX.2.2.1, hX.2.2.2.1, hX.2.2.2.2.1, ?_, hX.2.2.2.2.2.2⟩, ?_, ?_, ?_, ?_, ?_⟩
  · intro r' hr'
    have a := hX.2.2.2.2.2.1 r' hr'
    refine ⟨a.1, a.2.1, a.2.2.1, a.2.2.2.1, a.2.2.2.2.1, ?_⟩
    show N' r' < 16
    rw [hN]
    split
    · exact hv
    · exact a.2.2.2.2.2
  · show (if 0 = 3 + 4 * r + 3 then nI v else f 0) = _
    rw [if_neg (by omega)]; exact h0
  · show (if 1 = 3 + 4 * r + 3 then nI v else f 1) = _
    rw [if_neg (by omega)]; exact h1
  · show (if 2 = 3 + 4 * r + 3 then nI v else f 2) = _
    rw [if_neg (by omega)]; exact h2
  · intro r' hr'
    have a := h3 r' hr'
    refine ⟨?_, ?_, ?_, ?_⟩
    · show (if 3 + 4 * r' = 3 + 4 * r + 3 then nI v else f (3 + 4 * r')) = _
      rw [if_neg (by omega)]; exact a.1
    · show (if 3 + 4 * r' + 1 = 3 + 4 * r + 3 then nI v else f (3 + 4 * r' + 1)) = _
      rw [if_neg (by omega)]; exact a.2.1
    · show (if 3 + 4 * r' + 2 = 3 + 4 * r + 3 then nI v else f (3 + 4 * r' + 2)) = _
      rw [if_neg (by omega)]; exact a.2.2.1
    · show (if 3 + 4 * r' + 3 = 3 + 4 * r + 3 then nI v else f (3 + 4 * r' + 3)) = nI (N' r')
      rw [hN]
      by_cases e : r' = r
      · rw [if_pos (by omega), if_pos e]
      · rw [if_neg (by omega), if_neg e]; exact a.2.2.2
  · intro c hc
    have a := h4 c hc
    refine ⟨?_, ?_⟩
    · show (if 43 + 2 * c = 3 + 4 * r + 3 then nI v else f (43 + 2 * c)) = _
      rw [if_neg (by omega)]; exact a.1
    · show (if 43 + 2 * c + 1 = 3 + 4 * r + 3 then nI v else f (43 + 2 * c + 1)) = _
      rw [if_neg (by omega)]; exact a.2
theorem M22i (d : Nat) (X : mX) (n0 w n : Nat) (p : Nat → Nat × Nat) (hn : xaR X ≤ n0) (hp : pOk X n p) (hn6 : n ≤ 6) : ∀ (j i : Nat) (σ : xS), i + j = n → ML (rI σ 18 0) n0 (gX X (some (w, i, p))) → rI σ 17 0 17 = nI n → (∀ i, i < n → rI σ 29 0 i = nI (p i).1 ∧ rI σ 30 0 i = nI (p i).2) →
    ∃ σ', run (d + 2) (22, 17, [some (.inr (.inr (17, (some 0)))), none, none, none, none, some (.inl (nI (i)))], [], σ) = some ((nI 1, 0, none), σ') ∧ ML (rI σ' 18 0) n0 (gX X (some (w, n, p))) ∧ xF SM σ σ' := by
  intro j
  induction j with
  | zero =>
    intro i σ hi h h17 hA
    have e : i = n := by omega
    subst e
    refine ⟨σ, ?_, h, xF_refl σ⟩
    rw [B22_17]
    simp (disch := omega) only [n_cl, n_lt, n_le, n_eq, n_lt0, n_0lt, n_le0, n_eq0, n_gneq, n_ngeq, n_ng0, n_nglt, n_glt, n_gle, n_ltg, n_leg, n_gg, n_ge0, n_add, n_mul, n_rem, n_shl1, n_and, n_or, n_bit, n_not, n_not', n_B1, n_B0, n_BB, obind, xite_T, xite_F, xite_not, xite_same, oI_s, oI_n, Bool.false_eq_true, reduceCtorEq, eq_self, Classical.not_not, bI_T, bI_Fa, bI_0, bI_n0, bI_x, xb_0, xb_1, xite_bI, xite_bI', not_true_eq_false, not_false_eq_true, Nat.zero_add, Nat.add_zero, Nat.mul_zero, Nat.mul_one, Nat.one_mul, reduceIte, Nat.reduceEqDiff, Nat.reduceAdd, Nat.reduceMul, Nat.reduceSub, Nat.reduceLT, Nat.reduceLeDiff, Nat.reducePow, ite_true, ite_false, if_true, if_false, and_true, true_and, false_and, and_false, or_false, false_or, true_or, or_true, ne_eq, xite_t, xite_f, h17]
  | succ j ih =>
    intro i σ hi h h17 hA
    have ha := hA i (by omega)
    have hb := hp i (by omega)
    have hn10 := h.1.2.2.2.2.1
    have hr : (p i).1 < n0 := by omega
    have hv : xaN (gX X (some (w, i, p))) (p i).1 ||| (p i).2 < 16 := Nat.or_lt_two_pow (n := 4) (h.1.2.2.2.2.2.1 _ hr).2.2.2.2.2 hb.2
    obtain ⟨σ', e1, e2, e3⟩ := ih (i + 1) (wI σ 18 0 (3 + 4 * (p i).1 + 3) (nI (xaN (gX X (some (w, i, p))) (p i).1 ||| (p i).2))) (by omega) (by
      rw [w_I1]
      refine ML_N (X := gX X (some (w, i, p))) (N' := gN (xaN X) p (i + 1)) h hr hv ?_
      intro r'
      show (if r' = (p i).1 then gN (xaN X) p i r' ||| (p i).2 else gN (xaN X) p i r') = _
      by_cases e : r' = (p i).1
      · rw [if_pos e, if_pos e, e]; rfl
      · rw [if_neg e, if_neg e]; rfl) (by simp (disch := omega) only [n_cl, n_lt, n_le, n_eq, n_lt0, n_0lt, n_le0, n_eq0, n_gneq, n_ngeq, n_ng0, n_nglt, n_glt, n_gle, n_ltg, n_leg, n_gg, n_ge0, n_add, n_mul, n_rem, n_shl1, n_and, n_or, n_bit, n_not, n_not', n_B1, n_B0, n_BB, obind, xite_T, xite_F, xite_not, xite_same, oI_s, oI_n, Bool.false_eq_true, reduceCtorEq, eq_self, Classical.not_not, bI_T, bI_Fa, bI_0, bI_n0, bI_x, xb_0, xb_1, xite_bI, xite_bI', not_true_eq_false, not_false_eq_true, Nat.zero_add, Nat.add_zero, Nat.mul_zero, Nat.mul_one, Nat.one_mul, reduceIte, Nat.reduceEqDiff, Nat.reduceAdd, Nat.reduceMul, Nat.reduceSub, Nat.reduceLT, Nat.reduceLeDiff, Nat.reducePow, ite_true, ite_false, if_true, if_false, and_true, true_and, false_and, and_false, or_false, false_or, true_or, or_true, ne_eq, xite_t, xite_f, w_I2, w_Is, w_In, w_IL, w_IP, w_IC, w_LI, w_LP, w_LC, w_PI, w_PL, w_PC]; exact h17) (fun i hi => by simp (disch := omega) only [n_cl, n_lt, n_le, n_eq, n_lt0, n_0lt, n_le0, n_eq0, n_gneq, n_ngeq, n_ng0, n_nglt, n_glt, n_gle, n_ltg, n_leg, n_gg, n_ge0, n_add, n_mul, n_rem, n_shl1, n_and, n_or, n_bit, n_not, n_not', n_B1, n_B0, n_BB, obind, xite_T, xite_F, xite_not, xite_same, oI_s, oI_n, Bool.false_eq_true, reduceCtorEq, eq_self, Classical.not_not, bI_T, bI_Fa, bI_0, bI_n0, bI_x, xb_0, xb_1, xite_bI, xite_bI', not_true_eq_false, not_false_eq_true, Nat.zero_add, Nat.add_zero, Nat.mul_zero, Nat.mul_one, Nat.one_mul, reduceIte, Nat.reduceEqDiff, Nat.reduceAdd, Nat.reduceMul, Nat.reduceSub, Nat.reduceLT, Nat.reduceLeDiff, Nat.reducePow, ite_true, ite_false, if_true, if_false, and_true, true_and, false_and, and_false, or_false, false_or, true_or, or_true, ne_eq, xite_t, xite_f, w_I2, w_Is, w_In, w_IL, w_IP, w_IC, w_LI, w_LP, w_LC, w_PI, w_PL, w_PC]; exact hA i hi)
    refine ⟨σ', ?_, e2, xF_trans (xF_wI (xF_refl σ) _ rfl) e3⟩
    rw [B22_17]
    simp (disch := omega) only [n_cl, n_lt, n_le, n_eq, n_lt0, n_0lt, n_le0, n_eq0, n_gneq, n_ngeq, n_ng0, n_nglt, n_glt, n_gle, n_ltg, n_leg, n_gg, n_ge0, n_add, n_mul, n_rem, n_shl1, n_and, n_or, n_bit, n_not, n_not', n_B1, n_B0, n_BB, obind, xite_T, xite_F, xite_not, xite_same, oI_s, oI_n, Bool.false_eq_true, reduceCtorEq, eq_self, Classical.not_not, bI_T, bI_Fa, bI_0, bI_n0, bI_x, xb_0, xb_1, xite_bI, xite_bI', not_true_eq_false, not_false_eq_true, Nat.zero_add, Nat.add_zero, Nat.mul_zero, Nat.mul_one, Nat.one_mul, reduceIte, Nat.reduceEqDiff, Nat.reduceAdd, Nat.reduceMul, Nat.reduceSub, Nat.reduceLT, Nat.reduceLeDiff, Nat.reducePow, ite_true, ite_false, if_true, if_false, and_true, true_and, false_and, and_false, or_false, false_or, true_or, or_true, ne_eq, xite_t, xite_f, h17, ha.1, ha.2, M8_3 _ _ h hr, M9, w_I2, w_Is, w_In, w_IL, w_IP, w_IC, w_LI, w_LP, w_LC, w_PI, w_PL, w_PC]
    exact e1
/-- going: what the way tells, the nicks it leaves -/
theorem M22 (d : Nat) (σ : xS) {X : mX} {n0 c g a b : Nat} (h : ML (rI σ 18 0) n0 X) (hn : xaR X ≤ n0) (hc : c < xaC X) (hg : g < 4) (ha : a < 6) (hb : b < 6) :
    ∃ σ', run (d + 10) (xentry 22 [.inr (.inr (17, (some 0))), .inl (nI c), .inl (nI g), .inl (nI a), .inl (nI b)] σ) = some ((bI (¬ tW X (xaK X c) (xaG X c) g a b = none), 0, none), σ') ∧ mA σ' X (tW X (xaK X c) (xaG X c) g a b) ∧ ML (rI σ' 18 0) n0 (gX X (tW X (xaK X c) (xaG X c) g a b)) ∧ xF (fun r i k => S20 r i k ∨ SM r i k) σ σ' := by
  obtain ⟨σ1, e1, e2, e3⟩ := M21 d σ h hn hc hg ha hb
  have h1 : ML (rI σ1 18 0) n0 X := by rw [xF_I e3 (by intro k; unfold S20; omega)]; exact h
  rw [B22_0, e1]
  simp (disch := omega) only [n_cl, n_lt, n_le, n_eq, n_lt0, n_0lt, n_le0, n_eq0, n_gneq, n_ngeq, n_ng0, n_nglt, n_glt, n_gle, n_ltg, n_leg, n_gg, n_ge0, n_add, n_mul, n_rem, n_shl1, n_and, n_or, n_bit, n_not, n_not', n_B1, n_B0, n_BB, obind, xite_T, xite_F, xite_not, xite_same, oI_s, oI_n, Bool.false_eq_true, reduceCtorEq, eq_self, Classical.not_not, bI_T, bI_Fa, bI_0, bI_n0, bI_x, xb_0, xb_1, xite_bI, xite_bI', not_true_eq_false, not_false_eq_true, Nat.zero_add, Nat.add_zero, Nat.mul_zero, Nat.mul_one, Nat.one_mul, reduceIte, Nat.reduceEqDiff, Nat.reduceAdd, Nat.reduceMul, Nat.reduceSub, Nat.reduceLT, Nat.reduceLeDiff, Nat.reducePow, ite_true, ite_false, if_true, if_false, and_true, true_and, false_and, and_false, or_false, false_or, true_or, or_true, ne_eq, ]
  revert e2
  cases tW X (xaK X c) (xaG X c) g a b with
  | none =>
    intro e2
    refine ⟨σ1, ?_, e2, h1, xF_le e3 (fun _ _ _ s => Or.inl s)⟩
    rw [xite_t rfl, bI_f (by simp)]
  | some t =>
    obtain ⟨w, n, p⟩ := t
    intro e2
    obtain ⟨a1, a2, a3, a4, a5, a6, a7⟩ := id e2
    obtain ⟨σ2, f1, f2, f3⟩ := M22i (d + 8) X n0 w n p hn a6 a4 n 0 σ1 (by omega) h1 a2 a7
    refine ⟨σ2, ?_, mA_w e2 (xF_I f3 (by intro k; unfold SM; omega)) (xF_I f3 (by intro k; unfold SM; omega)) (xF_I f3 (by intro k; unfold SM; omega)), f2, xF_trans (xF_le e3 (fun _ _ _ s => Or.inl s)) (xF_le f3 (fun _ _ _ s => Or.inr s))⟩
    rw [xite_f (by simp), bI_t (by simp)]
    exact f1
