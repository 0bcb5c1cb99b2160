/-! IN MIND: OFTEN, SEEDED -/
theorem tT_ok {X : mX} {k f g goal : Nat} (hg : g < 4) : ∀ (m pl been n : Nat) (p : Nat → Nat × Nat) (sum : Nat) (acc : mW), m + n = 6 → pOk X n p → (∀ w n p, acc = some (w, n, p) → n ≤ 6 ∧ pOk X n p) → ∀ w n' p', tT X k f g goal m pl been n p sum acc = some (w, n', p') → n' ≤ 6 ∧ pOk X n' p' := by
  intro m
  induction m with
  | zero => intro pl been n p sum acc _ _ h; exact h
  | succ m ih =>
    intro pl been n p sum acc hm hp h
    rw [tT_s]
    by_cases h1 : pl = goal
    · rw [if_pos h1]
      cases acc with
      | none => intro w n' p' e; cases e; exact ⟨by omega, hp⟩
      | some t =>
        obtain ⟨w0, n0, p0⟩ := t
        intro w n' p' e
        have e : (if w0 ≤ sum then some (w0, n0, p0) else some (sum, n, p)) = some (w, n', p') := e
        by_cases hle : w0 ≤ sum
        · rw [if_pos hle] at e; exact h w n' p' e
        · rw [if_neg hle] at e; cases e; exact ⟨by omega, hp⟩
    · rw [if_neg h1]
      by_cases h2 : k = 7 ∧ n = f
      · rw [if_pos h2]; exact h
      · rw [if_neg h2]
        refine fl_invR (I := fun acc => ∀ w n p, acc = some (w, n, p) → n ≤ 6 ∧ pOk X n p) (xaR X) 0 acc (fun r acc _ hr h => ?_) h
        unfold tR
        cases oth X r pl with
        | none => exact h
        | some q =>
          show ∀ w n' p', (if been.testBit q = true ∨ (¬ xaN X r &&& ldm (xaP X) k f g been = 0 ∧ ¬ (k = 5 ∧ r = f)) then acc else tT X k f g goal m q (been ||| 2 ^ q) (n + 1) (pU p n (r, lvm k f r (ldm (xaP X) k f g been))) (sum + wtm k f r (xaM X r) (xaN X r)) acc) = some (w, n', p') → _
          split
          · exact h
          · exact ih q _ (n + 1) _ _ acc (by omega) (pOk_U hp (by omega) (lvm_lt (ldm_lt hg))) h
theorem tW_ok {X : mX} {k f g a b w n : Nat} {p : Nat → Nat × Nat} (hg : g < 4) (h : tW X k f g a b = some (w, n, p)) : n ≤ 6 ∧ pOk X n p :=
  tT_ok hg 6 a (2 ^ a) 0 _ 0 none rfl (fun i hi => by omega) (fun w n p e => by cases e) w n p h
theorem tW_mil {X : mX} {k f g a b w n : Nat} {p : Nat → Nat × Nat} (hX : WX (xaR X) X) (hg : g < 4) (h : tW X k f g a b = some (w, n, p)) : smm X p n ≤ 54 := by
  have := tW_ok hg h
  have := smm_le hX (Nat.le_refl _) n this.2
  omega
theorem mW_n {X : mX} {k f g a b : Nat} (hX : WX (xaR X) X) (hg : g < 4) : (mW_I X (tW X k f g a b) = -nI 4) = (tW X k f g a b = none) := by
  cases h : tW X k f g a b with
  | none => show (-nI 4 = -nI 4) = _; simp
  | some t =>
    obtain ⟨w, n, p⟩ := t
    have := tW_mil hX hg h
    show (nI (smm X p n) = -nI 4) = _
    rw [n_gneq (by omega) (by omega) (by omega)]
    simp
theorem M13 (d : Nat) (σ : xS) {n : Nat} {X : mX} (h : ML (rI σ 18 0) n X) : ∃ σ', run (d + 2) (xentry 13 [.inr (.inr (17, (some 0)))] σ) = some ((0, 0, none), σ') ∧ ML (rI σ' 18 0) n X ∧ ML (rI σ' 21 0) n X ∧ xF (fun r _ _ => r = 21) σ σ' := by
  obtain ⟨σ', f1, f2, f3⟩ := M12_18_21 d σ
  refine ⟨σ', ?_, by rw [xF_I f3 (fun k => by omega)]; exact h, ML_cp h f2, f3⟩
  rw [B13_0, f1]
  simp (disch := omega) only [n_cl, n_lt, n_le, n_eq, n_lt0, n_0lt, n_le0, n_eq0, n_gneq, n_ngeq, n_ng0, n_nglt, n_glt, n_gle, n_ltg, n_leg, n_gg, n_ge0, n_add, n_mul, n_rem, n_shl1, n_and, n_or, n_bit, n_not, n_not', n_B1, n_B0, n_BB, obind, xite_T, xite_F, xite_not, xite_same, oI_s, oI_n, Bool.false_eq_true, reduceCtorEq, eq_self, Classical.not_not, bI_T, bI_Fa, bI_0, bI_n0, bI_x, xb_0, xb_1, xite_bI, xite_bI', not_true_eq_false, not_false_eq_true, Nat.zero_add, Nat.add_zero, Nat.mul_zero, Nat.mul_one, Nat.one_mul, reduceIte, Nat.reduceEqDiff, Nat.reduceAdd, Nat.reduceMul, Nat.reduceSub, Nat.reduceLT, Nat.reduceLeDiff, Nat.reducePow, ite_true, ite_false, if_true, if_false, and_true, true_and, false_and, and_false, or_false, false_or, true_or, or_true, ne_eq, ]
theorem M14 (d : Nat) (σ : xS) {n : Nat} {X : mX} (h : ML (rI σ 21 0) n X) : ∃ σ', run (d + 2) (xentry 14 [.inr (.inr (17, (some 0)))] σ) = some ((0, 0, none), σ') ∧ ML (rI σ' 18 0) n X ∧ xF SM σ σ' := by
  obtain ⟨σ', f1, f2, f3⟩ := M12_21_18 d σ
  refine ⟨σ', ?_, ML_cp h f2, f3⟩
  rw [B14_0, f1]
  simp (disch := omega) only [n_cl, n_lt, n_le, n_eq, n_lt0, n_0lt, n_le0, n_eq0, n_gneq, n_ngeq, n_ng0, n_nglt, n_glt, n_gle, n_ltg, n_leg, n_gg, n_ge0, n_add, n_mul, n_rem, n_shl1, n_and, n_or, n_bit, n_not, n_not', n_B1, n_B0, n_BB, obind, xite_T, xite_F, xite_not, xite_same, oI_s, oI_n, Bool.false_eq_true, reduceCtorEq, eq_self, Classical.not_not, bI_T, bI_Fa, bI_0, bI_n0, bI_x, xb_0, xb_1, xite_bI, xite_bI', not_true_eq_false, not_false_eq_true, Nat.zero_add, Nat.add_zero, Nat.mul_zero, Nat.mul_one, Nat.one_mul, reduceIte, Nat.reduceEqDiff, Nat.reduceAdd, Nat.reduceMul, Nat.reduceSub, Nat.reduceLT, Nat.reduceLeDiff, Nat.reducePow, ite_true, ite_false, if_true, if_false, and_true, true_and, false_and, and_false, or_false, false_or, true_or, or_true, ne_eq, ]
theorem SG_X (r j k : Nat) (h : S20 r j k ∨ SM r j k) : SmX r j k := by unfold S20 SM at h; unfold SmX; omega
theorem SM_X (r j k : Nat) (h : SM r j k) : SmX r j k := by unfold SM at h; unfold SmX; omega
theorem S21_X (r j k : Nat) (h : r = 21) : SmX r j k := by unfold SmX; omega
/-- one carriage more in mind -/
def goX (X : mX) (c g a b : Nat) : mX := gX X (tW X (xaK X c) (xaG X c) g a b)
theorem goX_P {X : mX} {c g a b : Nat} : xaP (goX X c g a b) = xaP X ∧ xaR (goX X c g a b) = xaR X ∧ xaC (goX X c g a b) = xaC X ∧ xaK (goX X c g a b) = xaK X ∧ xaG (goX X c g a b) = xaG X := by
  unfold goX
  cases tW X (xaK X c) (xaG X c) g a b with
  | none => exact ⟨rfl, rfl, rfl, rfl, rfl⟩
  | some t => exact ⟨rfl, rfl, rfl, rfl, rfl⟩
def oft (c g a b : Nat) : Nat → Nat → mX → Nat
  | 0, n, _ => n
  | m + 1, n, X => match tW X (xaK X c) (xaG X c) g a b with
    | none => n
    | some _ => oft c g a b m (n + 1) (goX X c g a b)
def Smi (r j k : Nat) : Prop := r = 8 ∨ r = 9 ∨ r = 10 ∨ ((r = 1 ∨ r = 2 ∨ r = 3 ∨ r = 4 ∨ r = 5) ∧ j = 1) ∨ (r = 0 ∧ k = 8)
theorem Smi_S (r j k : Nat) (h : Smi r j k) : Scr r j k := by unfold Smi at h; unfold Scr; omega
theorem S174_m (r j k : Nat) (h : S174 1 r j k) : Smi r j k := by unfold S174 at h; unfold Smi; omega
theorem Sld_m (r j k : Nat) (h : Sld 1 r j k) : Smi r j k := by unfold Sld at h; unfold Smi; omega
theorem duo_often (d : Nat) (S : mG) (hX : WX (xaR S.1) S.1) (c g a b : Int32) : Duo (d + 60) (fun σ => xentry 153 [.inr (.inr (0, (some 0))), .inl c, .inl g, .inl a, .inl b] σ) (fun σ => xentry 53 [.inr (.inr (17, (some 0))), .inl c, .inl g, .inl a, .inl b] σ) S := by
  by_cases h1 : asked S.1 c g a b
  · obtain ⟨c', g', a', b', e1, e2, e3, e4, hc, hg, ha, hb, hab⟩ := asked_of hX h1
    subst e1 e2 e3 e4
    have lc : ∀ m n (X : mX) σ, n + m = 9 → xaC X = xaC S.1 → CL σ 1 X → ∃ σ', run (d + 60) (153, 31, [some (.inr (.inr (0, (some 0)))), some (.inl (nI (c'))), some (.inl (nI (g'))), some (.inl (nI (a'))), some (.inl (nI (b'))), some (.inl (nI (n)))], [], σ) = some ((nI (oft c' g' a' b' m n X), 0, none), σ') ∧ xF Smi σ σ' := by
      intro m
      induction m with
      | zero =>
        intro n X σ hn _ h
        have e : n = 9 := by omega
        subst e
        refine ⟨σ, ?_, xF_refl σ⟩
        rw [B153_31]
        simp (disch := omega) only [n_cl, n_lt, n_le, n_eq, n_lt0, n_0lt, n_le0, n_eq0, n_gneq, n_ngeq, n_ng0, n_nglt, n_glt, n_gle, n_ltg, n_leg, n_gg, n_ge0, n_add, n_mul, n_rem, n_shl1, n_and, n_or, n_bit, n_not, n_not', n_B1, n_B0, n_BB, obind, xite_T, xite_F, xite_not, xite_same, oI_s, oI_n, Bool.false_eq_true, reduceCtorEq, eq_self, Classical.not_not, bI_T, bI_Fa, bI_0, bI_n0, bI_x, xb_0, xb_1, xite_bI, xite_bI', not_true_eq_false, not_false_eq_true, Nat.zero_add, Nat.add_zero, Nat.mul_zero, Nat.mul_one, Nat.one_mul, reduceIte, Nat.reduceEqDiff, Nat.reduceAdd, Nat.reduceMul, Nat.reduceSub, Nat.reduceLT, Nat.reduceLeDiff, Nat.reducePow, ite_true, ite_false, if_true, if_false, and_true, true_and, false_and, and_false, or_false, false_or, true_or, or_true, ne_eq, xite_t, xite_f, ]
        rfl
      | succ m ih =>
        intro n X σ hn hC h
        obtain ⟨σ1, f1, f2, f3⟩ := C174 (d + 49) σ h (show c' < xaC X by omega) hg ha hb hab
        have hn4 := mW_n (X := X) (k := xaK X c') (f := xaG X c') (a := a') (b := b') h.1 hg
        rw [B153_31]
        simp (disch := omega) only [n_cl, n_lt, n_le, n_eq, n_lt0, n_0lt, n_le0, n_eq0, n_gneq, n_ngeq, n_ng0, n_nglt, n_glt, n_gle, n_ltg, n_leg, n_gg, n_ge0, n_add, n_mul, n_rem, n_shl1, n_and, n_or, n_bit, n_not, n_not', n_B1, n_B0, n_BB, obind, xite_T, xite_F, xite_not, xite_same, oI_s, oI_n, Bool.false_eq_true, reduceCtorEq, eq_self, Classical.not_not, bI_T, bI_Fa, bI_0, bI_n0, bI_x, xb_0, xb_1, xite_bI, xite_bI', not_true_eq_false, not_false_eq_true, Nat.zero_add, Nat.add_zero, Nat.mul_zero, Nat.mul_one, Nat.one_mul, reduceIte, Nat.reduceEqDiff, Nat.reduceAdd, Nat.reduceMul, Nat.reduceSub, Nat.reduceLT, Nat.reduceLeDiff, Nat.reducePow, ite_true, ite_false, if_true, if_false, and_true, true_and, false_and, and_false, or_false, false_or, true_or, or_true, ne_eq, xite_t, xite_f, f1, hn4]
        show ∃ σ', _ = some ((nI (match tW X (xaK X c') (xaG X c') g' a' b' with
          | none => n
          | some _ => oft c' g' a' b' m (n + 1) (goX X c' g' a' b')), 0, none), σ') ∧ _
        cases hT : tW X (xaK X c') (xaG X c') g' a' b' with
        | none => exact ⟨σ1, xite_t rfl, xF_le f3 S174_m⟩
        | some t =>
          obtain ⟨σ2, g1, g2⟩ := ih (n + 1) (goX X c' g' a' b') σ1 (by omega) (by rw [goX_P.2.2.1]; exact hC) f2
          refine ⟨σ2, ?_, xF_trans (xF_le f3 S174_m) g2⟩
          rw [xite_f (by simp)]
          exact g1
    have lm : ∀ m n (X : mX) σ, n + m = 9 → xaC X = xaC S.1 → xaR X = xaR S.1 → ML (rI σ 18 0) (xaR S.1) X → ML (rI σ 21 0) (xaR S.1) S.1 → ∃ σ', run (d + 60) (53, 21, [some (.inr (.inr (17, (some 0)))), some (.inl (nI (c'))), some (.inl (nI (g'))), some (.inl (nI (a'))), some (.inl (nI (b'))), some (.inl (nI (n)))], [], σ) = some ((nI (oft c' g' a' b' m n X), 0, none), σ') ∧ ML (rI σ' 18 0) (xaR S.1) S.1 ∧ xF SmX σ σ' := by
      intro m
      induction m with
      | zero =>
        intro n X σ hn _ _ h h21
        have e : n = 9 := by omega
        subst e
        obtain ⟨σ1, f1, f2, f3⟩ := M14 (d + 57) σ h21
        refine ⟨σ1, ?_, f2, xF_le f3 SM_X⟩
        rw [B53_21]
        simp (disch := omega) only [n_cl, n_lt, n_le, n_eq, n_lt0, n_0lt, n_le0, n_eq0, n_gneq, n_ngeq, n_ng0, n_nglt, n_glt, n_gle, n_ltg, n_leg, n_gg, n_ge0, n_add, n_mul, n_rem, n_shl1, n_and, n_or, n_bit, n_not, n_not', n_B1, n_B0, n_BB, obind, xite_T, xite_F, xite_not, xite_same, oI_s, oI_n, Bool.false_eq_true, reduceCtorEq, eq_self, Classical.not_not, bI_T, bI_Fa, bI_0, bI_n0, bI_x, xb_0, xb_1, xite_bI, xite_bI', not_true_eq_false, not_false_eq_true, Nat.zero_add, Nat.add_zero, Nat.mul_zero, Nat.mul_one, Nat.one_mul, reduceIte, Nat.reduceEqDiff, Nat.reduceAdd, Nat.reduceMul, Nat.reduceSub, Nat.reduceLT, Nat.reduceLeDiff, Nat.reducePow, ite_true, ite_false, if_true, if_false, and_true, true_and, false_and, and_false, or_false, false_or, true_or, or_true, ne_eq, xite_t, xite_f, f1]
        rfl
      | succ m ih =>
        intro n X σ hn hC hR h h21
        obtain ⟨σ1, f1, f2, f3, f4⟩ := M22 (d + 49) σ h (by omega) (show c' < xaC X by omega) hg ha hb
        have h21' : ML (rI σ1 21 0) (xaR S.1) S.1 := by rw [xF_I f4 (fun k => by unfold S20 SM; omega)]; exact h21
        rw [B53_21]
        simp (disch := omega) only [n_cl, n_lt, n_le, n_eq, n_lt0, n_0lt, n_le0, n_eq0, n_gneq, n_ngeq, n_ng0, n_nglt, n_glt, n_gle, n_ltg, n_leg, n_gg, n_ge0, n_add, n_mul, n_rem, n_shl1, n_and, n_or, n_bit, n_not, n_not', n_B1, n_B0, n_BB, obind, xite_T, xite_F, xite_not, xite_same, oI_s, oI_n, Bool.false_eq_true, reduceCtorEq, eq_self, Classical.not_not, bI_T, bI_Fa, bI_0, bI_n0, bI_x, xb_0, xb_1, xite_bI, xite_bI', not_true_eq_false, not_false_eq_true, Nat.zero_add, Nat.add_zero, Nat.mul_zero, Nat.mul_one, Nat.one_mul, reduceIte, Nat.reduceEqDiff, Nat.reduceAdd, Nat.reduceMul, Nat.reduceSub, Nat.reduceLT, Nat.reduceLeDiff, Nat.reducePow, ite_true, ite_false, if_true, if_false, and_true, true_and, false_and, and_false, or_false, false_or, true_or, or_true, ne_eq, xite_t, xite_f, f1]
        show ∃ σ', _ = some ((nI (match tW X (xaK X c') (xaG X c') g' a' b' with
          | none => n
          | some _ => oft c' g' a' b' m (n + 1) (goX X c' g' a' b')), 0, none), σ') ∧ _
        have f3 : ML (rI σ1 18 0) (xaR S.1) (goX X c' g' a' b') := f3
        cases hT : tW X (xaK X c') (xaG X c') g' a' b' with
        | none =>
          obtain ⟨σ2, g1, g2, g3⟩ := M14 (d + 57) σ1 h21'
          refine ⟨σ2, ?_, g2, xF_trans (xF_le f4 SG_X) (xF_le g3 SM_X)⟩
          rw [xite_t rfl, g1]
          simp (disch := omega) only [n_cl, n_lt, n_le, n_eq, n_lt0, n_0lt, n_le0, n_eq0, n_gneq, n_ngeq, n_ng0, n_nglt, n_glt, n_gle, n_ltg, n_leg, n_gg, n_ge0, n_add, n_mul, n_rem, n_shl1, n_and, n_or, n_bit, n_not, n_not', n_B1, n_B0, n_BB, obind, xite_T, xite_F, xite_not, xite_same, oI_s, oI_n, Bool.false_eq_true, reduceCtorEq, eq_self, Classical.not_not, bI_T, bI_Fa, bI_0, bI_n0, bI_x, xb_0, xb_1, xite_bI, xite_bI', not_true_eq_false, not_false_eq_true, Nat.zero_add, Nat.add_zero, Nat.mul_zero, Nat.mul_one, Nat.one_mul, reduceIte, Nat.reduceEqDiff, Nat.reduceAdd, Nat.reduceMul, Nat.reduceSub, Nat.reduceLT, Nat.reduceLeDiff, Nat.reducePow, ite_true, ite_false, if_true, if_false, and_true, true_and, false_and, and_false, or_false, false_or, true_or, or_true, ne_eq, ]
        | some t =>
          obtain ⟨σ2, g1, g2, g3⟩ := ih (n + 1) (goX X c' g' a' b') σ1 (by omega) (by rw [goX_P.2.2.1]; exact hC) (by rw [goX_P.2.1]; exact hR) f3 h21'
          refine ⟨σ2, ?_, g2, xF_trans (xF_le f4 SG_X) g3⟩
          rw [xite_f (by simp)]
          exact g1
    refine ⟨nI (oft c' g' a' b' 9 0 S.1), S, fun σ h => ?_, fun σ h => ?_⟩
    · obtain ⟨σ1, f1, f2, f3⟩ := C91 (d + 58) σ (i := 1) (j := 0) (by omega) h.1
      obtain ⟨σ2, g1, g2⟩ := lc 9 0 S.1 σ1 rfl rfl f2
      have hF : xF Smi σ σ2 := xF_trans (xF_le f3 Sld_m) g2
      refine ⟨σ2, ?_, CI_Scr h (xF_le hF Smi_S), kC_F hF (fun r j k s => Scr_16 _ _ _ (Smi_S _ _ _ s))⟩
      show run (d + 60) (xentry 153 _ σ) = _
      rw [B153_0, C170 _ _ _ _ _ _ _ h.1]
      simp (disch := omega) only [n_cl, n_lt, n_le, n_eq, n_lt0, n_0lt, n_le0, n_eq0, n_gneq, n_ngeq, n_ng0, n_nglt, n_glt, n_gle, n_ltg, n_leg, n_gg, n_ge0, n_add, n_mul, n_rem, n_shl1, n_and, n_or, n_bit, n_not, n_not', n_B1, n_B0, n_BB, obind, xite_T, xite_F, xite_not, xite_same, oI_s, oI_n, Bool.false_eq_true, reduceCtorEq, eq_self, Classical.not_not, bI_T, bI_Fa, bI_0, bI_n0, bI_x, xb_0, xb_1, xite_bI, xite_bI', not_true_eq_false, not_false_eq_true, Nat.zero_add, Nat.add_zero, Nat.mul_zero, Nat.mul_one, Nat.one_mul, reduceIte, Nat.reduceEqDiff, Nat.reduceAdd, Nat.reduceMul, Nat.reduceSub, Nat.reduceLT, Nat.reduceLeDiff, Nat.reducePow, ite_true, ite_false, if_true, if_false, and_true, true_and, false_and, and_false, or_false, false_or, true_or, or_true, ne_eq, xite_t, xite_f, h1, f1]
      exact g1
    · obtain ⟨σ1, f1, f2, f3, f4⟩ := M13 (d + 57) σ h.1
      obtain ⟨σ2, g1, g2, g3⟩ := lm 9 0 S.1 σ1 rfl rfl rfl f2 f3
      obtain ⟨m1, m2⟩ := MI_Z h (xF_trans (xF_le f4 S21_X) g3) g2
      refine ⟨σ2, ?_, m1, m2⟩
      show run (d + 60) (xentry 53 _ σ) = _
      rw [B53_0, M36 _ _ _ _ _ _ h.1]
      simp (disch := omega) only [n_cl, n_lt, n_le, n_eq, n_lt0, n_0lt, n_le0, n_eq0, n_gneq, n_ngeq, n_ng0, n_nglt, n_glt, n_gle, n_ltg, n_leg, n_gg, n_ge0, n_add, n_mul, n_rem, n_shl1, n_and, n_or, n_bit, n_not, n_not', n_B1, n_B0, n_BB, obind, xite_T, xite_F, xite_not, xite_same, oI_s, oI_n, Bool.false_eq_true, reduceCtorEq, eq_self, Classical.not_not, bI_T, bI_Fa, bI_0, bI_n0, bI_x, xb_0, xb_1, xite_bI, xite_bI', not_true_eq_false, not_false_eq_true, Nat.zero_add, Nat.add_zero, Nat.mul_zero, Nat.mul_one, Nat.one_mul, reduceIte, Nat.reduceEqDiff, Nat.reduceAdd, Nat.reduceMul, Nat.reduceSub, Nat.reduceLT, Nat.reduceLeDiff, Nat.reducePow, ite_true, ite_false, if_true, if_false, and_true, true_and, false_and, and_false, or_false, false_or, true_or, or_true, ne_eq, xite_t, xite_f, h1, f1]
      exact g1
  · refine duo_bad (-nI 1) (fun σ h => ?_) (fun σ h => ?_)
    · rw [B153_0, C170 _ _ _ _ _ _ _ h.1]
      simp (disch := omega) only [n_cl, n_lt, n_le, n_eq, n_lt0, n_0lt, n_le0, n_eq0, n_gneq, n_ngeq, n_ng0, n_nglt, n_glt, n_gle, n_ltg, n_leg, n_gg, n_ge0, n_add, n_mul, n_rem, n_shl1, n_and, n_or, n_bit, n_not, n_not', n_B1, n_B0, n_BB, obind, xite_T, xite_F, xite_not, xite_same, oI_s, oI_n, Bool.false_eq_true, reduceCtorEq, eq_self, Classical.not_not, bI_T, bI_Fa, bI_0, bI_n0, bI_x, xb_0, xb_1, xite_bI, xite_bI', not_true_eq_false, not_false_eq_true, Nat.zero_add, Nat.add_zero, Nat.mul_zero, Nat.mul_one, Nat.one_mul, reduceIte, Nat.reduceEqDiff, Nat.reduceAdd, Nat.reduceMul, Nat.reduceSub, Nat.reduceLT, Nat.reduceLeDiff, Nat.reducePow, ite_true, ite_false, if_true, if_false, and_true, true_and, false_and, and_false, or_false, false_or, true_or, or_true, ne_eq, h1]
    · rw [B53_0, M36 _ _ _ _ _ _ h.1]
      simp (disch := omega) only [n_cl, n_lt, n_le, n_eq, n_lt0, n_0lt, n_le0, n_eq0, n_gneq, n_ngeq, n_ng0, n_nglt, n_glt, n_gle, n_ltg, n_leg, n_gg, n_ge0, n_add, n_mul, n_rem, n_shl1, n_and, n_or, n_bit, n_not, n_not', n_B1, n_B0, n_BB, obind, xite_T, xite_F, xite_not, xite_same, oI_s, oI_n, Bool.false_eq_true, reduceCtorEq, eq_self, Classical.not_not, bI_T, bI_Fa, bI_0, bI_n0, bI_x, xb_0, xb_1, xite_bI, xite_bI', not_true_eq_false, not_false_eq_true, Nat.zero_add, Nat.add_zero, Nat.mul_zero, Nat.mul_one, Nat.one_mul, reduceIte, Nat.reduceEqDiff, Nat.reduceAdd, Nat.reduceMul, Nat.reduceSub, Nat.reduceLT, Nat.reduceLeDiff, Nat.reducePow, ite_true, ite_false, if_true, if_false, and_true, true_and, false_and, and_false, or_false, false_or, true_or, or_true, ne_eq, h1]
/-- the next seed, what is drawn -/
def nx (z : Int32) : Int32 := z * nI 1103515245 + nI 12345
def drw (z : Int32) (n : Nat) : Nat := z.toBitVec.toNat % 2147483648 / 65536 % n
theorem drw_lt {z : Int32} {n : Nat} (h : 0 < n) : drw z n < n := Nat.mod_lt _ h
theorem n_2p31 (z : Int32) : z &&& nI 2147483647 = nI (z.toBitVec.toNat % 2147483648) := pk_and z 31 (by decide)
theorem C178 (d : Nat) (σ : xS) (z : Int32) {n : Nat} (h0 : 0 < n) (hn : n < 100) : run (d + 1) (xentry 178 [.inl z, .inl (nI n)] σ) = some ((nI (drw z n), 0, none), σ) := by
  have hm : z.toBitVec.toNat % 2147483648 < 2147483648 := Nat.mod_lt _ (by omega)
  have hd : z.toBitVec.toNat % 2147483648 / 65536 ≤ z.toBitVec.toNat % 2147483648 := Nat.div_le_self _ _
  rw [B178_0, n_2p31]
  simp (disch := omega) only [n_cl, n_lt, n_le, n_eq, n_lt0, n_0lt, n_le0, n_eq0, n_gneq, n_ngeq, n_ng0, n_nglt, n_glt, n_gle, n_ltg, n_leg, n_gg, n_ge0, n_add, n_mul, n_rem, n_shl1, n_and, n_or, n_bit, n_not, n_not', n_B1, n_B0, n_BB, obind, xite_T, xite_F, xite_not, xite_same, oI_s, oI_n, Bool.false_eq_true, reduceCtorEq, eq_self, Classical.not_not, bI_T, bI_Fa, bI_0, bI_n0, bI_x, xb_0, xb_1, xite_bI, xite_bI', not_true_eq_false, not_false_eq_true, Nat.zero_add, Nat.add_zero, Nat.mul_zero, Nat.mul_one, Nat.one_mul, reduceIte, Nat.reduceEqDiff, Nat.reduceAdd, Nat.reduceMul, Nat.reduceSub, Nat.reduceLT, Nat.reduceLeDiff, Nat.reducePow, ite_true, ite_false, if_true, if_false, and_true, true_and, false_and, and_false, or_false, false_or, true_or, or_true, ne_eq, xite_t, xite_f, n_shr]
  rfl
theorem M62 (d : Nat) (σ : xS) {z : Int32} {n : Nat} (hz : rI σ 17 0 29 = z) (h0 : 0 < n) (hn : n < 100) : run (d + 1) (xentry 62 [.inr (.inr (17, (some 0))), .inl (nI n)] σ) = some ((nI (drw (nx z) n), 0, none), wI σ 17 0 29 (nx z)) := by
  have hm : (nx z).toBitVec.toNat % 2147483648 < 2147483648 := Nat.mod_lt _ (by omega)
  have hd : (nx z).toBitVec.toNat % 2147483648 / 65536 ≤ (nx z).toBitVec.toNat % 2147483648 := Nat.div_le_self _ _
  rw [B62_0, hz]
  show xite _ (xite _ (some ((_, _, _), wI σ 17 0 29 (nx z))) _) _ = _
  rw [w_Is]
  show xite _ (xite _ (some ((((nx z &&& nI 2147483647) / nI 65536) - ((nx z &&& nI 2147483647) / nI 65536) / nI n * nI n, _, _), wI σ 17 0 29 (nx z))) _) _ = _
  rw [n_2p31, n_div (d := 65536) (by omega) (by omega) (by omega)]
  simp (disch := omega) only [n_cl, n_lt, n_le, n_eq, n_lt0, n_0lt, n_le0, n_eq0, n_gneq, n_ngeq, n_ng0, n_nglt, n_glt, n_gle, n_ltg, n_leg, n_gg, n_ge0, n_add, n_mul, n_rem, n_shl1, n_and, n_or, n_bit, n_not, n_not', n_B1, n_B0, n_BB, obind, xite_T, xite_F, xite_not, xite_same, oI_s, oI_n, Bool.false_eq_true, reduceCtorEq, eq_self, Classical.not_not, bI_T, bI_Fa, bI_0, bI_n0, bI_x, xb_0, xb_1, xite_bI, xite_bI', not_true_eq_false, not_false_eq_true, Nat.zero_add, Nat.add_zero, Nat.mul_zero, Nat.mul_one, Nat.one_mul, reduceIte, Nat.reduceEqDiff, Nat.reduceAdd, Nat.reduceMul, Nat.reduceSub, Nat.reduceLT, Nat.reduceLeDiff, Nat.reducePow, ite_true, ite_false, if_true, if_false, and_true, true_and, false_and, and_false, or_false, false_or, true_or, or_true, ne_eq, xite_t, xite_f, ]
  rfl
/-- the seeded carriages: how many were gone -/
def sdd (dr : Int32 → Nat → Nat) (nx : Int32 → Int32) : Nat → Int32 → Nat → mX → Nat
  | 0, _, n, _ => n
  | m + 1, z, n, X => if dr (nx (nx (nx z))) (xaP X) = dr (nx (nx (nx (nx z)))) (xaP X) then sdd dr nx m (nx (nx (nx (nx z)))) n X else
    match tW X (xaK X (dr (nx z) (xaC X))) (xaG X (dr (nx z) (xaC X))) (dr (nx (nx z)) 4) (dr (nx (nx (nx z))) (xaP X)) (dr (nx (nx (nx (nx z)))) (xaP X)) with
    | none => sdd dr nx m (nx (nx (nx (nx z)))) n X
    | some _ => sdd dr nx m (nx (nx (nx (nx z)))) (n + 1) (goX X (dr (nx z) (xaC X)) (dr (nx (nx z)) 4) (dr (nx (nx (nx z))) (xaP X)) (dr (nx (nx (nx (nx z)))) (xaP X)))
theorem duo_seeded0 (d : Nat) (dr : Int32 → Nat → Nat) (nx : Int32 → Int32) (hlt : ∀ z n, 0 < n → dr z n < n) (b177 : ∀ d σ z, run (d + 1) (xentry 177 [.inl z] σ) = some ((nx z, 0, none), σ))
    (h178 : ∀ d σ z n, 0 < n → n < 100 → run (d + 1) (xentry 178 [.inl z, .inl (nI n)] σ) = some ((nI (dr z n), 0, none), σ))
    (h62 : ∀ d σ z n, rI σ 17 0 29 = z → 0 < n → n < 100 → run (d + 1) (xentry 62 [.inr (.inr (17, (some 0))), .inl (nI n)] σ) = some ((nI (dr (nx z) n), 0, none), wI σ 17 0 29 (nx z)))
    (S : mG) (hX : WX (xaR S.1) S.1) (n z : Int32) : Duo (d + 60) (fun σ => xentry 156 [.inr (.inr (0, (some 0))), .inl n, .inl z] σ) (fun σ => xentry 63 [.inr (.inr (17, (some 0))), .inl n, .inl z] σ) S := by
  have hC6 := hX.2.2.2.1
  have hP6 := hX.2.1
  have hP2 := hX.1
  by_cases h1 : inb n 31 ∧ ¬ n = nI 0
  · obtain ⟨n', hn, en⟩ := inb_of h1.1 (by omega)
    subst en
    have hn0 : 0 < n' := by
      apply Classical.byContradiction
      intro h
      have : n' = 0 := by omega
      exact h1.2 (by rw [this])
    have hin : (bI ((lN 1).toInt ≤ ((nI n').toInt64).toInt ∧ ((nI n').toInt64).toInt ≤ (lN 30).toInt)) = nI 1 := by
      rw [n_i2l, n_lNt (by omega), n_lNt (by omega), n_toInt (by omega)]
      exact bI_t (by omega)
    by_cases h2 : xaC S.1 = 0
    · refine duo_bad (-nI 3) (fun σ h => ?_) (fun σ h => ?_)
      · rw [B156_0, h.1.2.2.2.1]
        simp (disch := omega) only [n_cl, n_lt, n_le, n_eq, n_lt0, n_0lt, n_le0, n_eq0, n_gneq, n_ngeq, n_ng0, n_nglt, n_glt, n_gle, n_ltg, n_leg, n_gg, n_ge0, n_add, n_mul, n_rem, n_shl1, n_and, n_or, n_bit, n_not, n_not', n_B1, n_B0, n_BB, obind, xite_T, xite_F, xite_not, xite_same, oI_s, oI_n, Bool.false_eq_true, reduceCtorEq, eq_self, Classical.not_not, bI_T, bI_Fa, bI_0, bI_n0, bI_x, xb_0, xb_1, xite_bI, xite_bI', not_true_eq_false, not_false_eq_true, Nat.zero_add, Nat.add_zero, Nat.mul_zero, Nat.mul_one, Nat.one_mul, reduceIte, Nat.reduceEqDiff, Nat.reduceAdd, Nat.reduceMul, Nat.reduceSub, Nat.reduceLT, Nat.reduceLeDiff, Nat.reducePow, ite_true, ite_false, if_true, if_false, and_true, true_and, false_and, and_false, or_false, false_or, true_or, or_true, ne_eq, xite_t, xite_f, h2]
      · rw [B63_0, M1, hin]
        simp (disch := omega) only [n_cl, n_lt, n_le, n_eq, n_lt0, n_0lt, n_le0, n_eq0, n_gneq, n_ngeq, n_ng0, n_nglt, n_glt, n_gle, n_ltg, n_leg, n_gg, n_ge0, n_add, n_mul, n_rem, n_shl1, n_and, n_or, n_bit, n_not, n_not', n_B1, n_B0, n_BB, obind, xite_T, xite_F, xite_not, xite_same, oI_s, oI_n, Bool.false_eq_true, reduceCtorEq, eq_self, Classical.not_not, bI_T, bI_Fa, bI_0, bI_n0, bI_x, xb_0, xb_1, xite_bI, xite_bI', not_true_eq_false, not_false_eq_true, Nat.zero_add, Nat.add_zero, Nat.mul_zero, Nat.mul_one, Nat.one_mul, reduceIte, Nat.reduceEqDiff, Nat.reduceAdd, Nat.reduceMul, Nat.reduceSub, Nat.reduceLT, Nat.reduceLeDiff, Nat.reducePow, ite_true, ite_false, if_true, if_false, and_true, true_and, false_and, and_false, or_false, false_or, true_or, or_true, ne_eq, xite_t, xite_f, h2, h.1.2.2.2.1]
    · have lc : ∀ m i k z (X : mX) σ, i + m = n' → k + m ≤ 30 → xaC X = xaC S.1 → xaP X = xaP S.1 → CL σ 1 X → rI σ 1 0 0 = nI (xaP S.1) → rI σ 1 0 2 = nI (xaC S.1) → ∃ σ', run (d + 60) (156, 45, [some (.inr (.inr (0, (some 0)))), some (.inl (nI (n'))), none, some (.inl z), some (.inl (nI (k))), some (.inl (nI (i))), none, none, none, none], [], σ) = some ((nI (sdd dr nx m z k X), 0, none), σ') ∧ xF Smi σ σ' := by
        intro m
        induction m with
        | zero =>
          intro i k z X σ hi _ _ _ h _ _
          have e : i = n' := by omega
          subst e
          refine ⟨σ, ?_, xF_refl σ⟩
          rw [B156_45]
          simp (disch := omega) only [n_cl, n_lt, n_le, n_eq, n_lt0, n_0lt, n_le0, n_eq0, n_gneq, n_ngeq, n_ng0, n_nglt, n_glt, n_gle, n_ltg, n_leg, n_gg, n_ge0, n_add, n_mul, n_rem, n_shl1, n_and, n_or, n_bit, n_not, n_not', n_B1, n_B0, n_BB, obind, xite_T, xite_F, xite_not, xite_same, oI_s, oI_n, Bool.false_eq_true, reduceCtorEq, eq_self, Classical.not_not, bI_T, bI_Fa, bI_0, bI_n0, bI_x, xb_0, xb_1, xite_bI, xite_bI', not_true_eq_false, not_false_eq_true, Nat.zero_add, Nat.add_zero, Nat.mul_zero, Nat.mul_one, Nat.one_mul, reduceIte, Nat.reduceEqDiff, Nat.reduceAdd, Nat.reduceMul, Nat.reduceSub, Nat.reduceLT, Nat.reduceLeDiff, Nat.reducePow, ite_true, ite_false, if_true, if_false, and_true, true_and, false_and, and_false, or_false, false_or, true_or, or_true, ne_eq, xite_t, xite_f, ]
          rfl
        | succ m ih =>
          intro i k z X σ hi hk hC hP h p0 p2
          have u1 := hlt (nx z) (xaC S.1) (by omega)
          have u2 := hlt (nx (nx z)) 4 (by omega)
          have u3 := hlt (nx (nx (nx z))) (xaP S.1) (by omega)
          have u4 := hlt (nx (nx (nx (nx z)))) (xaP S.1) (by omega)
          rw [B156_45]
          simp (disch := omega) only [n_cl, n_lt, n_le, n_eq, n_lt0, n_0lt, n_le0, n_eq0, n_gneq, n_ngeq, n_ng0, n_nglt, n_glt, n_gle, n_ltg, n_leg, n_gg, n_ge0, n_add, n_mul, n_rem, n_shl1, n_and, n_or, n_bit, n_not, n_not', n_B1, n_B0, n_BB, obind, xite_T, xite_F, xite_not, xite_same, oI_s, oI_n, Bool.false_eq_true, reduceCtorEq, eq_self, Classical.not_not, bI_T, bI_Fa, bI_0, bI_n0, bI_x, xb_0, xb_1, xite_bI, xite_bI', not_true_eq_false, not_false_eq_true, Nat.zero_add, Nat.add_zero, Nat.mul_zero, Nat.mul_one, Nat.one_mul, reduceIte, Nat.reduceEqDiff, Nat.reduceAdd, Nat.reduceMul, Nat.reduceSub, Nat.reduceLT, Nat.reduceLeDiff, Nat.reducePow, ite_true, ite_false, if_true, if_false, and_true, true_and, false_and, and_false, or_false, false_or, true_or, or_true, ne_eq, xite_t, xite_f, b177, p0, p2, h178]
          show ∃ σ', _ = some ((nI (if dr (nx (nx (nx z))) (xaP X) = dr (nx (nx (nx (nx z)))) (xaP X) then sdd dr nx m (nx (nx (nx (nx z)))) k X else
            match tW X (xaK X (dr (nx z) (xaC X))) (xaG X (dr (nx z) (xaC X))) (dr (nx (nx z)) 4) (dr (nx (nx (nx z))) (xaP X)) (dr (nx (nx (nx (nx z)))) (xaP X)) with
            | none => sdd dr nx m (nx (nx (nx (nx z)))) k X
            | some _ => sdd dr nx m (nx (nx (nx (nx z)))) (k + 1) (goX X (dr (nx z) (xaC X)) (dr (nx (nx z)) 4) (dr (nx (nx (nx z))) (xaP X)) (dr (nx (nx (nx (nx z)))) (xaP X)))), 0, none), σ') ∧ _
          rw [hC, hP]
          by_cases hab : dr (nx (nx (nx z))) (xaP S.1) = dr (nx (nx (nx (nx z)))) (xaP S.1)
          · rw [xite_t hab, if_pos hab]
            exact ih (i + 1) k _ X σ (by omega) (by omega) hC hP h p0 p2
          · rw [xite_f hab, if_neg hab]
            obtain ⟨σ1, f1, f2, f3⟩ := C174 (d + 49) σ h (show dr (nx z) (xaC S.1) < xaC X by omega) u2 (show dr (nx (nx (nx z))) (xaP S.1) < 6 by omega) (show dr (nx (nx (nx (nx z)))) (xaP S.1) < 6 by omega) hab
            have hn4 := mW_n (X := X) (k := xaK X (dr (nx z) (xaC S.1))) (f := xaG X (dr (nx z) (xaC S.1))) (g := dr (nx (nx z)) 4) (a := dr (nx (nx (nx z))) (xaP S.1)) (b := dr (nx (nx (nx (nx z)))) (xaP S.1)) h.1 u2
            have q0 : rI σ1 1 0 0 = nI (xaP S.1) := by rw [f3.1 1 0 0 (by unfold S174; omega)]; exact p0
            have q2 : rI σ1 1 0 2 = nI (xaC S.1) := by rw [f3.1 1 0 2 (by unfold S174; omega)]; exact p2
            rw [f1]
            simp (disch := omega) only [n_cl, n_lt, n_le, n_eq, n_lt0, n_0lt, n_le0, n_eq0, n_gneq, n_ngeq, n_ng0, n_nglt, n_glt, n_gle, n_ltg, n_leg, n_gg, n_ge0, n_add, n_mul, n_rem, n_shl1, n_and, n_or, n_bit, n_not, n_not', n_B1, n_B0, n_BB, obind, xite_T, xite_F, xite_not, xite_same, oI_s, oI_n, Bool.false_eq_true, reduceCtorEq, eq_self, Classical.not_not, bI_T, bI_Fa, bI_0, bI_n0, bI_x, xb_0, xb_1, xite_bI, xite_bI', not_true_eq_false, not_false_eq_true, Nat.zero_add, Nat.add_zero, Nat.mul_zero, Nat.mul_one, Nat.one_mul, reduceIte, Nat.reduceEqDiff, Nat.reduceAdd, Nat.reduceMul, Nat.reduceSub, Nat.reduceLT, Nat.reduceLeDiff, Nat.reducePow, ite_true, ite_false, if_true, if_false, and_true, true_and, false_and, and_false, or_false, false_or, true_or, or_true, ne_eq, hn4]
            have f2 : CL σ1 1 (goX X (dr (nx z) (xaC S.1)) (dr (nx (nx z)) 4) (dr (nx (nx (nx z))) (xaP S.1)) (dr (nx (nx (nx (nx z)))) (xaP S.1))) := f2
            cases hT : tW X (xaK X (dr (nx z) (xaC S.1))) (xaG X (dr (nx z) (xaC S.1))) (dr (nx (nx z)) 4) (dr (nx (nx (nx z))) (xaP S.1)) (dr (nx (nx (nx (nx z)))) (xaP S.1)) with
            | none =>
              have e : goX X (dr (nx z) (xaC S.1)) (dr (nx (nx z)) 4) (dr (nx (nx (nx z))) (xaP S.1)) (dr (nx (nx (nx (nx z)))) (xaP S.1)) = X := by unfold goX; rw [hT]; rfl
              rw [e] at f2
              obtain ⟨σ2, g1, g2⟩ := ih (i + 1) k (nx (nx (nx (nx z)))) X σ1 (by omega) (by omega) hC hP f2 q0 q2
              refine ⟨σ2, ?_, xF_trans (xF_le f3 S174_m) g2⟩
              rw [xite_t rfl]
              exact g1
            | some t =>
              obtain ⟨σ2, g1, g2⟩ := ih (i + 1) (k + 1) (nx (nx (nx (nx z)))) _ σ1 (by omega) (by omega) (by rw [goX_P.2.2.1]; exact hC) (by rw [goX_P.1]; exact hP) f2 q0 q2
              refine ⟨σ2, ?_, xF_trans (xF_le f3 S174_m) g2⟩
              rw [xite_f (by simp)]
              exact g1
      have lm : ∀ m i k z (X : mX) σ, i + m = n' → k + m ≤ 30 → xaC X = xaC S.1 → xaP X = xaP S.1 → xaR X = xaR S.1 → ML (rI σ 18 0) (xaR S.1) X → ML (rI σ 21 0) (xaR S.1) S.1 → rI σ 17 0 29 = z → ∃ σ', run (d + 60) (63, 40, [some (.inr (.inr (17, (some 0)))), some (.inl (nI (n'))), none, some (.inl (nI (k))), some (.inl (nI (i))), none, none, none, none], [], σ) = some ((nI (sdd dr nx m z k X), 0, none), σ') ∧ ML (rI σ' 18 0) (xaR S.1) S.1 ∧ xF SmX σ σ' := by
        intro m
        induction m with
        | zero =>
          intro i k z X σ hi _ _ _ _ h h21 _
          have e : i = n' := by omega
          subst e
          obtain ⟨σ1, f1, f2, f3⟩ := M14 (d + 57) σ h21
          refine ⟨σ1, ?_, f2, xF_le f3 SM_X⟩
          rw [B63_40]
          simp (disch := omega) only [n_cl, n_lt, n_le, n_eq, n_lt0, n_0lt, n_le0, n_eq0, n_gneq, n_ngeq, n_ng0, n_nglt, n_glt, n_gle, n_ltg, n_leg, n_gg, n_ge0, n_add, n_mul, n_rem, n_shl1, n_and, n_or, n_bit, n_not, n_not', n_B1, n_B0, n_BB, obind, xite_T, xite_F, xite_not, xite_same, oI_s, oI_n, Bool.false_eq_true, reduceCtorEq, eq_self, Classical.not_not, bI_T, bI_Fa, bI_0, bI_n0, bI_x, xb_0, xb_1, xite_bI, xite_bI', not_true_eq_false, not_false_eq_true, Nat.zero_add, Nat.add_zero, Nat.mul_zero, Nat.mul_one, Nat.one_mul, reduceIte, Nat.reduceEqDiff, Nat.reduceAdd, Nat.reduceMul, Nat.reduceSub, Nat.reduceLT, Nat.reduceLeDiff, Nat.reducePow, ite_true, ite_false, if_true, if_false, and_true, true_and, false_and, and_false, or_false, false_or, true_or, or_true, ne_eq, xite_t, xite_f, f1]
          rfl
        | succ m ih =>
          intro i k z X σ hi hk hC hP hR h h21 hz
          have u1 := hlt (nx z) (xaC S.1) (by omega)
          have u2 := hlt (nx (nx z)) 4 (by omega)
          have u3 := hlt (nx (nx (nx z))) (xaP S.1) (by omega)
          have u4 := hlt (nx (nx (nx (nx z)))) (xaP S.1) (by omega)
          have p0 : rI σ 18 0 0 = nI (xaP S.1) := by rw [← hP]; exact h.2.1
          have p2 : rI σ 18 0 2 = nI (xaC S.1) := by rw [← hC]; exact h.2.2.2.1
          have e1 := h62 (d + 58) σ _ (xaC S.1) hz (by omega) (by omega)
          have e2 := h62 (d + 58) (wI σ 17 0 29 (nx z)) (nx z) 4 (by rw [w_Is]) (by omega) (by omega)
          have e3 := h62 (d + 58) (wI (wI σ 17 0 29 (nx z)) 17 0 29 (nx (nx z))) (nx (nx z)) (xaP S.1) (by rw [w_Is]) (by omega) (by omega)
          have e4 := h62 (d + 58) (wI (wI (wI σ 17 0 29 (nx z)) 17 0 29 (nx (nx z))) 17 0 29 (nx (nx (nx z)))) (nx (nx (nx z))) (xaP S.1) (by rw [w_Is]) (by omega) (by omega)
          have hF : xF SmX σ (wI (wI (wI (wI σ 17 0 29 (nx z)) 17 0 29 (nx (nx z))) 17 0 29 (nx (nx (nx z)))) 17 0 29 (nx (nx (nx (nx z))))) := xF_wI (xF_wI (xF_wI (xF_wI (xF_refl σ) _ (by unfold SmX; omega)) _ (by unfold SmX; omega)) _ (by unfold SmX; omega)) _ (by unfold SmX; omega)
          rw [B63_40]
          simp (disch := omega) only [n_cl, n_lt, n_le, n_eq, n_lt0, n_0lt, n_le0, n_eq0, n_gneq, n_ngeq, n_ng0, n_nglt, n_glt, n_gle, n_ltg, n_leg, n_gg, n_ge0, n_add, n_mul, n_rem, n_shl1, n_and, n_or, n_bit, n_not, n_not', n_B1, n_B0, n_BB, obind, xite_T, xite_F, xite_not, xite_same, oI_s, oI_n, Bool.false_eq_true, reduceCtorEq, eq_self, Classical.not_not, bI_T, bI_Fa, bI_0, bI_n0, bI_x, xb_0, xb_1, xite_bI, xite_bI', not_true_eq_false, not_false_eq_true, Nat.zero_add, Nat.add_zero, Nat.mul_zero, Nat.mul_one, Nat.one_mul, reduceIte, Nat.reduceEqDiff, Nat.reduceAdd, Nat.reduceMul, Nat.reduceSub, Nat.reduceLT, Nat.reduceLeDiff, Nat.reducePow, ite_true, ite_false, if_true, if_false, and_true, true_and, false_and, and_false, or_false, false_or, true_or, or_true, ne_eq, xite_t, xite_f, p0, p2, e1, e2, e3, e4, w_I2, w_Is, w_In, w_IL, w_IP, w_IC, w_LI, w_LP, w_LC, w_PI, w_PL, w_PC]
          show ∃ σ', _ = some ((nI (if dr (nx (nx (nx z))) (xaP X) = dr (nx (nx (nx (nx z)))) (xaP X) then sdd dr nx m (nx (nx (nx (nx z)))) k X else
            match tW X (xaK X (dr (nx z) (xaC X))) (xaG X (dr (nx z) (xaC X))) (dr (nx (nx z)) 4) (dr (nx (nx (nx z))) (xaP X)) (dr (nx (nx (nx (nx z)))) (xaP X)) with
            | none => sdd dr nx m (nx (nx (nx (nx z)))) k X
            | some _ => sdd dr nx m (nx (nx (nx (nx z)))) (k + 1) (goX X (dr (nx z) (xaC X)) (dr (nx (nx z)) 4) (dr (nx (nx (nx z))) (xaP X)) (dr (nx (nx (nx (nx z)))) (xaP X)))), 0, none), σ') ∧ _
          rw [hC, hP]
          revert hF
          have hzz : rI (wI (wI (wI (wI σ 17 0 29 (nx z)) 17 0 29 (nx (nx z))) 17 0 29 (nx (nx (nx z)))) 17 0 29 (nx (nx (nx (nx z))))) 17 0 29 = nx (nx (nx (nx z))) := w_Is
          have hM : ML (rI (wI (wI (wI (wI σ 17 0 29 (nx z)) 17 0 29 (nx (nx z))) 17 0 29 (nx (nx (nx z)))) 17 0 29 (nx (nx (nx (nx z))))) 18 0) (xaR S.1) X := by simp (disch := omega) only [n_cl, n_lt, n_le, n_eq, n_lt0, n_0lt, n_le0, n_eq0, n_gneq, n_ngeq, n_ng0, n_nglt, n_glt, n_gle, n_ltg, n_leg, n_gg, n_ge0, n_add, n_mul, n_rem, n_shl1, n_and, n_or, n_bit, n_not, n_not', n_B1, n_B0, n_BB, obind, xite_T, xite_F, xite_not, xite_same, oI_s, oI_n, Bool.false_eq_true, reduceCtorEq, eq_self, Classical.not_not, bI_T, bI_Fa, bI_0, bI_n0, bI_x, xb_0, xb_1, xite_bI, xite_bI', not_true_eq_false, not_false_eq_true, Nat.zero_add, Nat.add_zero, Nat.mul_zero, Nat.mul_one, Nat.one_mul, reduceIte, Nat.reduceEqDiff, Nat.reduceAdd, Nat.reduceMul, Nat.reduceSub, Nat.reduceLT, Nat.reduceLeDiff, Nat.reducePow, ite_true, ite_false, if_true, if_false, and_true, true_and, false_and, and_false, or_false, false_or, true_or, or_true, ne_eq, xite_t, xite_f, w_I2, w_Is, w_In, w_IL, w_IP, w_IC, w_LI, w_LP, w_LC, w_PI, w_PL, w_PC]; exact h
          have hM2 : ML (rI (wI (wI (wI (wI σ 17 0 29 (nx z)) 17 0 29 (nx (nx z))) 17 0 29 (nx (nx (nx z)))) 17 0 29 (nx (nx (nx (nx z))))) 21 0) (xaR S.1) S.1 := by simp (disch := omega) only [n_cl, n_lt, n_le, n_eq, n_lt0, n_0lt, n_le0, n_eq0, n_gneq, n_ngeq, n_ng0, n_nglt, n_glt, n_gle, n_ltg, n_leg, n_gg, n_ge0, n_add, n_mul, n_rem, n_shl1, n_and, n_or, n_bit, n_not, n_not', n_B1, n_B0, n_BB, obind, xite_T, xite_F, xite_not, xite_same, oI_s, oI_n, Bool.false_eq_true, reduceCtorEq, eq_self, Classical.not_not, bI_T, bI_Fa, bI_0, bI_n0, bI_x, xb_0, xb_1, xite_bI, xite_bI', not_true_eq_false, not_false_eq_true, Nat.zero_add, Nat.add_zero, Nat.mul_zero, Nat.mul_one, Nat.one_mul, reduceIte, Nat.reduceEqDiff, Nat.reduceAdd, Nat.reduceMul, Nat.reduceSub, Nat.reduceLT, Nat.reduceLeDiff, Nat.reducePow, ite_true, ite_false, if_true, if_false, and_true, true_and, false_and, and_false, or_false, false_or, true_or, or_true, ne_eq, xite_t, xite_f, w_I2, w_Is, w_In, w_IL, w_IP, w_IC, w_LI, w_LP, w_LC, w_PI, w_PL, w_PC]; exact h21
          revert hzz hM hM2
          generalize (wI (wI (wI (wI σ 17 0 29 (nx z)) 17 0 29 (nx (nx z))) 17 0 29 (nx (nx (nx z)))) 17 0 29 (nx (nx (nx (nx z))))) = τ
          intro hzz hM hM2 hF
          by_cases hab : dr (nx (nx (nx z))) (xaP S.1) = dr (nx (nx (nx (nx z)))) (xaP S.1)
          · rw [xite_t hab, if_pos hab]
            obtain ⟨σ2, g1, g2, g3⟩ := ih (i + 1) k _ X τ (by omega) (by omega) hC hP hR hM hM2 hzz
            exact ⟨σ2, g1, g2, xF_trans hF g3⟩
          · rw [xite_f hab, if_neg hab]
            obtain ⟨σ1, f1, f2, f3, f4⟩ := M22 (d + 49) τ hM (by omega) (show dr (nx z) (xaC S.1) < xaC X by omega) u2 (show dr (nx (nx (nx z))) (xaP S.1) < 6 by omega) (show dr (nx (nx (nx (nx z)))) (xaP S.1) < 6 by omega)
            have h21' : ML (rI σ1 21 0) (xaR S.1) S.1 := by rw [xF_I f4 (fun k => by unfold S20 SM; omega)]; exact hM2
            have hz1 : rI σ1 17 0 29 = nx (nx (nx (nx z))) := by rw [f4.1 17 0 29 (by unfold S20 SM; omega)]; exact hzz
            rw [f1]
            simp (disch := omega) only [n_cl, n_lt, n_le, n_eq, n_lt0, n_0lt, n_le0, n_eq0, n_gneq, n_ngeq, n_ng0, n_nglt, n_glt, n_gle, n_ltg, n_leg, n_gg, n_ge0, n_add, n_mul, n_rem, n_shl1, n_and, n_or, n_bit, n_not, n_not', n_B1, n_B0, n_BB, obind, xite_T, xite_F, xite_not, xite_same, oI_s, oI_n, Bool.false_eq_true, reduceCtorEq, eq_self, Classical.not_not, bI_T, bI_Fa, bI_0, bI_n0, bI_x, xb_0, xb_1, xite_bI, xite_bI', not_true_eq_false, not_false_eq_true, Nat.zero_add, Nat.add_zero, Nat.mul_zero, Nat.mul_one, Nat.one_mul, reduceIte, Nat.reduceEqDiff, Nat.reduceAdd, Nat.reduceMul, Nat.reduceSub, Nat.reduceLT, Nat.reduceLeDiff, Nat.reducePow, ite_true, ite_false, if_true, if_false, and_true, true_and, false_and, and_false, or_false, false_or, true_or, or_true, ne_eq, ]
            have f3 : ML (rI σ1 18 0) (xaR S.1) (goX X (dr (nx z) (xaC S.1)) (dr (nx (nx z)) 4) (dr (nx (nx (nx z))) (xaP S.1)) (dr (nx (nx (nx (nx z)))) (xaP S.1))) := f3
            cases hT : tW X (xaK X (dr (nx z) (xaC S.1))) (xaG X (dr (nx z) (xaC S.1))) (dr (nx (nx z)) 4) (dr (nx (nx (nx z))) (xaP S.1)) (dr (nx (nx (nx (nx z)))) (xaP S.1)) with
            | none =>
              have e : goX X (dr (nx z) (xaC S.1)) (dr (nx (nx z)) 4) (dr (nx (nx (nx z))) (xaP S.1)) (dr (nx (nx (nx (nx z)))) (xaP S.1)) = X := by unfold goX; rw [hT]; rfl
              rw [e] at f3
              obtain ⟨σ2, g1, g2, g3⟩ := ih (i + 1) k (nx (nx (nx (nx z)))) X σ1 (by omega) (by omega) hC hP hR f3 h21' hz1
              refine ⟨σ2, ?_, g2, xF_trans hF (xF_trans (xF_le f4 SG_X) g3)⟩
              rw [xite_t rfl]
              exact g1
            | some t =>
              obtain ⟨σ2, g1, g2, g3⟩ := ih (i + 1) (k + 1) (nx (nx (nx (nx z)))) _ σ1 (by omega) (by omega) (by rw [goX_P.2.2.1]; exact hC) (by rw [goX_P.1]; exact hP) (by rw [goX_P.2.1]; exact hR) f3 h21' hz1
              refine ⟨σ2, ?_, g2, xF_trans hF (xF_trans (xF_le f4 SG_X) g3)⟩
              rw [xite_f (by simp)]
              exact g1
      refine ⟨nI (sdd dr nx n' z 0 S.1), S, fun σ h => ?_, fun σ h => ?_⟩
      · obtain ⟨σ1, f1, f2, f3⟩ := C91 (d + 58) σ (i := 1) (j := 0) (by omega) h.1
        obtain ⟨σ2, g1, g2⟩ := lc n' 0 0 z S.1 σ1 (by omega) (by omega) rfl rfl f2 (by rw [f3.1 1 0 0 (by unfold Sld; omega)]; exact h.1.2.1) (by rw [f3.1 1 0 2 (by unfold Sld; omega)]; exact h.1.2.2.2.1)
        have hF : xF Smi σ σ2 := xF_trans (xF_le f3 Sld_m) g2
        refine ⟨σ2, ?_, CI_Scr h (xF_le hF Smi_S), kC_F hF (fun r j k s => Scr_16 _ _ _ (Smi_S _ _ _ s))⟩
        show run (d + 60) (xentry 156 _ σ) = _
        rw [B156_0, h.1.2.2.2.1]
        simp (disch := omega) only [n_cl, n_lt, n_le, n_eq, n_lt0, n_0lt, n_le0, n_eq0, n_gneq, n_ngeq, n_ng0, n_nglt, n_glt, n_gle, n_ltg, n_leg, n_gg, n_ge0, n_add, n_mul, n_rem, n_shl1, n_and, n_or, n_bit, n_not, n_not', n_B1, n_B0, n_BB, obind, xite_T, xite_F, xite_not, xite_same, oI_s, oI_n, Bool.false_eq_true, reduceCtorEq, eq_self, Classical.not_not, bI_T, bI_Fa, bI_0, bI_n0, bI_x, xb_0, xb_1, xite_bI, xite_bI', not_true_eq_false, not_false_eq_true, Nat.zero_add, Nat.add_zero, Nat.mul_zero, Nat.mul_one, Nat.one_mul, reduceIte, Nat.reduceEqDiff, Nat.reduceAdd, Nat.reduceMul, Nat.reduceSub, Nat.reduceLT, Nat.reduceLeDiff, Nat.reducePow, ite_true, ite_false, if_true, if_false, and_true, true_and, false_and, and_false, or_false, false_or, true_or, or_true, ne_eq, xite_t, xite_f, f1]
        exact g1
      · obtain ⟨σ1, f1, f2, f3, f4⟩ := M13 (d + 57) σ h.1
        obtain ⟨σ2, g1, g2, g3⟩ := lm n' 0 0 z S.1 (wI σ1 17 0 29 z) (by omega) (by omega) rfl rfl rfl (by simp (disch := omega) only [n_cl, n_lt, n_le, n_eq, n_lt0, n_0lt, n_le0, n_eq0, n_gneq, n_ngeq, n_ng0, n_nglt, n_glt, n_gle, n_ltg, n_leg, n_gg, n_ge0, n_add, n_mul, n_rem, n_shl1, n_and, n_or, n_bit, n_not, n_not', n_B1, n_B0, n_BB, obind, xite_T, xite_F, xite_not, xite_same, oI_s, oI_n, Bool.false_eq_true, reduceCtorEq, eq_self, Classical.not_not, bI_T, bI_Fa, bI_0, bI_n0, bI_x, xb_0, xb_1, xite_bI, xite_bI', not_true_eq_false, not_false_eq_true, Nat.zero_add, Nat.add_zero, Nat.mul_zero, Nat.mul_one, Nat.one_mul, reduceIte, Nat.reduceEqDiff, Nat.reduceAdd, Nat.reduceMul, Nat.reduceSub, Nat.reduceLT, Nat.reduceLeDiff, Nat.reducePow, ite_true, ite_false, if_true, if_false, and_true, true_and, false_and, and_false, or_false, false_or, true_or, or_true, ne_eq, xite_t, xite_f, w_I2, w_Is, w_In, w_IL, w_IP, w_IC, w_LI, w_LP, w_LC, w_PI, w_PL, w_PC]; exact f2) (by simp (disch := omega) only [n_cl, n_lt, n_le, n_eq, n_lt0, n_0lt, n_le0, n_eq0, n_gneq, n_ngeq, n_ng0, n_nglt, n_glt, n_gle, n_ltg, n_leg, n_gg, n_ge0, n_add, n_mul, n_rem, n_shl1, n_and, n_or, n_bit, n_not, n_not', n_B1, n_B0, n_BB, obind, xite_T, xite_F, xite_not, xite_same, oI_s, oI_n, Bool.false_eq_true, reduceCtorEq, eq_self, Classical.not_not, bI_T, bI_Fa, bI_0, bI_n0, bI_x, xb_0, xb_1, xite_bI, xite_bI', not_true_eq_false, not_false_eq_true, Nat.zero_add, Nat.add_zero, Nat.mul_zero, Nat.mul_one, Nat.one_mul, reduceIte, Nat.reduceEqDiff, Nat.reduceAdd, Nat.reduceMul, Nat.reduceSub, Nat.reduceLT, Nat.reduceLeDiff, Nat.reducePow, ite_true, ite_false, if_true, if_false, and_true, true_and, false_and, and_false, or_false, false_or, true_or, or_true, ne_eq, xite_t, xite_f, w_I2, w_Is, w_In, w_IL, w_IP, w_IC, w_LI, w_LP, w_LC, w_PI, w_PL, w_PC]; exact f3) w_Is
        have hF0 : xF SmX σ (wI σ1 17 0 29 z) := xF_wI (xF_le f4 S21_X) _ (by unfold SmX; omega)
        obtain ⟨m1, m2⟩ := MI_Z h (xF_trans hF0 g3) g2
        refine ⟨σ2, ?_, m1, m2⟩
        show run (d + 60) (xentry 63 _ σ) = _
        rw [B63_0, M1, hin]
        simp (disch := omega) only [n_cl, n_lt, n_le, n_eq, n_lt0, n_0lt, n_le0, n_eq0, n_gneq, n_ngeq, n_ng0, n_nglt, n_glt, n_gle, n_ltg, n_leg, n_gg, n_ge0, n_add, n_mul, n_rem, n_shl1, n_and, n_or, n_bit, n_not, n_not', n_B1, n_B0, n_BB, obind, xite_T, xite_F, xite_not, xite_same, oI_s, oI_n, Bool.false_eq_true, reduceCtorEq, eq_self, Classical.not_not, bI_T, bI_Fa, bI_0, bI_n0, bI_x, xb_0, xb_1, xite_bI, xite_bI', not_true_eq_false, not_false_eq_true, Nat.zero_add, Nat.add_zero, Nat.mul_zero, Nat.mul_one, Nat.one_mul, reduceIte, Nat.reduceEqDiff, Nat.reduceAdd, Nat.reduceMul, Nat.reduceSub, Nat.reduceLT, Nat.reduceLeDiff, Nat.reducePow, ite_true, ite_false, if_true, if_false, and_true, true_and, false_and, and_false, or_false, false_or, true_or, or_true, ne_eq, xite_t, xite_f, h.1.2.2.2.1, f1]
        exact g1
  · refine duo_bad (-nI 1) (fun σ h => ?_) (fun σ h => ?_)
    · rw [B156_0]
      by_cases c1 : n < nI 1
      · rw [xite_t c1]
      · rw [xite_f c1]
        by_cases c2 : n ≤ nI 30
        · exfalso
          rw [n_ltx] at c1
          rw [n_lex] at c2
          have e1 : (nI 1).toInt = 1 := by decide
          have e2 : (nI 30).toInt = 30 := by decide
          rw [e1] at c1
          rw [e2] at c2
          refine h1 ⟨⟨by omega, by omega⟩, fun e => ?_⟩
          rw [e] at c1
          exact c1 (by decide)
        · rw [xite_f c2]
    · rw [B63_0, M1, bI_f (fun hb => by
        rw [n_i2l, n_lNt (by omega), n_lNt (by omega)] at hb
        refine h1 ⟨⟨by omega, by omega⟩, fun e => ?_⟩
        rw [e, n_toInt (by omega)] at hb
        omega)]
      simp (disch := omega) only [n_cl, n_lt, n_le, n_eq, n_lt0, n_0lt, n_le0, n_eq0, n_gneq, n_ngeq, n_ng0, n_nglt, n_glt, n_gle, n_ltg, n_leg, n_gg, n_ge0, n_add, n_mul, n_rem, n_shl1, n_and, n_or, n_bit, n_not, n_not', n_B1, n_B0, n_BB, obind, xite_T, xite_F, xite_not, xite_same, oI_s, oI_n, Bool.false_eq_true, reduceCtorEq, eq_self, Classical.not_not, bI_T, bI_Fa, bI_0, bI_n0, bI_x, xb_0, xb_1, xite_bI, xite_bI', not_true_eq_false, not_false_eq_true, Nat.zero_add, Nat.add_zero, Nat.mul_zero, Nat.mul_one, Nat.one_mul, reduceIte, Nat.reduceEqDiff, Nat.reduceAdd, Nat.reduceMul, Nat.reduceSub, Nat.reduceLT, Nat.reduceLeDiff, Nat.reducePow, ite_true, ite_false, if_true, if_false, and_true, true_and, false_and, and_false, or_false, false_or, true_or, or_true, ne_eq, ]
theorem duo_seeded (d : Nat) (S : mG) (hX : WX (xaR S.1) S.1) (n z : Int32) : Duo (d + 60) (fun σ => xentry 156 [.inr (.inr (0, (some 0))), .inl n, .inl z] σ) (fun σ => xentry 63 [.inr (.inr (17, (some 0))), .inl n, .inl z] σ) S :=
  duo_seeded0 d drw nx (fun _ _ h => drw_lt h) (fun d σ z => B177_0 d σ z) (fun d σ z _ h0 hn => C178 d σ z h0 hn) (fun d σ _ _ hz h0 hn => M62 d σ hz h0 hn) S hX n z
