/-! SPITE, NEWLY -/
def SmX (r _ k : Nat) : Prop := (r = 17 ∧ ¬ k = 10) ∨ r = 18 ∨ r = 20 ∨ r = 21 ∨ (28 ≤ r ∧ r ≤ 34)
theorem MI_Z {σ σ' : xS} {S : mG} {X : mX} (h : MI σ S) (k : xF SmX σ σ') (hX : ML (rI σ' 18 0) (xaR X) X) : MI σ' (X, S.2) ∧ kM σ σ' := by
  refine ⟨?_, xF_le k (fun r j k s => by unfold SmX at s; unfold Smd; omega)⟩
  obtain ⟨a, b, c, e⟩ := h
  unfold MI mShl
  rw [k.1 17 0 10 (by unfold SmX; omega), xF_I k (r := 19) (i := 0) (fun k => by unfold SmX; omega), xF_I k (r := 22) (i := 0) (fun k => by unfold SmX; omega), xF_I k (r := 23) (i := 0) (fun k => by unfold SmX; omega), xF_I k (r := 24) (i := 0) (fun k => by unfold SmX; omega), xF_I k (r := 25) (i := 0) (fun k => by unfold SmX; omega), xF_I k (r := 26) (i := 0) (fun k => by unfold SmX; omega), xF_I k (r := 27) (i := 0) (fun k => by unfold SmX; omega)]
  exact ⟨hX, b, c, e⟩
theorem S44_X (r j k : Nat) (h : S44 r j k) : SmX r j k := by unfold S44 at h; unfold SmX; omega
/-- the land with one nick more -/
def nkX (X : mX) (g r : Nat) : mX := (X.1, (xaF X, xaT X, xaM X, fun r' => if r' = r then xaN X r ||| 2 ^ g else xaN X r'), X.2.2)
theorem nkX_fre {X : mX} {g r r' : Nat} : fre (nkX X g r) g r' = if r' = r then false else fre X g r' := by
  unfold fre
  show (!(if r' = r then xaN X r ||| 2 ^ g else xaN X r').testBit g) = _
  by_cases h : r' = r
  · rw [if_pos h, if_pos h, Nat.testBit_or, Nat.testBit_two_pow_self]
    simp
  · rw [if_neg h, if_neg h]
theorem nkX_lds {X : mX} {g r s : Nat} : ∀ n, lds (nkX X g r) g s n + (if r < n then ldr X g s r else 0) = lds X g s n := by
  intro n
  induction n with
  | zero => rfl
  | succ n ih =>
    have e : ldr (nkX X g r) g s n = if n = r then 0 else ldr X g s n := by
      unfold ldr
      rw [nkX_fre]
      by_cases h : n = r
      · rw [if_pos h, if_pos h]
        simp
      · rw [if_neg h, if_neg h]
        rfl
    show lds (nkX X g r) g s n + ldr (nkX X g r) g s n + _ = lds X g s n + ldr X g s n
    rw [e]
    by_cases h : n = r
    · subst h
      rw [if_neg (by omega)] at ih
      rw [if_pos rfl, if_pos (by omega)]
      omega
    · rw [if_neg h]
      by_cases h2 : r < n
      · rw [if_pos h2] at ih
        rw [if_pos (by omega)]
        omega
      · rw [if_neg h2] at ih
        rw [if_neg (by omega)]
        omega
theorem nk_back : ∀ a, a < 16 → ∀ g, g < 4 → a.testBit g = false → nM (a ||| 2 ^ g) (2 ^ g) = a ∧ a ||| 2 ^ g < 16 := by decide +kernel
/-- a nick is laid and taken back -/
theorem ML_nk {f : Nat → Int32} {n r g : Nat} {X : mX} (h : ML f n X) (hr : r < n) (hx : xaN X r ||| 2 ^ g < 16) : ML (fun k => if k = 3 + 4 * r + 3 then nI (xaN X r ||| 2 ^ g) else f k) n (nkX X g r) := ML_N h hr hx (fun r' => rfl)
theorem ML_bk {f : Nat → Int32} {n r g : Nat} {X : mX} (h : ML f n (nkX X g r)) (hr : r < n) (hx : xaN X r < 16) : ML (fun k => if k = 3 + 4 * r + 3 then nI (xaN X r) else f k) n X := by
  have := ML_N (v := xaN X r) (N' := xaN X) h hr hx (fun r' => by
    show xaN X r' = if r' = r then xaN X r else (if r' = r then xaN X r ||| 2 ^ g else xaN X r')
    by_cases e : r' = r
    · rw [if_pos e, e]
    · rw [if_neg e, if_neg e])
  exact this
def spS (X : mX) (g : Nat) (vals : Nat → Nat) (r : Nat) (acc : mC) : mC := if fre X g r = true then (match acc with
  | none => some (vals r, r)
  | some (v, t) => if v ≤ vals r then some (v, t) else some (vals r, r)) else acc
theorem M48 (d : Nat) {g a b : Nat} {w : Int32} {X : mX} {vals : Nat → Nat} (hg : g < 4) (ha : a < 6) (hb : b < 6) (hvals : ∀ r, r < xaR X → fre X g r = true → c1 (cut (fun s => lds (nkX X g r) g s (xaR X)) a b (2 ^ xaP X)) = some (vals r) ∧ vals r < 100) : ∀ m r acc σ, r + m = xaR X → ML (rI σ 18 0) (xaR X) X → (∀ v t, acc = some (v, t) → v < 100 ∧ t < 100) →
    ∃ σ', run (d + 5) (48, 34, [some (.inr (.inr (17, (some 0)))), some (.inl (nI (g))), some (.inl (nI (a))), some (.inl (nI (b))), some (.inl w), some (.inl (oI 4 (c2 acc))), some (.inl (oI 4 (c1 acc))), some (.inl (nI (r))), none], [], σ) = some ((xite (w = 0) (oI 4 (c2 (fl (spS X g vals) m r acc))) (oI 4 (c1 (fl (spS X g vals) m r acc))), 0, none), σ') ∧ ML (rI σ' 18 0) (xaR X) X ∧ xF SmX σ σ' := by
  intro m
  induction m with
  | zero =>
    intro r acc σ hr h _
    have hR9 := h.1.2.2.1
    have e : r = xaR X := by omega
    subst e
    refine ⟨σ, ?_, h, xF_refl σ⟩
    rw [B48_34]
    simp (disch := omega) only [n_cl, n_lt, n_le, n_eq, n_lt0, n_0lt, n_le0, n_eq0, n_gneq, n_ngeq, n_ng0, n_nglt, n_glt, n_gle, n_ltg, n_leg, n_gg, n_ge0, n_add, n_mul, n_rem, n_shl1, n_and, n_or, n_bit, n_not, n_not', n_B1, n_B0, n_BB, obind, xite_T, xite_F, xite_not, xite_same, oI_s, oI_n, Bool.false_eq_true, reduceCtorEq, eq_self, Classical.not_not, bI_T, bI_Fa, bI_0, bI_n0, bI_x, xb_0, xb_1, xite_bI, xite_bI', not_true_eq_false, not_false_eq_true, Nat.zero_add, Nat.add_zero, Nat.mul_zero, Nat.mul_one, Nat.one_mul, reduceIte, Nat.reduceEqDiff, Nat.reduceAdd, Nat.reduceMul, Nat.reduceSub, Nat.reduceLT, Nat.reduceLeDiff, Nat.reducePow, ite_true, ite_false, if_true, if_false, and_true, true_and, false_and, and_false, or_false, false_or, true_or, or_true, ne_eq, xite_t, xite_f, h.2.2.1]
    by_cases hw : w = 0
    · rw [xite_t hw, xite_t hw]; rfl
    · rw [xite_f hw, xite_f hw]; rfl
  | succ m ih =>
    intro r acc σ hr h hacc
    have hR9 := h.1.2.2.1
    have hr' : r < xaR X := by omega
    have hb2 := h.1.2.2.2.2.2.1 r hr'
    show ∃ σ', _ = some ((xite (w = 0) (oI 4 (c2 (fl (spS X g vals) m (r + 1) (spS X g vals r acc)))) (oI 4 (c1 (fl (spS X g vals) m (r + 1) (spS X g vals r acc)))), 0, none), σ') ∧ _
    by_cases hf : fre X g r = true
    · have hf0 : (xaN X r).testBit g = false := by rw [fre_t] at hf; exact hf
      obtain ⟨n1, n2⟩ := nk_back _ hb2.2.2.2.2.2 _ hg hf0
      obtain ⟨v1, v2⟩ := hvals r hr' hf
      have hw1 : xF SmX σ (wI σ 18 0 (3 + 4 * r + 3) (nI (xaN X r ||| 2 ^ g))) := xF_wI (xF_refl σ) _ (by unfold SmX; omega)
      have hM1 : ML (rI (wI σ 18 0 (3 + 4 * r + 3) (nI (xaN X r ||| 2 ^ g))) 18 0) (xaR X) (nkX X g r) := by
        rw [w_I1]; exact ML_nk h hr' n2
      obtain ⟨σ1, f1, f2, f3⟩ := M44 d _ (n := xaR X) (g := g) (a := a) (b := b) hM1 (Nat.le_refl _) hg ha hb
      have ec : c1 (cut (fun s => lds (nkX X g r) g s (xaR X)) a b (2 ^ xaP (nkX X g r))) = some (vals r) := v1
      rw [ec] at f1
      have hM2 : ML (rI σ1 18 0) (xaR X) (nkX X g r) := by rw [xF_I f3 (fun k => by unfold S44; omega)]; exact hM1
      have hw2 : xF SmX σ (wI σ1 18 0 (3 + 4 * r + 3) (nI (xaN X r))) := xF_wI (xF_trans hw1 (xF_le f3 S44_X)) _ (by unfold SmX; omega)
      have hM3 : ML (rI (wI σ1 18 0 (3 + 4 * r + 3) (nI (xaN X r))) 18 0) (xaR X) X := by
        rw [w_I1]; exact ML_bk hM2 hr' hb2.2.2.2.2.2
      have er1 : rI (wI σ 18 0 (3 + 4 * r + 3) (nI (xaN X r ||| 2 ^ g))) 18 0 1 = nI (xaR X) := hM1.2.2.1
      have e8 := M8_3 (d + 3) σ1 hM2 hr'
      have exn : xaN (nkX X g r) r = xaN X r ||| 2 ^ g := if_pos rfl
      rw [exn] at e8
      have fin : ∀ acc', spS X g vals r acc = acc' → (∀ v t, acc' = some (v, t) → v < 100 ∧ t < 100) → ∃ σ', run (d + 5) (48, 34, [some (.inr (.inr (17, (some 0)))), some (.inl (nI (g))), some (.inl (nI (a))), some (.inl (nI (b))), some (.inl w), some (.inl (oI 4 (c2 acc'))), some (.inl (oI 4 (c1 acc'))), some (.inl (nI (r + 1))), none], [], wI σ1 18 0 (3 + 4 * r + 3) (nI (xaN X r))) = some ((xite (w = 0) (oI 4 (c2 (fl (spS X g vals) m (r + 1) (spS X g vals r acc)))) (oI 4 (c1 (fl (spS X g vals) m (r + 1) (spS X g vals r acc)))), 0, none), σ') ∧ ML (rI σ' 18 0) (xaR X) X ∧ xF SmX σ σ' := by
        intro acc' e hacc'
        obtain ⟨σ2, g1, g2, g3⟩ := ih (r + 1) acc' _ (by omega) hM3 hacc'
        rw [e]
        exact ⟨σ2, g1, g2, xF_trans hw2 g3⟩
      rw [B48_34]
      simp (disch := omega) only [n_cl, n_lt, n_le, n_eq, n_lt0, n_0lt, n_le0, n_eq0, n_gneq, n_ngeq, n_ng0, n_nglt, n_glt, n_gle, n_ltg, n_leg, n_gg, n_ge0, n_add, n_mul, n_rem, n_shl1, n_and, n_or, n_bit, n_not, n_not', n_B1, n_B0, n_BB, obind, xite_T, xite_F, xite_not, xite_same, oI_s, oI_n, Bool.false_eq_true, reduceCtorEq, eq_self, Classical.not_not, bI_T, bI_Fa, bI_0, bI_n0, bI_x, xb_0, xb_1, xite_bI, xite_bI', not_true_eq_false, not_false_eq_true, Nat.zero_add, Nat.add_zero, Nat.mul_zero, Nat.mul_one, Nat.one_mul, reduceIte, Nat.reduceEqDiff, Nat.reduceAdd, Nat.reduceMul, Nat.reduceSub, Nat.reduceLT, Nat.reduceLeDiff, Nat.reducePow, ite_true, ite_false, if_true, if_false, and_true, true_and, false_and, and_false, or_false, false_or, true_or, or_true, ne_eq, xite_t, xite_f, h.2.2.1, M17 _ _ h hr' hg, hf, M8_3 _ _ h hr', M9, er1, f1, e8, n1]
      cases acc with
      | none =>
        obtain ⟨σ2, g1, g2⟩ := fin (some (vals r, r)) (by unfold spS; rw [if_pos hf]) (fun v t ht => by cases ht; omega)
        refine ⟨σ2, ?_, g2⟩
        simp (disch := omega) only [n_cl, n_lt, n_le, n_eq, n_lt0, n_0lt, n_le0, n_eq0, n_gneq, n_ngeq, n_ng0, n_nglt, n_glt, n_gle, n_ltg, n_leg, n_gg, n_ge0, n_add, n_mul, n_rem, n_shl1, n_and, n_or, n_bit, n_not, n_not', n_B1, n_B0, n_BB, obind, xite_T, xite_F, xite_not, xite_same, oI_s, oI_n, Bool.false_eq_true, reduceCtorEq, eq_self, Classical.not_not, bI_T, bI_Fa, bI_0, bI_n0, bI_x, xb_0, xb_1, xite_bI, xite_bI', not_true_eq_false, not_false_eq_true, Nat.zero_add, Nat.add_zero, Nat.mul_zero, Nat.mul_one, Nat.one_mul, reduceIte, Nat.reduceEqDiff, Nat.reduceAdd, Nat.reduceMul, Nat.reduceSub, Nat.reduceLT, Nat.reduceLeDiff, Nat.reducePow, ite_true, ite_false, if_true, if_false, and_true, true_and, false_and, and_false, or_false, false_or, true_or, or_true, ne_eq, xite_t, xite_f, c2]
        exact g1
      | some q =>
        obtain ⟨v0, t0⟩ := q
        have hv0 := hacc v0 t0 rfl
        by_cases hle : v0 ≤ vals r
        · obtain ⟨σ2, g1, g2⟩ := fin (some (v0, t0)) (by unfold spS; rw [if_pos hf]; exact if_pos hle) hacc
          refine ⟨σ2, ?_, g2⟩
          simp (disch := omega) only [n_cl, n_lt, n_le, n_eq, n_lt0, n_0lt, n_le0, n_eq0, n_gneq, n_ngeq, n_ng0, n_nglt, n_glt, n_gle, n_ltg, n_leg, n_gg, n_ge0, n_add, n_mul, n_rem, n_shl1, n_and, n_or, n_bit, n_not, n_not', n_B1, n_B0, n_BB, obind, xite_T, xite_F, xite_not, xite_same, oI_s, oI_n, Bool.false_eq_true, reduceCtorEq, eq_self, Classical.not_not, bI_T, bI_Fa, bI_0, bI_n0, bI_x, xb_0, xb_1, xite_bI, xite_bI', not_true_eq_false, not_false_eq_true, Nat.zero_add, Nat.add_zero, Nat.mul_zero, Nat.mul_one, Nat.one_mul, reduceIte, Nat.reduceEqDiff, Nat.reduceAdd, Nat.reduceMul, Nat.reduceSub, Nat.reduceLT, Nat.reduceLeDiff, Nat.reducePow, ite_true, ite_false, if_true, if_false, and_true, true_and, false_and, and_false, or_false, false_or, true_or, or_true, ne_eq, xite_t, xite_f, c1, c2]
          exact g1
        · obtain ⟨σ2, g1, g2⟩ := fin (some (vals r, r)) (by unfold spS; rw [if_pos hf]; exact if_neg hle) (fun v t ht => by cases ht; omega)
          refine ⟨σ2, ?_, g2⟩
          simp (disch := omega) only [n_cl, n_lt, n_le, n_eq, n_lt0, n_0lt, n_le0, n_eq0, n_gneq, n_ngeq, n_ng0, n_nglt, n_glt, n_gle, n_ltg, n_leg, n_gg, n_ge0, n_add, n_mul, n_rem, n_shl1, n_and, n_or, n_bit, n_not, n_not', n_B1, n_B0, n_BB, obind, xite_T, xite_F, xite_not, xite_same, oI_s, oI_n, Bool.false_eq_true, reduceCtorEq, eq_self, Classical.not_not, bI_T, bI_Fa, bI_0, bI_n0, bI_x, xb_0, xb_1, xite_bI, xite_bI', not_true_eq_false, not_false_eq_true, Nat.zero_add, Nat.add_zero, Nat.mul_zero, Nat.mul_one, Nat.one_mul, reduceIte, Nat.reduceEqDiff, Nat.reduceAdd, Nat.reduceMul, Nat.reduceSub, Nat.reduceLT, Nat.reduceLeDiff, Nat.reducePow, ite_true, ite_false, if_true, if_false, and_true, true_and, false_and, and_false, or_false, false_or, true_or, or_true, ne_eq, xite_t, xite_f, c1, c2]
          exact g1
    · have e : spS X g vals r acc = acc := if_neg hf
      rw [e]
      obtain ⟨σ2, g1, g2, g3⟩ := ih (r + 1) acc σ (by omega) h hacc
      refine ⟨σ2, ?_, g2, g3⟩
      rw [B48_34]
      simp (disch := omega) only [n_cl, n_lt, n_le, n_eq, n_lt0, n_0lt, n_le0, n_eq0, n_gneq, n_ngeq, n_ng0, n_nglt, n_glt, n_gle, n_ltg, n_leg, n_gg, n_ge0, n_add, n_mul, n_rem, n_shl1, n_and, n_or, n_bit, n_not, n_not', n_B1, n_B0, n_BB, obind, xite_T, xite_F, xite_not, xite_same, oI_s, oI_n, Bool.false_eq_true, reduceCtorEq, eq_self, Classical.not_not, bI_T, bI_Fa, bI_0, bI_n0, bI_x, xb_0, xb_1, xite_bI, xite_bI', not_true_eq_false, not_false_eq_true, Nat.zero_add, Nat.add_zero, Nat.mul_zero, Nat.mul_one, Nat.one_mul, reduceIte, Nat.reduceEqDiff, Nat.reduceAdd, Nat.reduceMul, Nat.reduceSub, Nat.reduceLT, Nat.reduceLeDiff, Nat.reducePow, ite_true, ite_false, if_true, if_false, and_true, true_and, false_and, and_false, or_false, false_or, true_or, or_true, ne_eq, xite_t, xite_f, h.2.2.1, M17 _ _ h hr' hg, hf]
      exact g1
theorem C149 (d : Nat) {g a b : Nat} {w : Int32} {X : mX} {vals : Nat → Nat} (hg : g < 4) (ha : a < 6) (hb : b < 6) (hvals : ∀ r, r < xaR X → fre X g r = true → c1 (cut (fun s => lds (nkX X g r) g s (xaR X)) a b (2 ^ xaP X)) = some (vals r) ∧ vals r < 100) (σ : xS) (h : CL σ 0 X) (h6 : ∀ s, s < 2 ^ xaP X → rI σ 6 0 s = nI (lds X g s (xaR X))) : ∀ m r acc, r + m = xaR X → (∀ v t, acc = some (v, t) → v < 100 ∧ t < 100) →
    run (d + 3) (149, 40, [some (.inr (.inr (0, (some 0)))), some (.inl (nI (g))), some (.inl (nI (a))), some (.inl (nI (b))), some (.inl w), some (.inl (oI 4 (c2 acc))), some (.inl (oI 4 (c1 acc))), some (.inl (nI (r))), none], [], σ) = some ((xite (w = 0) (oI 4 (c2 (fl (spS X g vals) m r acc))) (oI 4 (c1 (fl (spS X g vals) m r acc))), 0, none), σ) := by
  intro m
  have hR9 := h.1.2.2.1
  have hP6 := h.1.2.1
  induction m with
  | zero =>
    intro r acc hr _
    have e : r = xaR X := by omega
    subst e
    rw [B149_40]
    simp (disch := omega) only [n_cl, n_lt, n_le, n_eq, n_lt0, n_0lt, n_le0, n_eq0, n_gneq, n_ngeq, n_ng0, n_nglt, n_glt, n_gle, n_ltg, n_leg, n_gg, n_ge0, n_add, n_mul, n_rem, n_shl1, n_and, n_or, n_bit, n_not, n_not', n_B1, n_B0, n_BB, obind, xite_T, xite_F, xite_not, xite_same, oI_s, oI_n, Bool.false_eq_true, reduceCtorEq, eq_self, Classical.not_not, bI_T, bI_Fa, bI_0, bI_n0, bI_x, xb_0, xb_1, xite_bI, xite_bI', not_true_eq_false, not_false_eq_true, Nat.zero_add, Nat.add_zero, Nat.mul_zero, Nat.mul_one, Nat.one_mul, reduceIte, Nat.reduceEqDiff, Nat.reduceAdd, Nat.reduceMul, Nat.reduceSub, Nat.reduceLT, Nat.reduceLeDiff, Nat.reducePow, ite_true, ite_false, if_true, if_false, and_true, true_and, false_and, and_false, or_false, false_or, true_or, or_true, ne_eq, xite_t, xite_f, h.2.2.1]
    by_cases hw : w = 0
    · rw [xite_t hw, xite_t hw]; rfl
    · rw [xite_f hw, xite_f hw]; rfl
  | succ m ih =>
    intro r acc hr hacc
    have hr' : r < xaR X := by omega
    have hb2 := h.1.2.2.2.2.2.1 r hr'
    have e1 := h.2.2.2.2.1 r hr'
    show _ = some ((xite (w = 0) (oI 4 (c2 (fl (spS X g vals) m (r + 1) (spS X g vals r acc)))) (oI 4 (c1 (fl (spS X g vals) m (r + 1) (spS X g vals r acc)))), 0, none), σ)
    by_cases hf : fre X g r = true
    · obtain ⟨v1, v2⟩ := hvals r hr' hf
      have k1 := C107 d σ (p := xaF X r) (q := xaT X r) (more := -nI 1) (val := fun s => lds (nkX X g r) g s (xaR X)) h ha hb (by omega) (by omega) (fun s hs _ _ => by
        have hl := @lds_le (nkX X g r) g s (xaR X)
        have e := @nkX_lds X g r s (xaR X)
        rw [if_pos hr'] at e
        refine ⟨?_, by omega⟩
        rw [h6 s hs, ← e]
        unfold ldr
        by_cases hc : s.testBit (xaF X r) = s.testBit (xaT X r)
        · rw [if_pos hc, if_neg (fun h => h.2 hc), n_add]
          rfl
        · rw [if_neg hc, if_pos ⟨hf, hc⟩, ← Int32.sub_eq_add_neg, n_sub (by omega)]
          rfl)
      rw [v1] at k1
      rw [B149_40]
      simp (disch := omega) only [n_cl, n_lt, n_le, n_eq, n_lt0, n_0lt, n_le0, n_eq0, n_gneq, n_ngeq, n_ng0, n_nglt, n_glt, n_gle, n_ltg, n_leg, n_gg, n_ge0, n_add, n_mul, n_rem, n_shl1, n_and, n_or, n_bit, n_not, n_not', n_B1, n_B0, n_BB, obind, xite_T, xite_F, xite_not, xite_same, oI_s, oI_n, Bool.false_eq_true, reduceCtorEq, eq_self, Classical.not_not, bI_T, bI_Fa, bI_0, bI_n0, bI_x, xb_0, xb_1, xite_bI, xite_bI', not_true_eq_false, not_false_eq_true, Nat.zero_add, Nat.add_zero, Nat.mul_zero, Nat.mul_one, Nat.one_mul, reduceIte, Nat.reduceEqDiff, Nat.reduceAdd, Nat.reduceMul, Nat.reduceSub, Nat.reduceLT, Nat.reduceLeDiff, Nat.reducePow, ite_true, ite_false, if_true, if_false, and_true, true_and, false_and, and_false, or_false, false_or, true_or, or_true, ne_eq, xite_t, xite_f, h.2.2.1, C100 _ _ h hr' hg, hf, e1.1, e1.2.1, k1]
      cases acc with
      | none =>
        have e : spS X g vals r none = some (vals r, r) := by unfold spS; rw [if_pos hf]
        rw [e]
        simp (disch := omega) only [n_cl, n_lt, n_le, n_eq, n_lt0, n_0lt, n_le0, n_eq0, n_gneq, n_ngeq, n_ng0, n_nglt, n_glt, n_gle, n_ltg, n_leg, n_gg, n_ge0, n_add, n_mul, n_rem, n_shl1, n_and, n_or, n_bit, n_not, n_not', n_B1, n_B0, n_BB, obind, xite_T, xite_F, xite_not, xite_same, oI_s, oI_n, Bool.false_eq_true, reduceCtorEq, eq_self, Classical.not_not, bI_T, bI_Fa, bI_0, bI_n0, bI_x, xb_0, xb_1, xite_bI, xite_bI', not_true_eq_false, not_false_eq_true, Nat.zero_add, Nat.add_zero, Nat.mul_zero, Nat.mul_one, Nat.one_mul, reduceIte, Nat.reduceEqDiff, Nat.reduceAdd, Nat.reduceMul, Nat.reduceSub, Nat.reduceLT, Nat.reduceLeDiff, Nat.reducePow, ite_true, ite_false, if_true, if_false, and_true, true_and, false_and, and_false, or_false, false_or, true_or, or_true, ne_eq, xite_t, xite_f, c2]
        exact ih (r + 1) (some (vals r, r)) (by omega) (fun v t ht => by cases ht; omega)
      | some q =>
        obtain ⟨v0, t0⟩ := q
        have hv0 := hacc v0 t0 rfl
        by_cases hle : v0 ≤ vals r
        · have e : spS X g vals r (some (v0, t0)) = some (v0, t0) := by unfold spS; rw [if_pos hf]; exact if_pos hle
          rw [e]
          simp (disch := omega) only [n_cl, n_lt, n_le, n_eq, n_lt0, n_0lt, n_le0, n_eq0, n_gneq, n_ngeq, n_ng0, n_nglt, n_glt, n_gle, n_ltg, n_leg, n_gg, n_ge0, n_add, n_mul, n_rem, n_shl1, n_and, n_or, n_bit, n_not, n_not', n_B1, n_B0, n_BB, obind, xite_T, xite_F, xite_not, xite_same, oI_s, oI_n, Bool.false_eq_true, reduceCtorEq, eq_self, Classical.not_not, bI_T, bI_Fa, bI_0, bI_n0, bI_x, xb_0, xb_1, xite_bI, xite_bI', not_true_eq_false, not_false_eq_true, Nat.zero_add, Nat.add_zero, Nat.mul_zero, Nat.mul_one, Nat.one_mul, reduceIte, Nat.reduceEqDiff, Nat.reduceAdd, Nat.reduceMul, Nat.reduceSub, Nat.reduceLT, Nat.reduceLeDiff, Nat.reducePow, ite_true, ite_false, if_true, if_false, and_true, true_and, false_and, and_false, or_false, false_or, true_or, or_true, ne_eq, xite_t, xite_f, c1, c2]
          exact ih (r + 1) (some (v0, t0)) (by omega) hacc
        · have e : spS X g vals r (some (v0, t0)) = some (vals r, r) := by unfold spS; rw [if_pos hf]; exact if_neg hle
          rw [e]
          simp (disch := omega) only [n_cl, n_lt, n_le, n_eq, n_lt0, n_0lt, n_le0, n_eq0, n_gneq, n_ngeq, n_ng0, n_nglt, n_glt, n_gle, n_ltg, n_leg, n_gg, n_ge0, n_add, n_mul, n_rem, n_shl1, n_and, n_or, n_bit, n_not, n_not', n_B1, n_B0, n_BB, obind, xite_T, xite_F, xite_not, xite_same, oI_s, oI_n, Bool.false_eq_true, reduceCtorEq, eq_self, Classical.not_not, bI_T, bI_Fa, bI_0, bI_n0, bI_x, xb_0, xb_1, xite_bI, xite_bI', not_true_eq_false, not_false_eq_true, Nat.zero_add, Nat.add_zero, Nat.mul_zero, Nat.mul_one, Nat.one_mul, reduceIte, Nat.reduceEqDiff, Nat.reduceAdd, Nat.reduceMul, Nat.reduceSub, Nat.reduceLT, Nat.reduceLeDiff, Nat.reducePow, ite_true, ite_false, if_true, if_false, and_true, true_and, false_and, and_false, or_false, false_or, true_or, or_true, ne_eq, xite_t, xite_f, c1, c2]
          exact ih (r + 1) (some (vals r, r)) (by omega) (fun v t ht => by cases ht; omega)
    · have e : spS X g vals r acc = acc := if_neg hf
      rw [e]
      rw [B149_40]
      simp (disch := omega) only [n_cl, n_lt, n_le, n_eq, n_lt0, n_0lt, n_le0, n_eq0, n_gneq, n_ngeq, n_ng0, n_nglt, n_glt, n_gle, n_ltg, n_leg, n_gg, n_ge0, n_add, n_mul, n_rem, n_shl1, n_and, n_or, n_bit, n_not, n_not', n_B1, n_B0, n_BB, obind, xite_T, xite_F, xite_not, xite_same, oI_s, oI_n, Bool.false_eq_true, reduceCtorEq, eq_self, Classical.not_not, bI_T, bI_Fa, bI_0, bI_n0, bI_x, xb_0, xb_1, xite_bI, xite_bI', not_true_eq_false, not_false_eq_true, Nat.zero_add, Nat.add_zero, Nat.mul_zero, Nat.mul_one, Nat.one_mul, reduceIte, Nat.reduceEqDiff, Nat.reduceAdd, Nat.reduceMul, Nat.reduceSub, Nat.reduceLT, Nat.reduceLeDiff, Nat.reducePow, ite_true, ite_false, if_true, if_false, and_true, true_and, false_and, and_false, or_false, false_or, true_or, or_true, ne_eq, xite_t, xite_f, h.2.2.1, C100 _ _ h hr' hg, hf]
      exact ih (r + 1) acc (by omega) hacc
theorem cut_val {X : mX} {val : Nat → Nat} {a b P : Nat} (ha : a < P) (hab : ¬ a = b) (h : ∀ s, val s < 100) : ∃ v, c1 (cut val a b (2 ^ P)) = some v ∧ v < 100 := by
  obtain ⟨v, t, e⟩ := cut_some (val := val) ha hab
  have := ((cut_spec (2 ^ P)).1 v t e).2.2.2.1
  exact ⟨v, by rw [e]; rfl, by rw [this]; exact h t⟩
theorem duo_spite (d : Nat) (S : mG) (hX : WX (xaR S.1) S.1) (g a b w : Int32) : Duo (d + 60) (fun σ => xentry 149 [.inr (.inr (0, (some 0))), .inl g, .inl a, .inl b, .inl w] σ) (fun σ => xentry 48 [.inr (.inr (17, (some 0))), .inl g, .inl a, .inl b, .inl w] σ) S := by
  have hP6 := hX.2.1
  have hR9 := hX.2.2.1
  by_cases h1 : errand S.1 g a b
  · by_cases h2 : inb w 2
    · obtain ⟨g', a', b', e1, e2, e3, hg, ha, hb, hab⟩ := errand_of hX h1
      subst e1 e2 e3
      have hvals : ∀ r, ∃ v, c1 (cut (fun s => lds (nkX S.1 g' r) g' s (xaR S.1)) a' b' (2 ^ xaP S.1)) = some v ∧ v < 100 := fun r => cut_val (X := S.1) ha hab (fun s => by
        have := @lds_le (nkX S.1 g' r) g' s (xaR S.1)
        omega)
      obtain ⟨vals, hvals⟩ := Classical.axiomOfChoice hvals
      refine ⟨xite (w = 0) (oI 4 (c2 (fl (spS S.1 g' vals) (xaR S.1) 0 none))) (oI 4 (c1 (fl (spS S.1 g' vals) (xaR S.1) 0 none))), S, fun σ h => ?_, fun σ h => ?_⟩
      · obtain ⟨σ1, f1, f2, f3⟩ := C106 (d + 56) σ h.1 hg
        have hC := CL_6 h.1 f3
        refine ⟨σ1, ?_, CI_Scr h (xF_le f3 S106_S), kC_F f3 (fun r j k s => Scr_16 _ _ _ (S106_S _ _ _ s))⟩
        have k1 := C149 (d + 57) (w := w) hg (show a' < 6 by omega) (show b' < 6 by omega) (fun r _ _ => hvals r) σ1 hC f2 (xaR S.1) 0 none (by omega) (fun v t ht => by cases ht)
        show run (d + 60) (xentry 149 _ σ) = _
        rw [B149_0, C169 _ _ _ _ _ h.1]
        simp (disch := omega) only [n_cl, n_lt, n_le, n_eq, n_lt0, n_0lt, n_le0, n_eq0, n_gneq, n_ngeq, n_ng0, n_nglt, n_glt, n_gle, n_ltg, n_leg, n_gg, n_ge0, n_add, n_mul, n_rem, n_shl1, n_and, n_or, n_bit, n_not, n_not', n_B1, n_B0, n_BB, obind, xite_T, xite_F, xite_not, xite_same, oI_s, oI_n, Bool.false_eq_true, reduceCtorEq, eq_self, Classical.not_not, bI_T, bI_Fa, bI_0, bI_n0, bI_x, xb_0, xb_1, xite_bI, xite_bI', not_true_eq_false, not_false_eq_true, Nat.zero_add, Nat.add_zero, Nat.mul_zero, Nat.mul_one, Nat.one_mul, reduceIte, Nat.reduceEqDiff, Nat.reduceAdd, Nat.reduceMul, Nat.reduceSub, Nat.reduceLT, Nat.reduceLeDiff, Nat.reducePow, ite_true, ite_false, if_true, if_false, and_true, true_and, false_and, and_false, or_false, false_or, true_or, or_true, ne_eq, xite_t, xite_f, h1, h2, C166, f1]
        exact k1
      · obtain ⟨σ1, f1, f2, f3⟩ := M48 (d + 55) (w := w) hg (show a' < 6 by omega) (show b' < 6 by omega) (fun r _ _ => hvals r) (xaR S.1) 0 none σ (by omega) h.1 (fun v t ht => by cases ht)
        obtain ⟨m1, m2⟩ := MI_Z h f3 f2
        refine ⟨σ1, ?_, m1, m2⟩
        show run (d + 60) (xentry 48 _ σ) = _
        rw [B48_0, M41 _ _ _ _ _ h.1]
        simp (disch := omega) only [n_cl, n_lt, n_le, n_eq, n_lt0, n_0lt, n_le0, n_eq0, n_gneq, n_ngeq, n_ng0, n_nglt, n_glt, n_gle, n_ltg, n_leg, n_gg, n_ge0, n_add, n_mul, n_rem, n_shl1, n_and, n_or, n_bit, n_not, n_not', n_B1, n_B0, n_BB, obind, xite_T, xite_F, xite_not, xite_same, oI_s, oI_n, Bool.false_eq_true, reduceCtorEq, eq_self, Classical.not_not, bI_T, bI_Fa, bI_0, bI_n0, bI_x, xb_0, xb_1, xite_bI, xite_bI', not_true_eq_false, not_false_eq_true, Nat.zero_add, Nat.add_zero, Nat.mul_zero, Nat.mul_one, Nat.one_mul, reduceIte, Nat.reduceEqDiff, Nat.reduceAdd, Nat.reduceMul, Nat.reduceSub, Nat.reduceLT, Nat.reduceLeDiff, Nat.reducePow, ite_true, ite_false, if_true, if_false, and_true, true_and, false_and, and_false, or_false, false_or, true_or, or_true, ne_eq, xite_t, xite_f, h1, h2, M1c]
        exact f1
    · refine duo_bad (-nI 1) (fun σ h => ?_) (fun σ h => ?_)
      · rw [B149_0, C169 _ _ _ _ _ h.1]
        simp (disch := omega) only [n_cl, n_lt, n_le, n_eq, n_lt0, n_0lt, n_le0, n_eq0, n_gneq, n_ngeq, n_ng0, n_nglt, n_glt, n_gle, n_ltg, n_leg, n_gg, n_ge0, n_add, n_mul, n_rem, n_shl1, n_and, n_or, n_bit, n_not, n_not', n_B1, n_B0, n_BB, obind, xite_T, xite_F, xite_not, xite_same, oI_s, oI_n, Bool.false_eq_true, reduceCtorEq, eq_self, Classical.not_not, bI_T, bI_Fa, bI_0, bI_n0, bI_x, xb_0, xb_1, xite_bI, xite_bI', not_true_eq_false, not_false_eq_true, Nat.zero_add, Nat.add_zero, Nat.mul_zero, Nat.mul_one, Nat.one_mul, reduceIte, Nat.reduceEqDiff, Nat.reduceAdd, Nat.reduceMul, Nat.reduceSub, Nat.reduceLT, Nat.reduceLeDiff, Nat.reducePow, ite_true, ite_false, if_true, if_false, and_true, true_and, false_and, and_false, or_false, false_or, true_or, or_true, ne_eq, h1, h2, C166]
      · rw [B48_0, M41 _ _ _ _ _ h.1]
        simp (disch := omega) only [n_cl, n_lt, n_le, n_eq, n_lt0, n_0lt, n_le0, n_eq0, n_gneq, n_ngeq, n_ng0, n_nglt, n_glt, n_gle, n_ltg, n_leg, n_gg, n_ge0, n_add, n_mul, n_rem, n_shl1, n_and, n_or, n_bit, n_not, n_not', n_B1, n_B0, n_BB, obind, xite_T, xite_F, xite_not, xite_same, oI_s, oI_n, Bool.false_eq_true, reduceCtorEq, eq_self, Classical.not_not, bI_T, bI_Fa, bI_0, bI_n0, bI_x, xb_0, xb_1, xite_bI, xite_bI', not_true_eq_false, not_false_eq_true, Nat.zero_add, Nat.add_zero, Nat.mul_zero, Nat.mul_one, Nat.one_mul, reduceIte, Nat.reduceEqDiff, Nat.reduceAdd, Nat.reduceMul, Nat.reduceSub, Nat.reduceLT, Nat.reduceLeDiff, Nat.reducePow, ite_true, ite_false, if_true, if_false, and_true, true_and, false_and, and_false, or_false, false_or, true_or, or_true, ne_eq, h1, h2, M1c]
  · refine duo_bad (-nI 1) (fun σ h => ?_) (fun σ h => ?_)
    · rw [B149_0, C169 _ _ _ _ _ h.1]
      simp (disch := omega) only [n_cl, n_lt, n_le, n_eq, n_lt0, n_0lt, n_le0, n_eq0, n_gneq, n_ngeq, n_ng0, n_nglt, n_glt, n_gle, n_ltg, n_leg, n_gg, n_ge0, n_add, n_mul, n_rem, n_shl1, n_and, n_or, n_bit, n_not, n_not', n_B1, n_B0, n_BB, obind, xite_T, xite_F, xite_not, xite_same, oI_s, oI_n, Bool.false_eq_true, reduceCtorEq, eq_self, Classical.not_not, bI_T, bI_Fa, bI_0, bI_n0, bI_x, xb_0, xb_1, xite_bI, xite_bI', not_true_eq_false, not_false_eq_true, Nat.zero_add, Nat.add_zero, Nat.mul_zero, Nat.mul_one, Nat.one_mul, reduceIte, Nat.reduceEqDiff, Nat.reduceAdd, Nat.reduceMul, Nat.reduceSub, Nat.reduceLT, Nat.reduceLeDiff, Nat.reducePow, ite_true, ite_false, if_true, if_false, and_true, true_and, false_and, and_false, or_false, false_or, true_or, or_true, ne_eq, h1]
    · rw [B48_0, M41 _ _ _ _ _ h.1]
      simp (disch := omega) only [n_cl, n_lt, n_le, n_eq, n_lt0, n_0lt, n_le0, n_eq0, n_gneq, n_ngeq, n_ng0, n_nglt, n_glt, n_gle, n_ltg, n_leg, n_gg, n_ge0, n_add, n_mul, n_rem, n_shl1, n_and, n_or, n_bit, n_not, n_not', n_B1, n_B0, n_BB, obind, xite_T, xite_F, xite_not, xite_same, oI_s, oI_n, Bool.false_eq_true, reduceCtorEq, eq_self, Classical.not_not, bI_T, bI_Fa, bI_0, bI_n0, bI_x, xb_0, xb_1, xite_bI, xite_bI', not_true_eq_false, not_false_eq_true, Nat.zero_add, Nat.add_zero, Nat.mul_zero, Nat.mul_one, Nat.one_mul, reduceIte, Nat.reduceEqDiff, Nat.reduceAdd, Nat.reduceMul, Nat.reduceSub, Nat.reduceLT, Nat.reduceLeDiff, Nat.reducePow, ite_true, ite_false, if_true, if_false, and_true, true_and, false_and, and_false, or_false, false_or, true_or, or_true, ne_eq, h1]
/-- the land with a road more behind its last -/
def rdX (X : mX) (p q : Nat) : mX := (X.1, ((fun r => if r = xaR X then p else xaF X r), (fun r => if r = xaR X then q else xaT X r), (fun r => if r = xaR X then 1 else xaM X r), (fun r => if r = xaR X then 0 else xaN X r)), X.2.2)
theorem rdX_lds {X : mX} {p q g s : Nat} : ∀ n, n ≤ xaR X → lds (rdX X p q) g s n = lds X g s n := by
  intro n
  induction n with
  | zero => intro _; rfl
  | succ n ih =>
    intro hn
    show lds (rdX X p q) g s n + ldr (rdX X p q) g s n = lds X g s n + ldr X g s n
    rw [ih (by omega)]
    congr 1
    unfold ldr fre
    show (if (!(if n = xaR X then 0 else xaN X n).testBit g) = true ∧ ¬ s.testBit (if n = xaR X then p else xaF X n) = s.testBit (if n = xaR X then q else xaT X n) then 1 else 0) = _
    rw [if_neg (show ¬ n = xaR X by omega), if_neg (show ¬ n = xaR X by omega), if_neg (show ¬ n = xaR X by omega)]
theorem rdX_lds1 {X : mX} {p q g s : Nat} : lds (rdX X p q) g s (xaR X + 1) = lds X g s (xaR X) + (if s.testBit p = s.testBit q then 0 else 1) := by
  show lds (rdX X p q) g s (xaR X) + ldr (rdX X p q) g s (xaR X) = _
  rw [rdX_lds _ (Nat.le_refl _)]
  congr 1
  unfold ldr fre
  show (if (!(if xaR X = xaR X then 0 else xaN X (xaR X)).testBit g) = true ∧ ¬ s.testBit (if xaR X = xaR X then p else xaF X (xaR X)) = s.testBit (if xaR X = xaR X then q else xaT X (xaR X)) then 1 else 0) = _
  rw [if_pos rfl, if_pos rfl, if_pos rfl, Nat.zero_testBit]
  by_cases h : s.testBit p = s.testBit q
  · rw [if_pos h, if_neg (fun k => k.2 h)]
  · rw [if_neg h, if_pos ⟨rfl, h⟩]
theorem rdX_W {X : mX} {p q : Nat} (h : WX (xaR X) X) (hp : p < xaP X) (hq : q < xaP X) (hpq : ¬ p = q) : WX (xaR X + 1) (rdX X p q) := by
  refine ⟨h.1, h.2.1, h.2.2.1, h.2.2.2.1, by have := h.2.2.1; omega, fun r hr => ?_, h.2.2.2.2.2.2⟩
  show (if r = xaR X then p else xaF X r) < xaP X ∧ (if r = xaR X then q else xaT X r) < xaP X ∧ (if r = xaR X then p else xaF X r) ≠ (if r = xaR X then q else xaT X r) ∧ 1 ≤ (if r = xaR X then 1 else xaM X r) ∧ (if r = xaR X then 1 else xaM X r) ≤ 9 ∧ (if r = xaR X then 0 else xaN X r) < 16
  by_cases e : r = xaR X
  · simp only [if_pos e]
    exact ⟨hp, hq, hpq, by omega, by omega, by omega⟩
  · simp only [if_neg e]
    exact h.2.2.2.2.2.1 r (by omega)
theorem M27 (d : Nat) (σ : xS) {p q : Nat} {X : mX} (h : ML (rI σ 18 0) (xaR X) X) (hp : p < xaP X) (hq : q < xaP X) (hpq : ¬ p = q) :
    ∃ σ', run (d + 2) (xentry 27 [.inr (.inr (17, (some 0))), .inl (nI p), .inl (nI q), .inl (nI 1)] σ) = some ((0, 0, none), σ') ∧ ML (rI σ' 18 0) (xaR X + 1) (rdX X p q) ∧ xF SM σ σ' := by
  have hR9 := h.1.2.2.1
  have hC6 := h.1.2.2.2.1
  have hr0 := h.2.2.1
  refine ⟨wI (wI (wI (wI σ 18 0 (3 + 4 * xaR X + 0) (nI p)) 18 0 (3 + 4 * xaR X + 1) (nI q)) 18 0 (3 + 4 * xaR X + 2) (nI 1)) 18 0 (3 + 4 * xaR X + 3) (nI 0), ?_, ?_, xF_wI (xF_wI (xF_wI (xF_wI (xF_refl σ) _ rfl) _ rfl) _ rfl) _ rfl⟩
  · rw [B27_0]
    simp (disch := omega) only [n_cl, n_lt, n_le, n_eq, n_lt0, n_0lt, n_le0, n_eq0, n_gneq, n_ngeq, n_ng0, n_nglt, n_glt, n_gle, n_ltg, n_leg, n_gg, n_ge0, n_add, n_mul, n_rem, n_shl1, n_and, n_or, n_bit, n_not, n_not', n_B1, n_B0, n_BB, obind, xite_T, xite_F, xite_not, xite_same, oI_s, oI_n, Bool.false_eq_true, reduceCtorEq, eq_self, Classical.not_not, bI_T, bI_Fa, bI_0, bI_n0, bI_x, xb_0, xb_1, xite_bI, xite_bI', not_true_eq_false, not_false_eq_true, Nat.zero_add, Nat.add_zero, Nat.mul_zero, Nat.mul_one, Nat.one_mul, reduceIte, Nat.reduceEqDiff, Nat.reduceAdd, Nat.reduceMul, Nat.reduceSub, Nat.reduceLT, Nat.reduceLeDiff, Nat.reducePow, ite_true, ite_false, if_true, if_false, and_true, true_and, false_and, and_false, or_false, false_or, true_or, or_true, ne_eq, xite_t, xite_f, hr0, M9, w_I2, w_Is, w_In, w_IL, w_IP, w_IC, w_LI, w_LP, w_LC, w_PI, w_PL, w_PC]
  · refine ⟨rdX_W h.1 hp hq hpq, ?_, ?_, ?_, fun r hr => ?_, fun c hc => ?_⟩
    · simp (disch := omega) only [n_cl, n_lt, n_le, n_eq, n_lt0, n_0lt, n_le0, n_eq0, n_gneq, n_ngeq, n_ng0, n_nglt, n_glt, n_gle, n_ltg, n_leg, n_gg, n_ge0, n_add, n_mul, n_rem, n_shl1, n_and, n_or, n_bit, n_not, n_not', n_B1, n_B0, n_BB, obind, xite_T, xite_F, xite_not, xite_same, oI_s, oI_n, Bool.false_eq_true, reduceCtorEq, eq_self, Classical.not_not, bI_T, bI_Fa, bI_0, bI_n0, bI_x, xb_0, xb_1, xite_bI, xite_bI', not_true_eq_false, not_false_eq_true, Nat.zero_add, Nat.add_zero, Nat.mul_zero, Nat.mul_one, Nat.one_mul, reduceIte, Nat.reduceEqDiff, Nat.reduceAdd, Nat.reduceMul, Nat.reduceSub, Nat.reduceLT, Nat.reduceLeDiff, Nat.reducePow, ite_true, ite_false, if_true, if_false, and_true, true_and, false_and, and_false, or_false, false_or, true_or, or_true, ne_eq, xite_t, xite_f, w_I2, w_Is, w_In, w_IL, w_IP, w_IC, w_LI, w_LP, w_LC, w_PI, w_PL, w_PC]; exact h.2.1
    · simp (disch := omega) only [n_cl, n_lt, n_le, n_eq, n_lt0, n_0lt, n_le0, n_eq0, n_gneq, n_ngeq, n_ng0, n_nglt, n_glt, n_gle, n_ltg, n_leg, n_gg, n_ge0, n_add, n_mul, n_rem, n_shl1, n_and, n_or, n_bit, n_not, n_not', n_B1, n_B0, n_BB, obind, xite_T, xite_F, xite_not, xite_same, oI_s, oI_n, Bool.false_eq_true, reduceCtorEq, eq_self, Classical.not_not, bI_T, bI_Fa, bI_0, bI_n0, bI_x, xb_0, xb_1, xite_bI, xite_bI', not_true_eq_false, not_false_eq_true, Nat.zero_add, Nat.add_zero, Nat.mul_zero, Nat.mul_one, Nat.one_mul, reduceIte, Nat.reduceEqDiff, Nat.reduceAdd, Nat.reduceMul, Nat.reduceSub, Nat.reduceLT, Nat.reduceLeDiff, Nat.reducePow, ite_true, ite_false, if_true, if_false, and_true, true_and, false_and, and_false, or_false, false_or, true_or, or_true, ne_eq, xite_t, xite_f, w_I2, w_Is, w_In, w_IL, w_IP, w_IC, w_LI, w_LP, w_LC, w_PI, w_PL, w_PC]; exact h.2.2.1
    · simp (disch := omega) only [n_cl, n_lt, n_le, n_eq, n_lt0, n_0lt, n_le0, n_eq0, n_gneq, n_ngeq, n_ng0, n_nglt, n_glt, n_gle, n_ltg, n_leg, n_gg, n_ge0, n_add, n_mul, n_rem, n_shl1, n_and, n_or, n_bit, n_not, n_not', n_B1, n_B0, n_BB, obind, xite_T, xite_F, xite_not, xite_same, oI_s, oI_n, Bool.false_eq_true, reduceCtorEq, eq_self, Classical.not_not, bI_T, bI_Fa, bI_0, bI_n0, bI_x, xb_0, xb_1, xite_bI, xite_bI', not_true_eq_false, not_false_eq_true, Nat.zero_add, Nat.add_zero, Nat.mul_zero, Nat.mul_one, Nat.one_mul, reduceIte, Nat.reduceEqDiff, Nat.reduceAdd, Nat.reduceMul, Nat.reduceSub, Nat.reduceLT, Nat.reduceLeDiff, Nat.reducePow, ite_true, ite_false, if_true, if_false, and_true, true_and, false_and, and_false, or_false, false_or, true_or, or_true, ne_eq, xite_t, xite_f, w_I2, w_Is, w_In, w_IL, w_IP, w_IC, w_LI, w_LP, w_LC, w_PI, w_PL, w_PC]; exact h.2.2.2.1
    · show _ = nI (if r = xaR X then p else xaF X r) ∧ _ = nI (if r = xaR X then q else xaT X r) ∧ _ = nI (if r = xaR X then 1 else xaM X r) ∧ _ = nI (if r = xaR X then 0 else xaN X r)
      by_cases e : r = xaR X
      · subst e
        simp only [if_true]
        simp (disch := omega) only [n_cl, n_lt, n_le, n_eq, n_lt0, n_0lt, n_le0, n_eq0, n_gneq, n_ngeq, n_ng0, n_nglt, n_glt, n_gle, n_ltg, n_leg, n_gg, n_ge0, n_add, n_mul, n_rem, n_shl1, n_and, n_or, n_bit, n_not, n_not', n_B1, n_B0, n_BB, obind, xite_T, xite_F, xite_not, xite_same, oI_s, oI_n, Bool.false_eq_true, reduceCtorEq, eq_self, Classical.not_not, bI_T, bI_Fa, bI_0, bI_n0, bI_x, xb_0, xb_1, xite_bI, xite_bI', not_true_eq_false, not_false_eq_true, Nat.zero_add, Nat.add_zero, Nat.mul_zero, Nat.mul_one, Nat.one_mul, reduceIte, Nat.reduceEqDiff, Nat.reduceAdd, Nat.reduceMul, Nat.reduceSub, Nat.reduceLT, Nat.reduceLeDiff, Nat.reducePow, ite_true, ite_false, if_true, if_false, and_true, true_and, false_and, and_false, or_false, false_or, true_or, or_true, ne_eq, xite_t, xite_f, w_I2, w_Is, w_In, w_IL, w_IP, w_IC, w_LI, w_LP, w_LC, w_PI, w_PL, w_PC]
      · simp only [if_neg e]
        simp (disch := omega) only [n_cl, n_lt, n_le, n_eq, n_lt0, n_0lt, n_le0, n_eq0, n_gneq, n_ngeq, n_ng0, n_nglt, n_glt, n_gle, n_ltg, n_leg, n_gg, n_ge0, n_add, n_mul, n_rem, n_shl1, n_and, n_or, n_bit, n_not, n_not', n_B1, n_B0, n_BB, obind, xite_T, xite_F, xite_not, xite_same, oI_s, oI_n, Bool.false_eq_true, reduceCtorEq, eq_self, Classical.not_not, bI_T, bI_Fa, bI_0, bI_n0, bI_x, xb_0, xb_1, xite_bI, xite_bI', not_true_eq_false, not_false_eq_true, Nat.zero_add, Nat.add_zero, Nat.mul_zero, Nat.mul_one, Nat.one_mul, reduceIte, Nat.reduceEqDiff, Nat.reduceAdd, Nat.reduceMul, Nat.reduceSub, Nat.reduceLT, Nat.reduceLeDiff, Nat.reducePow, ite_true, ite_false, if_true, if_false, and_true, true_and, false_and, and_false, or_false, false_or, true_or, or_true, ne_eq, xite_t, xite_f, w_I2, w_Is, w_In, w_IL, w_IP, w_IC, w_LI, w_LP, w_LC, w_PI, w_PL, w_PC]
        exact h.2.2.2.2.1 r (by omega)
    · have hc : c < xaC X := hc
      simp (disch := omega) only [n_cl, n_lt, n_le, n_eq, n_lt0, n_0lt, n_le0, n_eq0, n_gneq, n_ngeq, n_ng0, n_nglt, n_glt, n_gle, n_ltg, n_leg, n_gg, n_ge0, n_add, n_mul, n_rem, n_shl1, n_and, n_or, n_bit, n_not, n_not', n_B1, n_B0, n_BB, obind, xite_T, xite_F, xite_not, xite_same, oI_s, oI_n, Bool.false_eq_true, reduceCtorEq, eq_self, Classical.not_not, bI_T, bI_Fa, bI_0, bI_n0, bI_x, xb_0, xb_1, xite_bI, xite_bI', not_true_eq_false, not_false_eq_true, Nat.zero_add, Nat.add_zero, Nat.mul_zero, Nat.mul_one, Nat.one_mul, reduceIte, Nat.reduceEqDiff, Nat.reduceAdd, Nat.reduceMul, Nat.reduceSub, Nat.reduceLT, Nat.reduceLeDiff, Nat.reducePow, ite_true, ite_false, if_true, if_false, and_true, true_and, false_and, and_false, or_false, false_or, true_or, or_true, ne_eq, xite_t, xite_f, w_I2, w_Is, w_In, w_IL, w_IP, w_IC, w_LI, w_LP, w_LC, w_PI, w_PL, w_PC]
      exact h.2.2.2.2.2 c hc
theorem ML_rd {f : Nat → Int32} {p q : Nat} {X : mX} (h : ML f (xaR X + 1) (rdX X p q)) (hX : WX (xaR X) X) : ML f (xaR X) X := by
  refine ⟨hX, h.2.1, h.2.2.1, h.2.2.2.1, fun r hr => ?_, h.2.2.2.2.2⟩
  have a := h.2.2.2.2.1 r (by omega)
  have a : f (3 + 4 * r) = nI (if r = xaR X then p else xaF X r) ∧ f (3 + 4 * r + 1) = nI (if r = xaR X then q else xaT X r) ∧ f (3 + 4 * r + 2) = nI (if r = xaR X then 1 else xaM X r) ∧ f (3 + 4 * r + 3) = nI (if r = xaR X then 0 else xaN X r) := a
  simp only [if_neg (show ¬ r = xaR X by omega)] at a
  exact a
def nwS (vals : Nat → Nat → Nat) (p q : Nat) : mC → mC
  | none => some (vals p q, 10 * p + q)
  | some (v, t) => if vals p q ≤ v then some (v, t) else some (vals p q, 10 * p + q)
def nwI (vals : Nat → Nat → Nat) (P p : Nat) (acc : mC) : mC := fl (nwS vals p) (P - (p + 1)) (p + 1) acc
def bd100 (acc : mC) : Prop := ∀ v t, acc = some (v, t) → v < 100 ∧ t < 100
theorem nwS_bd {vals : Nat → Nat → Nat} {p q : Nat} {acc : mC} (hv : vals p q < 100) (hp : p < 6) (hq : q < 6) (h : bd100 acc) : bd100 (nwS vals p q acc) := by
  cases acc with
  | none => intro v t e; cases e; omega
  | some t =>
    obtain ⟨v0, t0⟩ := t
    intro v t e
    have e : (if vals p q ≤ v0 then some (v0, t0) else some (vals p q, 10 * p + q)) = some (v, t) := e
    by_cases hle : vals p q ≤ v0
    · rw [if_pos hle] at e
      exact h v t e
    · rw [if_neg hle] at e
      cases e
      omega
theorem M50 (d : Nat) {g a b : Nat} {w : Int32} {X : mX} {vals : Nat → Nat → Nat} (hg : g < 4) (ha : a < 6) (hb : b < 6) (hvals : ∀ p q, c1 (cut (fun s => lds X g s (xaR X) + (if s.testBit p = s.testBit q then 0 else 1)) a b (2 ^ xaP X)) = some (vals p q) ∧ vals p q < 100) : ∀ m p acc σ, p + m = xaP X → ML (rI σ 18 0) (xaR X) X → bd100 acc →
    ∃ σ', run (d + 5) (50, 34, [some (.inr (.inr (17, (some 0)))), some (.inl (nI (g))), some (.inl (nI (a))), some (.inl (nI (b))), some (.inl w), some (.inl (oI 4 (c2 acc))), some (.inl (oI 4 (c1 acc))), some (.inl (nI (p))), none, none], [], σ) = some ((xite (w = 0) (oI 4 (c2 (fl (nwI vals (xaP X)) m p acc))) (oI 4 (c1 (fl (nwI vals (xaP X)) m p acc))), 0, none), σ') ∧ ML (rI σ' 18 0) (xaR X) X ∧ xF SmX σ σ' := by
  have inner : ∀ k p q acc σ, p < q → q + k = xaP X → ML (rI σ 18 0) (xaR X) X → bd100 acc → ∃ σ', run (d + 5) (50, 51, [some (.inr (.inr (17, (some 0)))), some (.inl (nI (g))), some (.inl (nI (a))), some (.inl (nI (b))), some (.inl w), some (.inl (oI 4 (c2 acc))), some (.inl (oI 4 (c1 acc))), some (.inl (nI (p))), some (.inl (nI (q))), none], [], σ) = run (d + 5) (50, 34, [some (.inr (.inr (17, (some 0)))), some (.inl (nI (g))), some (.inl (nI (a))), some (.inl (nI (b))), some (.inl w), some (.inl (oI 4 (c2 (fl (nwS vals p) k q acc)))), some (.inl (oI 4 (c1 (fl (nwS vals p) k q acc)))), some (.inl (nI (p + 1))), none, none], [], σ') ∧ ML (rI σ' 18 0) (xaR X) X ∧ xF SmX σ σ' ∧ bd100 (fl (nwS vals p) k q acc) := by
    intro k
    induction k with
    | zero =>
      intro p q acc σ hpq hq h hacc
      have hP6 := h.1.2.1
      have e : q = xaP X := by omega
      subst e
      refine ⟨σ, ?_, h, xF_refl σ, hacc⟩
      rw [B50_51]
      simp (disch := omega) only [n_cl, n_lt, n_le, n_eq, n_lt0, n_0lt, n_le0, n_eq0, n_gneq, n_ngeq, n_ng0, n_nglt, n_glt, n_gle, n_ltg, n_leg, n_gg, n_ge0, n_add, n_mul, n_rem, n_shl1, n_and, n_or, n_bit, n_not, n_not', n_B1, n_B0, n_BB, obind, xite_T, xite_F, xite_not, xite_same, oI_s, oI_n, Bool.false_eq_true, reduceCtorEq, eq_self, Classical.not_not, bI_T, bI_Fa, bI_0, bI_n0, bI_x, xb_0, xb_1, xite_bI, xite_bI', not_true_eq_false, not_false_eq_true, Nat.zero_add, Nat.add_zero, Nat.mul_zero, Nat.mul_one, Nat.one_mul, reduceIte, Nat.reduceEqDiff, Nat.reduceAdd, Nat.reduceMul, Nat.reduceSub, Nat.reduceLT, Nat.reduceLeDiff, Nat.reducePow, ite_true, ite_false, if_true, if_false, and_true, true_and, false_and, and_false, or_false, false_or, true_or, or_true, ne_eq, xite_t, xite_f, h.2.1]
      rfl
    | succ k ih =>
      intro p q acc σ hpq hq h hacc
      have hP6 := h.1.2.1
      have hR9 := h.1.2.2.1
      obtain ⟨v1, v2⟩ := hvals p q
      obtain ⟨σ1, f1, f2, f3⟩ := M27 (d + 2) σ (p := p) (q := q) h (by omega) (by omega) (by omega)
      have er : rI σ1 18 0 1 = nI (xaR X) := f2.2.2.1
      obtain ⟨σ2, g1, g2, g3⟩ := M44 d σ1 (n := xaR X + 1) (g := g) (a := a) (b := b) f2 (Nat.le_refl _) hg ha hb
      have ec : c1 (cut (fun s => lds (rdX X p q) g s (xaR X + 1)) a b (2 ^ xaP (rdX X p q))) = some (vals p q) := by
        have e : (fun s => lds (rdX X p q) g s (xaR X + 1)) = (fun s => lds X g s (xaR X) + (if s.testBit p = s.testBit q then 0 else 1)) := funext fun s => rdX_lds1
        rw [e]
        exact v1
      rw [ec] at g1
      have h2 : ML (rI σ2 18 0) (xaR X) X := by
        rw [xF_I g3 (fun k => by unfold S44; omega)]
        exact ML_rd f2 h.1
      obtain ⟨σ3, i1, i2, i3, i4⟩ := ih p (q + 1) (nwS vals p q acc) σ2 (by omega) (by omega) h2 (nwS_bd v2 (by omega) (by omega) hacc)
      refine ⟨σ3, ?_, i2, xF_trans (xF_trans (xF_le f3 (fun r j k s => by unfold SM at s; unfold SmX; omega)) (xF_le g3 S44_X)) i3, i4⟩
      rw [B50_51]
      simp (disch := omega) only [n_cl, n_lt, n_le, n_eq, n_lt0, n_0lt, n_le0, n_eq0, n_gneq, n_ngeq, n_ng0, n_nglt, n_glt, n_gle, n_ltg, n_leg, n_gg, n_ge0, n_add, n_mul, n_rem, n_shl1, n_and, n_or, n_bit, n_not, n_not', n_B1, n_B0, n_BB, obind, xite_T, xite_F, xite_not, xite_same, oI_s, oI_n, Bool.false_eq_true, reduceCtorEq, eq_self, Classical.not_not, bI_T, bI_Fa, bI_0, bI_n0, bI_x, xb_0, xb_1, xite_bI, xite_bI', not_true_eq_false, not_false_eq_true, Nat.zero_add, Nat.add_zero, Nat.mul_zero, Nat.mul_one, Nat.one_mul, reduceIte, Nat.reduceEqDiff, Nat.reduceAdd, Nat.reduceMul, Nat.reduceSub, Nat.reduceLT, Nat.reduceLeDiff, Nat.reducePow, ite_true, ite_false, if_true, if_false, and_true, true_and, false_and, and_false, or_false, false_or, true_or, or_true, ne_eq, xite_t, xite_f, h.2.1, f1, er, g1]
      show _ = run (d + 5) (50, 34, [some (.inr (.inr (17, (some 0)))), some (.inl (nI (g))), some (.inl (nI (a))), some (.inl (nI (b))), some (.inl w), some (.inl (oI 4 (c2 (fl (nwS vals p) k (q + 1) (nwS vals p q acc))))), some (.inl (oI 4 (c1 (fl (nwS vals p) k (q + 1) (nwS vals p q acc))))), some (.inl (nI (p + 1))), none, none], [], σ3)
      rw [← i1]
      cases acc with
      | none =>
        simp (disch := omega) only [n_cl, n_lt, n_le, n_eq, n_lt0, n_0lt, n_le0, n_eq0, n_gneq, n_ngeq, n_ng0, n_nglt, n_glt, n_gle, n_ltg, n_leg, n_gg, n_ge0, n_add, n_mul, n_rem, n_shl1, n_and, n_or, n_bit, n_not, n_not', n_B1, n_B0, n_BB, obind, xite_T, xite_F, xite_not, xite_same, oI_s, oI_n, Bool.false_eq_true, reduceCtorEq, eq_self, Classical.not_not, bI_T, bI_Fa, bI_0, bI_n0, bI_x, xb_0, xb_1, xite_bI, xite_bI', not_true_eq_false, not_false_eq_true, Nat.zero_add, Nat.add_zero, Nat.mul_zero, Nat.mul_one, Nat.one_mul, reduceIte, Nat.reduceEqDiff, Nat.reduceAdd, Nat.reduceMul, Nat.reduceSub, Nat.reduceLT, Nat.reduceLeDiff, Nat.reducePow, ite_true, ite_false, if_true, if_false, and_true, true_and, false_and, and_false, or_false, false_or, true_or, or_true, ne_eq, xite_t, xite_f, c2]
        rfl
      | some t =>
        obtain ⟨v0, t0⟩ := t
        have hv0 := hacc v0 t0 rfl
        by_cases hle : vals p q ≤ v0
        · have e : nwS vals p q (some (v0, t0)) = some (v0, t0) := if_pos hle
          rw [e]
          simp (disch := omega) only [n_cl, n_lt, n_le, n_eq, n_lt0, n_0lt, n_le0, n_eq0, n_gneq, n_ngeq, n_ng0, n_nglt, n_glt, n_gle, n_ltg, n_leg, n_gg, n_ge0, n_add, n_mul, n_rem, n_shl1, n_and, n_or, n_bit, n_not, n_not', n_B1, n_B0, n_BB, obind, xite_T, xite_F, xite_not, xite_same, oI_s, oI_n, Bool.false_eq_true, reduceCtorEq, eq_self, Classical.not_not, bI_T, bI_Fa, bI_0, bI_n0, bI_x, xb_0, xb_1, xite_bI, xite_bI', not_true_eq_false, not_false_eq_true, Nat.zero_add, Nat.add_zero, Nat.mul_zero, Nat.mul_one, Nat.one_mul, reduceIte, Nat.reduceEqDiff, Nat.reduceAdd, Nat.reduceMul, Nat.reduceSub, Nat.reduceLT, Nat.reduceLeDiff, Nat.reducePow, ite_true, ite_false, if_true, if_false, and_true, true_and, false_and, and_false, or_false, false_or, true_or, or_true, ne_eq, xite_t, xite_f, c1, c2]
        · have e : nwS vals p q (some (v0, t0)) = some (vals p q, 10 * p + q) := if_neg hle
          rw [e]
          simp (disch := omega) only [n_cl, n_lt, n_le, n_eq, n_lt0, n_0lt, n_le0, n_eq0, n_gneq, n_ngeq, n_ng0, n_nglt, n_glt, n_gle, n_ltg, n_leg, n_gg, n_ge0, n_add, n_mul, n_rem, n_shl1, n_and, n_or, n_bit, n_not, n_not', n_B1, n_B0, n_BB, obind, xite_T, xite_F, xite_not, xite_same, oI_s, oI_n, Bool.false_eq_true, reduceCtorEq, eq_self, Classical.not_not, bI_T, bI_Fa, bI_0, bI_n0, bI_x, xb_0, xb_1, xite_bI, xite_bI', not_true_eq_false, not_false_eq_true, Nat.zero_add, Nat.add_zero, Nat.mul_zero, Nat.mul_one, Nat.one_mul, reduceIte, Nat.reduceEqDiff, Nat.reduceAdd, Nat.reduceMul, Nat.reduceSub, Nat.reduceLT, Nat.reduceLeDiff, Nat.reducePow, ite_true, ite_false, if_true, if_false, and_true, true_and, false_and, and_false, or_false, false_or, true_or, or_true, ne_eq, xite_t, xite_f, c1, c2]
  intro m
  induction m with
  | zero =>
    intro p acc σ hp h _
    have hP6 := h.1.2.1
    have e : p = xaP X := by omega
    subst e
    refine ⟨σ, ?_, h, xF_refl σ⟩
    rw [B50_34]
    simp (disch := omega) only [n_cl, n_lt, n_le, n_eq, n_lt0, n_0lt, n_le0, n_eq0, n_gneq, n_ngeq, n_ng0, n_nglt, n_glt, n_gle, n_ltg, n_leg, n_gg, n_ge0, n_add, n_mul, n_rem, n_shl1, n_and, n_or, n_bit, n_not, n_not', n_B1, n_B0, n_BB, obind, xite_T, xite_F, xite_not, xite_same, oI_s, oI_n, Bool.false_eq_true, reduceCtorEq, eq_self, Classical.not_not, bI_T, bI_Fa, bI_0, bI_n0, bI_x, xb_0, xb_1, xite_bI, xite_bI', not_true_eq_false, not_false_eq_true, Nat.zero_add, Nat.add_zero, Nat.mul_zero, Nat.mul_one, Nat.one_mul, reduceIte, Nat.reduceEqDiff, Nat.reduceAdd, Nat.reduceMul, Nat.reduceSub, Nat.reduceLT, Nat.reduceLeDiff, Nat.reducePow, ite_true, ite_false, if_true, if_false, and_true, true_and, false_and, and_false, or_false, false_or, true_or, or_true, ne_eq, xite_t, xite_f, h.2.1]
    by_cases hw : w = 0
    · rw [xite_t hw, xite_t hw]; rfl
    · rw [xite_f hw, xite_f hw]; rfl
  | succ m ih =>
    intro p acc σ hp h hacc
    have hP6 := h.1.2.1
    obtain ⟨σ1, f1, f2, f3, f4⟩ := inner (xaP X - (p + 1)) p (p + 1) acc σ (by omega) (by omega) h hacc
    obtain ⟨σ2, g1, g2, g3⟩ := ih (p + 1) (nwI vals (xaP X) p acc) σ1 (by omega) f2 f4
    refine ⟨σ2, ?_, g2, xF_trans f3 g3⟩
    rw [B50_34]
    simp (disch := omega) only [n_cl, n_lt, n_le, n_eq, n_lt0, n_0lt, n_le0, n_eq0, n_gneq, n_ngeq, n_ng0, n_nglt, n_glt, n_gle, n_ltg, n_leg, n_gg, n_ge0, n_add, n_mul, n_rem, n_shl1, n_and, n_or, n_bit, n_not, n_not', n_B1, n_B0, n_BB, obind, xite_T, xite_F, xite_not, xite_same, oI_s, oI_n, Bool.false_eq_true, reduceCtorEq, eq_self, Classical.not_not, bI_T, bI_Fa, bI_0, bI_n0, bI_x, xb_0, xb_1, xite_bI, xite_bI', not_true_eq_false, not_false_eq_true, Nat.zero_add, Nat.add_zero, Nat.mul_zero, Nat.mul_one, Nat.one_mul, reduceIte, Nat.reduceEqDiff, Nat.reduceAdd, Nat.reduceMul, Nat.reduceSub, Nat.reduceLT, Nat.reduceLeDiff, Nat.reducePow, ite_true, ite_false, if_true, if_false, and_true, true_and, false_and, and_false, or_false, false_or, true_or, or_true, ne_eq, xite_t, xite_f, h.2.1]
    exact f1.trans g1
theorem C151 (d : Nat) {g a b : Nat} {w : Int32} {X : mX} {vals : Nat → Nat → Nat} (ha : a < 6) (hb : b < 6) (hvals : ∀ p q, c1 (cut (fun s => lds X g s (xaR X) + (if s.testBit p = s.testBit q then 0 else 1)) a b (2 ^ xaP X)) = some (vals p q) ∧ vals p q < 100) (σ : xS) (h : CL σ 0 X) (h6 : ∀ s, s < 2 ^ xaP X → rI σ 6 0 s = nI (lds X g s (xaR X))) : ∀ m p acc, p + m = xaP X → bd100 acc →
    run (d + 3) (151, 40, [some (.inr (.inr (0, (some 0)))), none, some (.inl (nI (a))), some (.inl (nI (b))), some (.inl w), some (.inl (oI 4 (c2 acc))), some (.inl (oI 4 (c1 acc))), some (.inl (nI (p))), none, none], [], σ) = some ((xite (w = 0) (oI 4 (c2 (fl (nwI vals (xaP X)) m p acc))) (oI 4 (c1 (fl (nwI vals (xaP X)) m p acc))), 0, none), σ) := by
  have hP6 := h.1.2.1
  have hR9 := h.1.2.2.1
  have inner : ∀ k p q acc, p < q → q + k = xaP X → bd100 acc → run (d + 3) (151, 58, [some (.inr (.inr (0, (some 0)))), none, some (.inl (nI (a))), some (.inl (nI (b))), some (.inl w), some (.inl (oI 4 (c2 acc))), some (.inl (oI 4 (c1 acc))), some (.inl (nI (p))), some (.inl (nI (q))), none], [], σ) = run (d + 3) (151, 40, [some (.inr (.inr (0, (some 0)))), none, some (.inl (nI (a))), some (.inl (nI (b))), some (.inl w), some (.inl (oI 4 (c2 (fl (nwS vals p) k q acc)))), some (.inl (oI 4 (c1 (fl (nwS vals p) k q acc)))), some (.inl (nI (p + 1))), none, none], [], σ) ∧ bd100 (fl (nwS vals p) k q acc) := by
    intro k
    induction k with
    | zero =>
      intro p q acc hpq hq hacc
      have e : q = xaP X := by omega
      subst e
      refine ⟨?_, hacc⟩
      rw [B151_58]
      simp (disch := omega) only [n_cl, n_lt, n_le, n_eq, n_lt0, n_0lt, n_le0, n_eq0, n_gneq, n_ngeq, n_ng0, n_nglt, n_glt, n_gle, n_ltg, n_leg, n_gg, n_ge0, n_add, n_mul, n_rem, n_shl1, n_and, n_or, n_bit, n_not, n_not', n_B1, n_B0, n_BB, obind, xite_T, xite_F, xite_not, xite_same, oI_s, oI_n, Bool.false_eq_true, reduceCtorEq, eq_self, Classical.not_not, bI_T, bI_Fa, bI_0, bI_n0, bI_x, xb_0, xb_1, xite_bI, xite_bI', not_true_eq_false, not_false_eq_true, Nat.zero_add, Nat.add_zero, Nat.mul_zero, Nat.mul_one, Nat.one_mul, reduceIte, Nat.reduceEqDiff, Nat.reduceAdd, Nat.reduceMul, Nat.reduceSub, Nat.reduceLT, Nat.reduceLeDiff, Nat.reducePow, ite_true, ite_false, if_true, if_false, and_true, true_and, false_and, and_false, or_false, false_or, true_or, or_true, ne_eq, xite_t, xite_f, h.2.1]
      rfl
    | succ k ih =>
      intro p q acc hpq hq hacc
      obtain ⟨v1, v2⟩ := hvals p q
      have k1 := C107 d σ (p := p) (q := q) (more := nI 1) (val := fun s => lds X g s (xaR X) + (if s.testBit p = s.testBit q then 0 else 1)) h ha hb (by omega) (by omega) (fun s hs _ _ => by
        have hl := @lds_le X g s (xaR X)
        rw [h6 s hs]
        by_cases hc : s.testBit p = s.testBit q
        · simp only [if_pos hc]
          rw [n_add]
          exact ⟨rfl, by omega⟩
        · simp only [if_neg hc]
          rw [n_add]
          exact ⟨rfl, by omega⟩)
      rw [v1] at k1
      obtain ⟨i1, i2⟩ := ih p (q + 1) (nwS vals p q acc) (by omega) (by omega) (nwS_bd v2 (by omega) (by omega) hacc)
      refine ⟨?_, i2⟩
      rw [B151_58]
      simp (disch := omega) only [n_cl, n_lt, n_le, n_eq, n_lt0, n_0lt, n_le0, n_eq0, n_gneq, n_ngeq, n_ng0, n_nglt, n_glt, n_gle, n_ltg, n_leg, n_gg, n_ge0, n_add, n_mul, n_rem, n_shl1, n_and, n_or, n_bit, n_not, n_not', n_B1, n_B0, n_BB, obind, xite_T, xite_F, xite_not, xite_same, oI_s, oI_n, Bool.false_eq_true, reduceCtorEq, eq_self, Classical.not_not, bI_T, bI_Fa, bI_0, bI_n0, bI_x, xb_0, xb_1, xite_bI, xite_bI', not_true_eq_false, not_false_eq_true, Nat.zero_add, Nat.add_zero, Nat.mul_zero, Nat.mul_one, Nat.one_mul, reduceIte, Nat.reduceEqDiff, Nat.reduceAdd, Nat.reduceMul, Nat.reduceSub, Nat.reduceLT, Nat.reduceLeDiff, Nat.reducePow, ite_true, ite_false, if_true, if_false, and_true, true_and, false_and, and_false, or_false, false_or, true_or, or_true, ne_eq, xite_t, xite_f, h.2.1, k1]
      show _ = run (d + 3) (151, 40, [some (.inr (.inr (0, (some 0)))), none, some (.inl (nI (a))), some (.inl (nI (b))), some (.inl w), some (.inl (oI 4 (c2 (fl (nwS vals p) k (q + 1) (nwS vals p q acc))))), some (.inl (oI 4 (c1 (fl (nwS vals p) k (q + 1) (nwS vals p q acc))))), some (.inl (nI (p + 1))), none, none], [], σ)
      rw [← i1]
      cases acc with
      | none =>
        simp (disch := omega) only [n_cl, n_lt, n_le, n_eq, n_lt0, n_0lt, n_le0, n_eq0, n_gneq, n_ngeq, n_ng0, n_nglt, n_glt, n_gle, n_ltg, n_leg, n_gg, n_ge0, n_add, n_mul, n_rem, n_shl1, n_and, n_or, n_bit, n_not, n_not', n_B1, n_B0, n_BB, obind, xite_T, xite_F, xite_not, xite_same, oI_s, oI_n, Bool.false_eq_true, reduceCtorEq, eq_self, Classical.not_not, bI_T, bI_Fa, bI_0, bI_n0, bI_x, xb_0, xb_1, xite_bI, xite_bI', not_true_eq_false, not_false_eq_true, Nat.zero_add, Nat.add_zero, Nat.mul_zero, Nat.mul_one, Nat.one_mul, reduceIte, Nat.reduceEqDiff, Nat.reduceAdd, Nat.reduceMul, Nat.reduceSub, Nat.reduceLT, Nat.reduceLeDiff, Nat.reducePow, ite_true, ite_false, if_true, if_false, and_true, true_and, false_and, and_false, or_false, false_or, true_or, or_true, ne_eq, xite_t, xite_f, c1]
        rfl
      | some t =>
        obtain ⟨v0, t0⟩ := t
        have hv0 := hacc v0 t0 rfl
        by_cases hle : vals p q ≤ v0
        · have e : nwS vals p q (some (v0, t0)) = some (v0, t0) := if_pos hle
          rw [e]
          simp (disch := omega) only [n_cl, n_lt, n_le, n_eq, n_lt0, n_0lt, n_le0, n_eq0, n_gneq, n_ngeq, n_ng0, n_nglt, n_glt, n_gle, n_ltg, n_leg, n_gg, n_ge0, n_add, n_mul, n_rem, n_shl1, n_and, n_or, n_bit, n_not, n_not', n_B1, n_B0, n_BB, obind, xite_T, xite_F, xite_not, xite_same, oI_s, oI_n, Bool.false_eq_true, reduceCtorEq, eq_self, Classical.not_not, bI_T, bI_Fa, bI_0, bI_n0, bI_x, xb_0, xb_1, xite_bI, xite_bI', not_true_eq_false, not_false_eq_true, Nat.zero_add, Nat.add_zero, Nat.mul_zero, Nat.mul_one, Nat.one_mul, reduceIte, Nat.reduceEqDiff, Nat.reduceAdd, Nat.reduceMul, Nat.reduceSub, Nat.reduceLT, Nat.reduceLeDiff, Nat.reducePow, ite_true, ite_false, if_true, if_false, and_true, true_and, false_and, and_false, or_false, false_or, true_or, or_true, ne_eq, xite_t, xite_f, c1, c2]
        · have e : nwS vals p q (some (v0, t0)) = some (vals p q, 10 * p + q) := if_neg hle
          rw [e]
          simp (disch := omega) only [n_cl, n_lt, n_le, n_eq, n_lt0, n_0lt, n_le0, n_eq0, n_gneq, n_ngeq, n_ng0, n_nglt, n_glt, n_gle, n_ltg, n_leg, n_gg, n_ge0, n_add, n_mul, n_rem, n_shl1, n_and, n_or, n_bit, n_not, n_not', n_B1, n_B0, n_BB, obind, xite_T, xite_F, xite_not, xite_same, oI_s, oI_n, Bool.false_eq_true, reduceCtorEq, eq_self, Classical.not_not, bI_T, bI_Fa, bI_0, bI_n0, bI_x, xb_0, xb_1, xite_bI, xite_bI', not_true_eq_false, not_false_eq_true, Nat.zero_add, Nat.add_zero, Nat.mul_zero, Nat.mul_one, Nat.one_mul, reduceIte, Nat.reduceEqDiff, Nat.reduceAdd, Nat.reduceMul, Nat.reduceSub, Nat.reduceLT, Nat.reduceLeDiff, Nat.reducePow, ite_true, ite_false, if_true, if_false, and_true, true_and, false_and, and_false, or_false, false_or, true_or, or_true, ne_eq, xite_t, xite_f, c1, c2]
  intro m
  induction m with
  | zero =>
    intro p acc hp _
    have e : p = xaP X := by omega
    subst e
    rw [B151_40]
    simp (disch := omega) only [n_cl, n_lt, n_le, n_eq, n_lt0, n_0lt, n_le0, n_eq0, n_gneq, n_ngeq, n_ng0, n_nglt, n_glt, n_gle, n_ltg, n_leg, n_gg, n_ge0, n_add, n_mul, n_rem, n_shl1, n_and, n_or, n_bit, n_not, n_not', n_B1, n_B0, n_BB, obind, xite_T, xite_F, xite_not, xite_same, oI_s, oI_n, Bool.false_eq_true, reduceCtorEq, eq_self, Classical.not_not, bI_T, bI_Fa, bI_0, bI_n0, bI_x, xb_0, xb_1, xite_bI, xite_bI', not_true_eq_false, not_false_eq_true, Nat.zero_add, Nat.add_zero, Nat.mul_zero, Nat.mul_one, Nat.one_mul, reduceIte, Nat.reduceEqDiff, Nat.reduceAdd, Nat.reduceMul, Nat.reduceSub, Nat.reduceLT, Nat.reduceLeDiff, Nat.reducePow, ite_true, ite_false, if_true, if_false, and_true, true_and, false_and, and_false, or_false, false_or, true_or, or_true, ne_eq, xite_t, xite_f, h.2.1]
    by_cases hw : w = 0
    · rw [xite_t hw, xite_t hw]; rfl
    · rw [xite_f hw, xite_f hw]; rfl
  | succ m ih =>
    intro p acc hp hacc
    obtain ⟨f1, f4⟩ := inner (xaP X - (p + 1)) p (p + 1) acc (by omega) (by omega) hacc
    have g1 := ih (p + 1) (nwI vals (xaP X) p acc) (by omega) f4
    rw [B151_40]
    simp (disch := omega) only [n_cl, n_lt, n_le, n_eq, n_lt0, n_0lt, n_le0, n_eq0, n_gneq, n_ngeq, n_ng0, n_nglt, n_glt, n_gle, n_ltg, n_leg, n_gg, n_ge0, n_add, n_mul, n_rem, n_shl1, n_and, n_or, n_bit, n_not, n_not', n_B1, n_B0, n_BB, obind, xite_T, xite_F, xite_not, xite_same, oI_s, oI_n, Bool.false_eq_true, reduceCtorEq, eq_self, Classical.not_not, bI_T, bI_Fa, bI_0, bI_n0, bI_x, xb_0, xb_1, xite_bI, xite_bI', not_true_eq_false, not_false_eq_true, Nat.zero_add, Nat.add_zero, Nat.mul_zero, Nat.mul_one, Nat.one_mul, reduceIte, Nat.reduceEqDiff, Nat.reduceAdd, Nat.reduceMul, Nat.reduceSub, Nat.reduceLT, Nat.reduceLeDiff, Nat.reducePow, ite_true, ite_false, if_true, if_false, and_true, true_and, false_and, and_false, or_false, false_or, true_or, or_true, ne_eq, xite_t, xite_f, h.2.1]
    exact f1.trans g1
theorem duo_newly (d : Nat) (S : mG) (hX : WX (xaR S.1) S.1) (g a b w : Int32) : Duo (d + 60) (fun σ => xentry 151 [.inr (.inr (0, (some 0))), .inl g, .inl a, .inl b, .inl w] σ) (fun σ => xentry 50 [.inr (.inr (17, (some 0))), .inl g, .inl a, .inl b, .inl w] σ) S := by
  have hP6 := hX.2.1
  have hR9 := hX.2.2.1
  by_cases h1 : errand S.1 g a b
  · by_cases h2 : inb w 2
    · obtain ⟨g', a', b', e1, e2, e3, hg, ha, hb, hab⟩ := errand_of hX h1
      subst e1 e2 e3
      have hv0 : ∀ p q, ∃ v, c1 (cut (fun s => lds S.1 g' s (xaR S.1) + (if s.testBit p = s.testBit q then 0 else 1)) a' b' (2 ^ xaP S.1)) = some v ∧ v < 100 := fun p q => cut_val (X := S.1) ha hab (fun s => by
        have := @lds_le S.1 g' s (xaR S.1)
        split <;> omega)
      obtain ⟨vals, hvals⟩ := Classical.axiomOfChoice (fun p => Classical.axiomOfChoice (hv0 p))
      refine ⟨xite (w = 0) (oI 4 (c2 (fl (nwI vals (xaP S.1)) (xaP S.1) 0 none))) (oI 4 (c1 (fl (nwI vals (xaP S.1)) (xaP S.1) 0 none))), S, fun σ h => ?_, fun σ h => ?_⟩
      · obtain ⟨σ1, f1, f2, f3⟩ := C106 (d + 56) σ h.1 hg
        have hC := CL_6 h.1 f3
        refine ⟨σ1, ?_, CI_Scr h (xF_le f3 S106_S), kC_F f3 (fun r j k s => Scr_16 _ _ _ (S106_S _ _ _ s))⟩
        have k1 := C151 (d + 57) (w := w) (show a' < 6 by omega) (show b' < 6 by omega) hvals σ1 hC f2 (xaP S.1) 0 none (by omega) (fun v t ht => by cases ht)
        show run (d + 60) (xentry 151 _ σ) = _
        rw [B151_0, C169 _ _ _ _ _ h.1]
        simp (disch := omega) only [n_cl, n_lt, n_le, n_eq, n_lt0, n_0lt, n_le0, n_eq0, n_gneq, n_ngeq, n_ng0, n_nglt, n_glt, n_gle, n_ltg, n_leg, n_gg, n_ge0, n_add, n_mul, n_rem, n_shl1, n_and, n_or, n_bit, n_not, n_not', n_B1, n_B0, n_BB, obind, xite_T, xite_F, xite_not, xite_same, oI_s, oI_n, Bool.false_eq_true, reduceCtorEq, eq_self, Classical.not_not, bI_T, bI_Fa, bI_0, bI_n0, bI_x, xb_0, xb_1, xite_bI, xite_bI', not_true_eq_false, not_false_eq_true, Nat.zero_add, Nat.add_zero, Nat.mul_zero, Nat.mul_one, Nat.one_mul, reduceIte, Nat.reduceEqDiff, Nat.reduceAdd, Nat.reduceMul, Nat.reduceSub, Nat.reduceLT, Nat.reduceLeDiff, Nat.reducePow, ite_true, ite_false, if_true, if_false, and_true, true_and, false_and, and_false, or_false, false_or, true_or, or_true, ne_eq, xite_t, xite_f, h1, h2, C166, f1]
        exact k1
      · obtain ⟨σ1, f1, f2, f3⟩ := M50 (d + 55) (w := w) hg (show a' < 6 by omega) (show b' < 6 by omega) hvals (xaP S.1) 0 none σ (by omega) h.1 (fun v t ht => by cases ht)
        obtain ⟨m1, m2⟩ := MI_Z h f3 f2
        refine ⟨σ1, ?_, m1, m2⟩
        show run (d + 60) (xentry 50 _ σ) = _
        rw [B50_0, M41 _ _ _ _ _ h.1]
        simp (disch := omega) only [n_cl, n_lt, n_le, n_eq, n_lt0, n_0lt, n_le0, n_eq0, n_gneq, n_ngeq, n_ng0, n_nglt, n_glt, n_gle, n_ltg, n_leg, n_gg, n_ge0, n_add, n_mul, n_rem, n_shl1, n_and, n_or, n_bit, n_not, n_not', n_B1, n_B0, n_BB, obind, xite_T, xite_F, xite_not, xite_same, oI_s, oI_n, Bool.false_eq_true, reduceCtorEq, eq_self, Classical.not_not, bI_T, bI_Fa, bI_0, bI_n0, bI_x, xb_0, xb_1, xite_bI, xite_bI', not_true_eq_false, not_false_eq_true, Nat.zero_add, Nat.add_zero, Nat.mul_zero, Nat.mul_one, Nat.one_mul, reduceIte, Nat.reduceEqDiff, Nat.reduceAdd, Nat.reduceMul, Nat.reduceSub, Nat.reduceLT, Nat.reduceLeDiff, Nat.reducePow, ite_true, ite_false, if_true, if_false, and_true, true_and, false_and, and_false, or_false, false_or, true_or, or_true, ne_eq, xite_t, xite_f, h1, h2, M1c]
        exact f1
    · refine duo_bad (-nI 1) (fun σ h => ?_) (fun σ h => ?_)
      · rw [B151_0, C169 _ _ _ _ _ h.1]
        simp (disch := omega) only [n_cl, n_lt, n_le, n_eq, n_lt0, n_0lt, n_le0, n_eq0, n_gneq, n_ngeq, n_ng0, n_nglt, n_glt, n_gle, n_ltg, n_leg, n_gg, n_ge0, n_add, n_mul, n_rem, n_shl1, n_and, n_or, n_bit, n_not, n_not', n_B1, n_B0, n_BB, obind, xite_T, xite_F, xite_not, xite_same, oI_s, oI_n, Bool.false_eq_true, reduceCtorEq, eq_self, Classical.not_not, bI_T, bI_Fa, bI_0, bI_n0, bI_x, xb_0, xb_1, xite_bI, xite_bI', not_true_eq_false, not_false_eq_true, Nat.zero_add, Nat.add_zero, Nat.mul_zero, Nat.mul_one, Nat.one_mul, reduceIte, Nat.reduceEqDiff, Nat.reduceAdd, Nat.reduceMul, Nat.reduceSub, Nat.reduceLT, Nat.reduceLeDiff, Nat.reducePow, ite_true, ite_false, if_true, if_false, and_true, true_and, false_and, and_false, or_false, false_or, true_or, or_true, ne_eq, h1, h2, C166]
      · rw [B50_0, M41 _ _ _ _ _ h.1]
        simp (disch := omega) only [n_cl, n_lt, n_le, n_eq, n_lt0, n_0lt, n_le0, n_eq0, n_gneq, n_ngeq, n_ng0, n_nglt, n_glt, n_gle, n_ltg, n_leg, n_gg, n_ge0, n_add, n_mul, n_rem, n_shl1, n_and, n_or, n_bit, n_not, n_not', n_B1, n_B0, n_BB, obind, xite_T, xite_F, xite_not, xite_same, oI_s, oI_n, Bool.false_eq_true, reduceCtorEq, eq_self, Classical.not_not, bI_T, bI_Fa, bI_0, bI_n0, bI_x, xb_0, xb_1, xite_bI, xite_bI', not_true_eq_false, not_false_eq_true, Nat.zero_add, Nat.add_zero, Nat.mul_zero, Nat.mul_one, Nat.one_mul, reduceIte, Nat.reduceEqDiff, Nat.reduceAdd, Nat.reduceMul, Nat.reduceSub, Nat.reduceLT, Nat.reduceLeDiff, Nat.reducePow, ite_true, ite_false, if_true, if_false, and_true, true_and, false_and, and_false, or_false, false_or, true_or, or_true, ne_eq, h1, h2, M1c]
  · refine duo_bad (-nI 1) (fun σ h => ?_) (fun σ h => ?_)
    · rw [B151_0, C169 _ _ _ _ _ h.1]
      simp (disch := omega) only [n_cl, n_lt, n_le, n_eq, n_lt0, n_0lt, n_le0, n_eq0, n_gneq, n_ngeq, n_ng0, n_nglt, n_glt, n_gle, n_ltg, n_leg, n_gg, n_ge0, n_add, n_mul, n_rem, n_shl1, n_and, n_or, n_bit, n_not, n_not', n_B1, n_B0, n_BB, obind, xite_T, xite_F, xite_not, xite_same, oI_s, oI_n, Bool.false_eq_true, reduceCtorEq, eq_self, Classical.not_not, bI_T, bI_Fa, bI_0, bI_n0, bI_x, xb_0, xb_1, xite_bI, xite_bI', not_true_eq_false, not_false_eq_true, Nat.zero_add, Nat.add_zero, Nat.mul_zero, Nat.mul_one, Nat.one_mul, reduceIte, Nat.reduceEqDiff, Nat.reduceAdd, Nat.reduceMul, Nat.reduceSub, Nat.reduceLT, Nat.reduceLeDiff, Nat.reducePow, ite_true, ite_false, if_true, if_false, and_true, true_and, false_and, and_false, or_false, false_or, true_or, or_true, ne_eq, h1]
    · rw [B50_0, M41 _ _ _ _ _ h.1]
      simp (disch := omega) only [n_cl, n_lt, n_le, n_eq, n_lt0, n_0lt, n_le0, n_eq0, n_gneq, n_ngeq, n_ng0, n_nglt, n_glt, n_gle, n_ltg, n_leg, n_gg, n_ge0, n_add, n_mul, n_rem, n_shl1, n_and, n_or, n_bit, n_not, n_not', n_B1, n_B0, n_BB, obind, xite_T, xite_F, xite_not, xite_same, oI_s, oI_n, Bool.false_eq_true, reduceCtorEq, eq_self, Classical.not_not, bI_T, bI_Fa, bI_0, bI_n0, bI_x, xb_0, xb_1, xite_bI, xite_bI', not_true_eq_false, not_false_eq_true, Nat.zero_add, Nat.add_zero, Nat.mul_zero, Nat.mul_one, Nat.one_mul, reduceIte, Nat.reduceEqDiff, Nat.reduceAdd, Nat.reduceMul, Nat.reduceSub, Nat.reduceLT, Nat.reduceLeDiff, Nat.reducePow, ite_true, ite_false, if_true, if_false, and_true, true_and, false_and, and_false, or_false, false_or, true_or, or_true, ne_eq, h1]
