/-! WHAT LEADS OUT OF SETS -/
def ldr (X : mX) (g s r : Nat) : Nat := if fre X g r = true ∧ ¬ s.testBit (xaF X r) = s.testBit (xaT X r) then 1 else 0
def lds (X : mX) (g s : Nat) : Nat → Nat
  | 0 => 0
  | n + 1 => lds X g s n + ldr X g s n
theorem ldr_le {X : mX} {g s r : Nat} : ldr X g s r ≤ 1 := by unfold ldr; split <;> omega
theorem lds_le {X : mX} {g s : Nat} : ∀ n, lds X g s n ≤ n := by
  intro n
  induction n with
  | zero => exact Nat.le_refl 0
  | succ n ih =>
    have := @ldr_le X g s n
    show lds X g s n + ldr X g s n ≤ n + 1
    omega
theorem M43 (d : Nat) (σ : xS) {n0 n g s : Nat} {X : mX} (h : ML (rI σ 18 0) n0 X) (hn : n ≤ n0) (hg : g < 4) (hs : s < 64) : run (d + 3) (xentry 43 [.inr (.inr (17, (some 0))), .inl (nI s), .inl (nI g), .inl (nI n)] σ) = some ((nI (lds X g s n), 0, none), σ) := by
  have hn10 := h.1.2.2.2.2.1
  have hP6 := h.1.2.1
  have loop : ∀ m r, r + m = n → run (d + 3) (43, 6, [some (.inr (.inr (17, (some 0)))), some (.inl (nI (s))), some (.inl (nI (g))), some (.inl (nI (n))), some (.inl (nI (lds X g s r))), some (.inl (nI (r)))], [], σ) = some ((nI (lds X g s n), 0, none), σ) := by
    intro m
    induction m with
    | zero =>
      intro r hr
      have e : r = n := by omega
      subst e
      have := @lds_le X g s r
      rw [B43_6]
      simp (disch := omega) only [n_cl, n_lt, n_le, n_eq, n_lt0, n_0lt, n_le0, n_eq0, n_gneq, n_ngeq, n_ng0, n_nglt, n_glt, n_gle, n_ltg, n_leg, n_gg, n_ge0, n_add, n_mul, n_rem, n_shl1, n_and, n_or, n_bit, n_not, n_not', n_B1, n_B0, n_BB, obind, xite_T, xite_F, xite_not, xite_same, oI_s, oI_n, Bool.false_eq_true, reduceCtorEq, eq_self, Classical.not_not, bI_T, bI_Fa, bI_0, bI_n0, bI_x, xb_0, xb_1, xite_bI, xite_bI', not_true_eq_false, not_false_eq_true, Nat.zero_add, Nat.add_zero, Nat.mul_zero, Nat.mul_one, Nat.one_mul, reduceIte, Nat.reduceEqDiff, Nat.reduceAdd, Nat.reduceMul, Nat.reduceSub, Nat.reduceLT, Nat.reduceLeDiff, Nat.reducePow, ite_true, ite_false, if_true, if_false, and_true, true_and, false_and, and_false, or_false, false_or, true_or, or_true, ne_eq, xite_t, xite_f, ]
    | succ m ih =>
      intro r hr
      have hr0 : r < n0 := by omega
      have hb := h.1.2.2.2.2.2.1 r hr0
      have e := ih (r + 1) (by omega)
      have el := @lds_le X g s r
      rw [B43_6]
      simp (disch := omega) only [n_cl, n_lt, n_le, n_eq, n_lt0, n_0lt, n_le0, n_eq0, n_gneq, n_ngeq, n_ng0, n_nglt, n_glt, n_gle, n_ltg, n_leg, n_gg, n_ge0, n_add, n_mul, n_rem, n_shl1, n_and, n_or, n_bit, n_not, n_not', n_B1, n_B0, n_BB, obind, xite_T, xite_F, xite_not, xite_same, oI_s, oI_n, Bool.false_eq_true, reduceCtorEq, eq_self, Classical.not_not, bI_T, bI_Fa, bI_0, bI_n0, bI_x, xb_0, xb_1, xite_bI, xite_bI', not_true_eq_false, not_false_eq_true, Nat.zero_add, Nat.add_zero, Nat.mul_zero, Nat.mul_one, Nat.one_mul, reduceIte, Nat.reduceEqDiff, Nat.reduceAdd, Nat.reduceMul, Nat.reduceSub, Nat.reduceLT, Nat.reduceLeDiff, Nat.reducePow, ite_true, ite_false, if_true, if_false, and_true, true_and, false_and, and_false, or_false, false_or, true_or, or_true, ne_eq, xite_t, xite_f, M17 _ _ h hr0 hg]
      by_cases hf : fre X g r = true
      · rw [xite_t hf]
        simp (disch := omega) only [n_cl, n_lt, n_le, n_eq, n_lt0, n_0lt, n_le0, n_eq0, n_gneq, n_ngeq, n_ng0, n_nglt, n_glt, n_gle, n_ltg, n_leg, n_gg, n_ge0, n_add, n_mul, n_rem, n_shl1, n_and, n_or, n_bit, n_not, n_not', n_B1, n_B0, n_BB, obind, xite_T, xite_F, xite_not, xite_same, oI_s, oI_n, Bool.false_eq_true, reduceCtorEq, eq_self, Classical.not_not, bI_T, bI_Fa, bI_0, bI_n0, bI_x, xb_0, xb_1, xite_bI, xite_bI', not_true_eq_false, not_false_eq_true, Nat.zero_add, Nat.add_zero, Nat.mul_zero, Nat.mul_one, Nat.one_mul, reduceIte, Nat.reduceEqDiff, Nat.reduceAdd, Nat.reduceMul, Nat.reduceSub, Nat.reduceLT, Nat.reduceLeDiff, Nat.reducePow, ite_true, ite_false, if_true, if_false, and_true, true_and, false_and, and_false, or_false, false_or, true_or, or_true, ne_eq, xite_t, xite_f, M8_0 _ _ h hr0, M8_1 _ _ h hr0]
        by_cases hc : s.testBit (xaF X r) = s.testBit (xaT X r)
        · have e2 : lds X g s (r + 1) = lds X g s r := by
            show lds X g s r + ldr X g s r = _
            unfold ldr
            rw [if_neg (fun h => h.2 hc), Nat.add_zero]
          rw [xite_t hc]
          rw [e2] at e
          exact e
        · have e2 : lds X g s (r + 1) = lds X g s r + 1 := by
            show lds X g s r + ldr X g s r = _
            unfold ldr
            rw [if_pos ⟨hf, hc⟩]
          rw [xite_f hc]
          rw [e2] at e
          exact e
      · have e2 : lds X g s (r + 1) = lds X g s r := by
          show lds X g s r + ldr X g s r = _
          unfold ldr
          rw [if_neg (fun h => hf h.1), Nat.add_zero]
        rw [xite_f hf]
        rw [e2] at e
        exact e
  rw [B43_0]
  exact loop n 0 (by omega)
/-- the first best cut -/
abbrev mC : Type := Option (Nat × Nat)
def cutS (val : Nat → Nat) (a b s : Nat) (acc : mC) : mC := if s.testBit a = true ∧ s.testBit b = false then (match acc with
  | none => some (val s, s)
  | some (v, t) => if v ≤ val s then some (v, t) else some (val s, s)) else acc
def cut (val : Nat → Nat) (a b n : Nat) : mC := fl (cutS val a b) n 0 none
def c1 : mC → Option Nat
  | none => none
  | some (v, _) => some v
def c2 : mC → Option Nat
  | none => none
  | some (_, t) => some t
theorem fl_snoc {A : Type} {f : Nat → A → A} : ∀ n r a, fl f (n + 1) r a = f (r + n) (fl f n r a) := by
  intro n
  induction n with
  | zero => intro r a; rfl
  | succ n ih =>
    intro r a
    show fl f (n + 1) (r + 1) (f r a) = _
    rw [ih (r + 1) (f r a)]
    show f (r + 1 + n) _ = f (r + (n + 1)) (fl f n (r + 1) (f r a))
    rw [show r + 1 + n = r + (n + 1) by omega]
/-- what is known of it after n sets -/
theorem cut_spec {val : Nat → Nat} {a b : Nat} : ∀ n, (∀ v t, cut val a b n = some (v, t) → t < n ∧ t.testBit a = true ∧ t.testBit b = false ∧ v = val t ∧ (∀ s, s < n → s.testBit a = true → s.testBit b = false → val t ≤ val s) ∧ (∀ s, s < t → s.testBit a = true → s.testBit b = false → val t < val s)) ∧ (cut val a b n = none → ∀ s, s < n → s.testBit a = true → s.testBit b = false → False) := by
  intro n
  induction n with
  | zero => exact ⟨fun v t h => (by cases h), fun _ s hs => by omega⟩
  | succ n ih =>
    have e : cut val a b (n + 1) = cutS val a b n (cut val a b n) := by
      unfold cut
      rw [fl_snoc, Nat.zero_add]
    rw [e]
    obtain ⟨i1, i2⟩ := ih
    unfold cutS
    by_cases hv : n.testBit a = true ∧ n.testBit b = false
    · rw [if_pos hv]
      cases hc : cut val a b n with
      | none =>
        refine ⟨fun v t h => ?_, fun h => by cases h⟩
        cases h
        refine ⟨by omega, hv.1, hv.2, rfl, fun s hs h1 h2 => ?_, fun s hs h1 h2 => absurd (i2 hc s hs h1 h2) id⟩
        by_cases e : s = n
        · rw [e]; exact Nat.le_refl _
        · exact absurd (i2 hc s (by omega) h1 h2) id
      | some q =>
        obtain ⟨v0, t0⟩ := q
        obtain ⟨j1, j2, j3, j4, j5, j6⟩ := i1 v0 t0 hc
        show (∀ v t, (if v0 ≤ val n then some (v0, t0) else some (val n, n)) = some (v, t) → _) ∧ ((if v0 ≤ val n then some (v0, t0) else some (val n, n)) = none → _)
        by_cases hle : v0 ≤ val n
        · rw [if_pos hle]
          refine ⟨fun v t h => ?_, fun h => by cases h⟩
          cases h
          refine ⟨by omega, j2, j3, j4, fun s hs h1 h2 => ?_, j6⟩
          by_cases e : s = n
          · rw [e, ← j4]; exact hle
          · exact j5 s (by omega) h1 h2
        · rw [if_neg hle]
          refine ⟨fun v t h => ?_, fun h => by cases h⟩
          cases h
          refine ⟨by omega, hv.1, hv.2, rfl, fun s hs h1 h2 => ?_, fun s hs h1 h2 => ?_⟩
          · by_cases e : s = n
            · rw [e]; exact Nat.le_refl _
            · have := j5 s (by omega) h1 h2
              omega
          · have := j5 s hs h1 h2
            omega
    · rw [if_neg hv]
      refine ⟨fun v t h => ?_, fun h s hs h1 h2 => ?_⟩
      · obtain ⟨j1, j2, j3, j4, j5, j6⟩ := i1 v t h
        refine ⟨by omega, j2, j3, j4, fun s hs h1 h2 => ?_, j6⟩
        by_cases e : s = n
        · subst e; exact absurd ⟨h1, h2⟩ hv
        · exact j5 s (by omega) h1 h2
      · by_cases e : s = n
        · subst e; exact absurd ⟨h1, h2⟩ hv
        · exact i2 h s (by omega) h1 h2
theorem cut_some {val : Nat → Nat} {a b P : Nat} (ha : a < P) (hab : ¬ a = b) : ∃ v t, cut val a b (2 ^ P) = some (v, t) := by
  cases h : cut val a b (2 ^ P) with
  | some q => exact ⟨q.1, q.2, rfl⟩
  | none =>
    have := (cut_spec (2 ^ P)).2 h (2 ^ a) (Nat.pow_lt_pow_right (by omega) ha) Nat.testBit_two_pow_self
    rw [Nat.testBit_two_pow] at this
    simp [hab] at this
theorem cut_eq {v w : Nat → Nat} {a b n : Nat} (h : ∀ s, s < n → s.testBit a = true → s.testBit b = false → v s = w s) : cut v a b n = cut w a b n := by
  induction n with
  | zero => rfl
  | succ n ih =>
    have e : ∀ u, cut u a b (n + 1) = cutS u a b n (cut u a b n) := by
      intro u
      unfold cut
      rw [fl_snoc, Nat.zero_add]
    rw [e, e, ih (fun s hs => h s (by omega))]
    unfold cutS
    by_cases hv : n.testBit a = true ∧ n.testBit b = false
    · rw [if_pos hv, if_pos hv, h n (by omega) hv.1 hv.2]
    · rw [if_neg hv, if_neg hv]
def S44 (r _ k : Nat) : Prop := r = 17 ∧ k = 24
theorem p2_64 {P : Nat} (h : P ≤ 6) : 2 ^ P ≤ 64 := Nat.pow_le_pow_right (n := 2) (by omega) h
theorem M44 (d : Nat) (σ : xS) {n0 n g a b : Nat} {X : mX} (h : ML (rI σ 18 0) n0 X) (hn : n ≤ n0) (hg : g < 4) (ha : a < 6) (hb : b < 6) :
    ∃ σ', run (d + 4) (xentry 44 [.inr (.inr (17, (some 0))), .inl (nI g), .inl (nI a), .inl (nI b), .inl (nI n)] σ) = some ((oI 4 (c1 (cut (fun s => lds X g s n) a b (2 ^ xaP X))), 0, none), σ') ∧ rI σ' 17 0 24 = oI 4 (c2 (cut (fun s => lds X g s n) a b (2 ^ xaP X))) ∧ xF S44 σ σ' := by
  have hn10 := h.1.2.2.2.2.1
  have hP6 := h.1.2.1
  have hp0 := h.2.1
  have h64 := p2_64 hP6
  have loop : ∀ m s acc σ, s + m = 2 ^ xaP X → ML (rI σ 18 0) n0 X → rI σ 17 0 24 = oI 4 (c2 acc) → (∀ v t, acc = some (v, t) → v < 100) → ∃ σ', run (d + 4) (44, 13, [some (.inr (.inr (17, (some 0)))), some (.inl (nI (g))), some (.inl (nI (a))), some (.inl (nI (b))), some (.inl (nI (n))), some (.inl (oI 4 (c1 acc))), some (.inl (nI (s))), none], [], σ) = some ((oI 4 (c1 (fl (cutS (fun s => lds X g s n) a b) m s acc)), 0, none), σ') ∧ rI σ' 17 0 24 = oI 4 (c2 (fl (cutS (fun s => lds X g s n) a b) m s acc)) ∧ xF S44 σ σ' := by
    intro m
    induction m with
    | zero =>
      intro s acc σ hs h he hv
      refine ⟨σ, ?_, he, xF_refl σ⟩
      have hp0 := h.2.1
      have e : s = 2 ^ xaP X := by omega
      subst e
      rw [B44_13]
      simp (disch := omega) only [n_cl, n_lt, n_le, n_eq, n_lt0, n_0lt, n_le0, n_eq0, n_gneq, n_ngeq, n_ng0, n_nglt, n_glt, n_gle, n_ltg, n_leg, n_gg, n_ge0, n_add, n_mul, n_rem, n_shl1, n_and, n_or, n_bit, n_not, n_not', n_B1, n_B0, n_BB, obind, xite_T, xite_F, xite_not, xite_same, oI_s, oI_n, Bool.false_eq_true, reduceCtorEq, eq_self, Classical.not_not, bI_T, bI_Fa, bI_0, bI_n0, bI_x, xb_0, xb_1, xite_bI, xite_bI', not_true_eq_false, not_false_eq_true, Nat.zero_add, Nat.add_zero, Nat.mul_zero, Nat.mul_one, Nat.one_mul, reduceIte, Nat.reduceEqDiff, Nat.reduceAdd, Nat.reduceMul, Nat.reduceSub, Nat.reduceLT, Nat.reduceLeDiff, Nat.reducePow, ite_true, ite_false, if_true, if_false, and_true, true_and, false_and, and_false, or_false, false_or, true_or, or_true, ne_eq, xite_t, xite_f, hp0]
      rfl
    | succ m ih =>
      intro s acc σ hs h he hv
      have hp0 := h.2.1
      show ∃ σ', _ = some ((oI 4 (c1 (fl (cutS (fun s => lds X g s n) a b) m (s + 1) (cutS (fun s => lds X g s n) a b s acc))), 0, none), σ') ∧ rI σ' 17 0 24 = oI 4 (c2 (fl (cutS (fun s => lds X g s n) a b) m (s + 1) (cutS (fun s => lds X g s n) a b s acc))) ∧ _
      have pass : cutS (fun s => lds X g s n) a b s acc = acc → _ := fun e => e ▸ ih (s + 1) acc σ (by omega) h he hv
      rw [B44_13]
      cases h1 : s.testBit a with
      | false =>
        obtain ⟨σ', f1, f2, f3⟩ := ih (s + 1) acc σ (by omega) h he hv
        have e : cutS (fun s => lds X g s n) a b s acc = acc := by unfold cutS; rw [if_neg (by simp [h1])]
        rw [e]
        refine ⟨σ', ?_, f2, f3⟩
        simp (disch := omega) only [n_cl, n_lt, n_le, n_eq, n_lt0, n_0lt, n_le0, n_eq0, n_gneq, n_ngeq, n_ng0, n_nglt, n_glt, n_gle, n_ltg, n_leg, n_gg, n_ge0, n_add, n_mul, n_rem, n_shl1, n_and, n_or, n_bit, n_not, n_not', n_B1, n_B0, n_BB, obind, xite_T, xite_F, xite_not, xite_same, oI_s, oI_n, Bool.false_eq_true, reduceCtorEq, eq_self, Classical.not_not, bI_T, bI_Fa, bI_0, bI_n0, bI_x, xb_0, xb_1, xite_bI, xite_bI', not_true_eq_false, not_false_eq_true, Nat.zero_add, Nat.add_zero, Nat.mul_zero, Nat.mul_one, Nat.one_mul, reduceIte, Nat.reduceEqDiff, Nat.reduceAdd, Nat.reduceMul, Nat.reduceSub, Nat.reduceLT, Nat.reduceLeDiff, Nat.reducePow, ite_true, ite_false, if_true, if_false, and_true, true_and, false_and, and_false, or_false, false_or, true_or, or_true, ne_eq, xite_t, xite_f, hp0, h1]
        exact f1
      | true =>
        cases h2 : s.testBit b with
        | true =>
          obtain ⟨σ', f1, f2, f3⟩ := ih (s + 1) acc σ (by omega) h he hv
          have e : cutS (fun s => lds X g s n) a b s acc = acc := by unfold cutS; rw [if_neg (by simp [h2])]
          rw [e]
          refine ⟨σ', ?_, f2, f3⟩
          simp (disch := omega) only [n_cl, n_lt, n_le, n_eq, n_lt0, n_0lt, n_le0, n_eq0, n_gneq, n_ngeq, n_ng0, n_nglt, n_glt, n_gle, n_ltg, n_leg, n_gg, n_ge0, n_add, n_mul, n_rem, n_shl1, n_and, n_or, n_bit, n_not, n_not', n_B1, n_B0, n_BB, obind, xite_T, xite_F, xite_not, xite_same, oI_s, oI_n, Bool.false_eq_true, reduceCtorEq, eq_self, Classical.not_not, bI_T, bI_Fa, bI_0, bI_n0, bI_x, xb_0, xb_1, xite_bI, xite_bI', not_true_eq_false, not_false_eq_true, Nat.zero_add, Nat.add_zero, Nat.mul_zero, Nat.mul_one, Nat.one_mul, reduceIte, Nat.reduceEqDiff, Nat.reduceAdd, Nat.reduceMul, Nat.reduceSub, Nat.reduceLT, Nat.reduceLeDiff, Nat.reducePow, ite_true, ite_false, if_true, if_false, and_true, true_and, false_and, and_false, or_false, false_or, true_or, or_true, ne_eq, xite_t, xite_f, hp0, h1, h2]
          exact f1
        | false =>
          have el := @lds_le X g s n
          have h' : ML (rI (wI σ 17 0 24 (nI s)) 18 0) n0 X := by simp (disch := omega) only [n_cl, n_lt, n_le, n_eq, n_lt0, n_0lt, n_le0, n_eq0, n_gneq, n_ngeq, n_ng0, n_nglt, n_glt, n_gle, n_ltg, n_leg, n_gg, n_ge0, n_add, n_mul, n_rem, n_shl1, n_and, n_or, n_bit, n_not, n_not', n_B1, n_B0, n_BB, obind, xite_T, xite_F, xite_not, xite_same, oI_s, oI_n, Bool.false_eq_true, reduceCtorEq, eq_self, Classical.not_not, bI_T, bI_Fa, bI_0, bI_n0, bI_x, xb_0, xb_1, xite_bI, xite_bI', not_true_eq_false, not_false_eq_true, Nat.zero_add, Nat.add_zero, Nat.mul_zero, Nat.mul_one, Nat.one_mul, reduceIte, Nat.reduceEqDiff, Nat.reduceAdd, Nat.reduceMul, Nat.reduceSub, Nat.reduceLT, Nat.reduceLeDiff, Nat.reducePow, ite_true, ite_false, if_true, if_false, and_true, true_and, false_and, and_false, or_false, false_or, true_or, or_true, ne_eq, xite_t, xite_f, w_I2, w_Is, w_In, w_IL, w_IP, w_IC, w_LI, w_LP, w_LC, w_PI, w_PL, w_PC]; exact h
          have hw : xF S44 σ (wI σ 17 0 24 (nI s)) := xF_wI (xF_refl σ) _ ⟨rfl, rfl⟩
          cases acc with
          | none =>
            have e : cutS (fun s => lds X g s n) a b s none = some (lds X g s n, s) := by unfold cutS; rw [if_pos ⟨h1, h2⟩]
            rw [e]
            obtain ⟨σ', f1, f2, f3⟩ := ih (s + 1) (some (lds X g s n, s)) (wI σ 17 0 24 (nI s)) (by omega) h' (by simp (disch := omega) only [n_cl, n_lt, n_le, n_eq, n_lt0, n_0lt, n_le0, n_eq0, n_gneq, n_ngeq, n_ng0, n_nglt, n_glt, n_gle, n_ltg, n_leg, n_gg, n_ge0, n_add, n_mul, n_rem, n_shl1, n_and, n_or, n_bit, n_not, n_not', n_B1, n_B0, n_BB, obind, xite_T, xite_F, xite_not, xite_same, oI_s, oI_n, Bool.false_eq_true, reduceCtorEq, eq_self, Classical.not_not, bI_T, bI_Fa, bI_0, bI_n0, bI_x, xb_0, xb_1, xite_bI, xite_bI', not_true_eq_false, not_false_eq_true, Nat.zero_add, Nat.add_zero, Nat.mul_zero, Nat.mul_one, Nat.one_mul, reduceIte, Nat.reduceEqDiff, Nat.reduceAdd, Nat.reduceMul, Nat.reduceSub, Nat.reduceLT, Nat.reduceLeDiff, Nat.reducePow, ite_true, ite_false, if_true, if_false, and_true, true_and, false_and, and_false, or_false, false_or, true_or, or_true, ne_eq, xite_t, xite_f, w_I2, w_Is, w_In, w_IL, w_IP, w_IC, w_LI, w_LP, w_LC, w_PI, w_PL, w_PC]; rfl) (fun v t ht => by cases ht; omega)
            refine ⟨σ', ?_, f2, xF_trans hw f3⟩
            show xite _ _ _ = _
            simp (disch := omega) only [n_cl, n_lt, n_le, n_eq, n_lt0, n_0lt, n_le0, n_eq0, n_gneq, n_ngeq, n_ng0, n_nglt, n_glt, n_gle, n_ltg, n_leg, n_gg, n_ge0, n_add, n_mul, n_rem, n_shl1, n_and, n_or, n_bit, n_not, n_not', n_B1, n_B0, n_BB, obind, xite_T, xite_F, xite_not, xite_same, oI_s, oI_n, Bool.false_eq_true, reduceCtorEq, eq_self, Classical.not_not, bI_T, bI_Fa, bI_0, bI_n0, bI_x, xb_0, xb_1, xite_bI, xite_bI', not_true_eq_false, not_false_eq_true, Nat.zero_add, Nat.add_zero, Nat.mul_zero, Nat.mul_one, Nat.one_mul, reduceIte, Nat.reduceEqDiff, Nat.reduceAdd, Nat.reduceMul, Nat.reduceSub, Nat.reduceLT, Nat.reduceLeDiff, Nat.reducePow, ite_true, ite_false, if_true, if_false, and_true, true_and, false_and, and_false, or_false, false_or, true_or, or_true, ne_eq, xite_t, xite_f, hp0, h1, h2, M43 _ _ h hn hg (show s < 64 by omega), c1]
            exact f1
          | some q =>
            obtain ⟨v0, t0⟩ := q
            have hv0 := hv v0 t0 rfl
            by_cases hle : v0 ≤ lds X g s n
            · have e : cutS (fun s => lds X g s n) a b s (some (v0, t0)) = some (v0, t0) := by unfold cutS; rw [if_pos ⟨h1, h2⟩]; exact if_pos hle
              rw [e]
              obtain ⟨σ', f1, f2, f3⟩ := ih (s + 1) (some (v0, t0)) σ (by omega) h he hv
              refine ⟨σ', ?_, f2, f3⟩
              simp (disch := omega) only [n_cl, n_lt, n_le, n_eq, n_lt0, n_0lt, n_le0, n_eq0, n_gneq, n_ngeq, n_ng0, n_nglt, n_glt, n_gle, n_ltg, n_leg, n_gg, n_ge0, n_add, n_mul, n_rem, n_shl1, n_and, n_or, n_bit, n_not, n_not', n_B1, n_B0, n_BB, obind, xite_T, xite_F, xite_not, xite_same, oI_s, oI_n, Bool.false_eq_true, reduceCtorEq, eq_self, Classical.not_not, bI_T, bI_Fa, bI_0, bI_n0, bI_x, xb_0, xb_1, xite_bI, xite_bI', not_true_eq_false, not_false_eq_true, Nat.zero_add, Nat.add_zero, Nat.mul_zero, Nat.mul_one, Nat.one_mul, reduceIte, Nat.reduceEqDiff, Nat.reduceAdd, Nat.reduceMul, Nat.reduceSub, Nat.reduceLT, Nat.reduceLeDiff, Nat.reducePow, ite_true, ite_false, if_true, if_false, and_true, true_and, false_and, and_false, or_false, false_or, true_or, or_true, ne_eq, xite_t, xite_f, hp0, h1, h2, M43 _ _ h hn hg (show s < 64 by omega), c1]
              exact f1
            · have e : cutS (fun s => lds X g s n) a b s (some (v0, t0)) = some (lds X g s n, s) := by unfold cutS; rw [if_pos ⟨h1, h2⟩]; exact if_neg hle
              rw [e]
              obtain ⟨σ', f1, f2, f3⟩ := ih (s + 1) (some (lds X g s n, s)) (wI σ 17 0 24 (nI s)) (by omega) h' (by simp (disch := omega) only [n_cl, n_lt, n_le, n_eq, n_lt0, n_0lt, n_le0, n_eq0, n_gneq, n_ngeq, n_ng0, n_nglt, n_glt, n_gle, n_ltg, n_leg, n_gg, n_ge0, n_add, n_mul, n_rem, n_shl1, n_and, n_or, n_bit, n_not, n_not', n_B1, n_B0, n_BB, obind, xite_T, xite_F, xite_not, xite_same, oI_s, oI_n, Bool.false_eq_true, reduceCtorEq, eq_self, Classical.not_not, bI_T, bI_Fa, bI_0, bI_n0, bI_x, xb_0, xb_1, xite_bI, xite_bI', not_true_eq_false, not_false_eq_true, Nat.zero_add, Nat.add_zero, Nat.mul_zero, Nat.mul_one, Nat.one_mul, reduceIte, Nat.reduceEqDiff, Nat.reduceAdd, Nat.reduceMul, Nat.reduceSub, Nat.reduceLT, Nat.reduceLeDiff, Nat.reducePow, ite_true, ite_false, if_true, if_false, and_true, true_and, false_and, and_false, or_false, false_or, true_or, or_true, ne_eq, xite_t, xite_f, w_I2, w_Is, w_In, w_IL, w_IP, w_IC, w_LI, w_LP, w_LC, w_PI, w_PL, w_PC]; rfl) (fun v t ht => by cases ht; omega)
              refine ⟨σ', ?_, f2, xF_trans hw f3⟩
              simp (disch := omega) only [n_cl, n_lt, n_le, n_eq, n_lt0, n_0lt, n_le0, n_eq0, n_gneq, n_ngeq, n_ng0, n_nglt, n_glt, n_gle, n_ltg, n_leg, n_gg, n_ge0, n_add, n_mul, n_rem, n_shl1, n_and, n_or, n_bit, n_not, n_not', n_B1, n_B0, n_BB, obind, xite_T, xite_F, xite_not, xite_same, oI_s, oI_n, Bool.false_eq_true, reduceCtorEq, eq_self, Classical.not_not, bI_T, bI_Fa, bI_0, bI_n0, bI_x, xb_0, xb_1, xite_bI, xite_bI', not_true_eq_false, not_false_eq_true, Nat.zero_add, Nat.add_zero, Nat.mul_zero, Nat.mul_one, Nat.one_mul, reduceIte, Nat.reduceEqDiff, Nat.reduceAdd, Nat.reduceMul, Nat.reduceSub, Nat.reduceLT, Nat.reduceLeDiff, Nat.reducePow, ite_true, ite_false, if_true, if_false, and_true, true_and, false_and, and_false, or_false, false_or, true_or, or_true, ne_eq, xite_t, xite_f, hp0, h1, h2, M43 _ _ h hn hg (show s < 64 by omega), c1]
              exact f1
  have h' : ML (rI (wI σ 17 0 24 (-nI 4)) 18 0) n0 X := by simp (disch := omega) only [n_cl, n_lt, n_le, n_eq, n_lt0, n_0lt, n_le0, n_eq0, n_gneq, n_ngeq, n_ng0, n_nglt, n_glt, n_gle, n_ltg, n_leg, n_gg, n_ge0, n_add, n_mul, n_rem, n_shl1, n_and, n_or, n_bit, n_not, n_not', n_B1, n_B0, n_BB, obind, xite_T, xite_F, xite_not, xite_same, oI_s, oI_n, Bool.false_eq_true, reduceCtorEq, eq_self, Classical.not_not, bI_T, bI_Fa, bI_0, bI_n0, bI_x, xb_0, xb_1, xite_bI, xite_bI', not_true_eq_false, not_false_eq_true, Nat.zero_add, Nat.add_zero, Nat.mul_zero, Nat.mul_one, Nat.one_mul, reduceIte, Nat.reduceEqDiff, Nat.reduceAdd, Nat.reduceMul, Nat.reduceSub, Nat.reduceLT, Nat.reduceLeDiff, Nat.reducePow, ite_true, ite_false, if_true, if_false, and_true, true_and, false_and, and_false, or_false, false_or, true_or, or_true, ne_eq, xite_t, xite_f, w_I2, w_Is, w_In, w_IL, w_IP, w_IC, w_LI, w_LP, w_LC, w_PI, w_PL, w_PC]; exact h
  obtain ⟨σ', f1, f2, f3⟩ := loop (2 ^ xaP X) 0 none (wI σ 17 0 24 (-nI 4)) (by omega) h' (by simp (disch := omega) only [n_cl, n_lt, n_le, n_eq, n_lt0, n_0lt, n_le0, n_eq0, n_gneq, n_ngeq, n_ng0, n_nglt, n_glt, n_gle, n_ltg, n_leg, n_gg, n_ge0, n_add, n_mul, n_rem, n_shl1, n_and, n_or, n_bit, n_not, n_not', n_B1, n_B0, n_BB, obind, xite_T, xite_F, xite_not, xite_same, oI_s, oI_n, Bool.false_eq_true, reduceCtorEq, eq_self, Classical.not_not, bI_T, bI_Fa, bI_0, bI_n0, bI_x, xb_0, xb_1, xite_bI, xite_bI', not_true_eq_false, not_false_eq_true, Nat.zero_add, Nat.add_zero, Nat.mul_zero, Nat.mul_one, Nat.one_mul, reduceIte, Nat.reduceEqDiff, Nat.reduceAdd, Nat.reduceMul, Nat.reduceSub, Nat.reduceLT, Nat.reduceLeDiff, Nat.reducePow, ite_true, ite_false, if_true, if_false, and_true, true_and, false_and, and_false, or_false, false_or, true_or, or_true, ne_eq, xite_t, xite_f, w_I2, w_Is, w_In, w_IL, w_IP, w_IC, w_LI, w_LP, w_LC, w_PI, w_PL, w_PC]; rfl) (fun v t ht => by cases ht)
  refine ⟨σ', ?_, f2, xF_trans (xF_wI (xF_refl σ) _ ⟨rfl, rfl⟩) f3⟩
  rw [B44_0]
  exact f1
