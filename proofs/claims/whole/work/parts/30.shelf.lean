/-! SHELVES, REFUSALS, THE SMALL CALLS -/
/-- carriers that are stay -/
def agr (σ σ' : xS) : Prop := (rC σ).length ≤ (rC σ').length ∧ ∀ q, q < (rC σ).length → (rC σ').getD q 0 = (rC σ).getD q 0 ∧ rI σ' 16 q = rI σ 16 q
/-- as xF, with new carriers -/
def xH (n : Nat) (S : Nat → Nat → Nat → Prop) (σ σ' : xS) : Prop := (∀ r i k, r ≠ 16 → ¬ S r i k → rI σ' r i k = rI σ r i k ∧ rL σ' r i k = rL σ r i k ∧ rP σ' r i k = rP σ r i k) ∧ agr σ σ' ∧ cN σ' ≤ cN σ + n ∧ cS σ' ≤ cS σ + 8 * n
theorem cOk_g {σ σ' : xS} {q k f : Nat} (h : cOk σ q k f) (g : agr σ σ') : cOk σ' q k f := by
  obtain ⟨a, b⟩ := g
  obtain ⟨b1, b2⟩ := b q h.1
  unfold cOk
  rw [b1, b2]
  exact ⟨Nat.lt_of_lt_of_le h.1 a, h.2⟩
theorem xH_F {n : Nat} {S : Nat → Nat → Nat → Prop} {σ σ' : xS} (h : xF S σ σ') (h16 : ∀ j k, ¬ S 16 j k) : xH n S σ σ' :=
  ⟨fun r i k _ hs => ⟨h.1 r i k hs, h.2.1 r i k hs, h.2.2.1 r i k hs⟩, ⟨by rw [h.2.2.2.1]; exact Nat.le_refl _, fun q _ => ⟨by rw [h.2.2.2.1], xF_I h (fun k => h16 q k)⟩⟩, by rw [h.2.2.2.2.1]; omega, by rw [h.2.2.2.2.2]; omega⟩
theorem agr_t {σ σ' σ'' : xS} (h : agr σ σ') (g : agr σ' σ'') : agr σ σ'' := ⟨Nat.le_trans h.1 g.1, fun q hq => ⟨(g.2 q (Nat.lt_of_lt_of_le hq h.1)).1.trans (h.2 q hq).1, (g.2 q (Nat.lt_of_lt_of_le hq h.1)).2.trans (h.2 q hq).2⟩⟩
theorem xH_t {n m : Nat} {S : Nat → Nat → Nat → Prop} {σ σ' σ'' : xS} (h : xH n S σ σ') (g : xH m S σ' σ'') : xH (n + m) S σ σ'' :=
  ⟨fun r i k hr hs => ⟨(g.1 r i k hr hs).1.trans (h.1 r i k hr hs).1, (g.1 r i k hr hs).2.1.trans (h.1 r i k hr hs).2.1, (g.1 r i k hr hs).2.2.trans (h.1 r i k hr hs).2.2⟩, agr_t h.2.1 g.2.1, by have := h.2.2.1; have := g.2.2.1; omega, by have := h.2.2.2; have := g.2.2.2; omega⟩
theorem xH_le {n m : Nat} {S S' : Nat → Nat → Nat → Prop} {σ σ' : xS} (h : xH n S σ σ') (hn : n ≤ m) (hS : ∀ r i k, S r i k → S' r i k) : xH m S' σ σ' :=
  ⟨fun r i k hr hs => h.1 r i k hr (fun s => hs (hS _ _ _ s)), h.2.1, by have := h.2.2.1; omega, by have := h.2.2.2; omega⟩
theorem CL_G {n : Nat} {S : Nat → Nat → Nat → Prop} {σ σ' : xS} {i : Nat} {X : mX} (h : CL σ i X) (g : xH n S σ σ') (hS : ∀ r k, r = 1 ∨ r = 2 ∨ r = 3 ∨ r = 4 ∨ r = 5 → ¬ S r i k) : CL σ' i X := by
  have hI : ∀ r, r = 1 ∨ r = 2 ∨ r = 3 ∨ r = 4 ∨ r = 5 → rI σ' r i = rI σ r i ∧ rL σ' r i = rL σ r i ∧ rP σ' r i = rP σ r i := fun r hr => ⟨funext fun k => (g.1 r i k (by omega) (hS r k hr)).1, funext fun k => (g.1 r i k (by omega) (hS r k hr)).2.1, funext fun k => (g.1 r i k (by omega) (hS r k hr)).2.2⟩
  unfold CL
  rw [(hI 1 (by omega)).1, (hI 2 (by omega)).1, (hI 3 (by omega)).1, (hI 4 (by omega)).1, (hI 1 (by omega)).2.1, (hI 5 (by omega)).2.2]
  refine ⟨h.1, h.2.1, h.2.2.1, h.2.2.2.1, h.2.2.2.2.1, h.2.2.2.2.2.1, fun c hc => ?_⟩
  obtain ⟨q, e, hq⟩ := h.2.2.2.2.2.2 c hc
  exact ⟨q, e, cOk_g hq g.2.1⟩
theorem cSh_G {n : Nat} {S : Nat → Nat → Nat → Prop} {σ σ' : xS} {d : Nat} {x : mSh} (h : cSh σ d x) (g : xH n S σ σ') (h1 : ¬ S 11 0 d) (h2 : ¬ S 12 0 d) (h3 : ∀ k, ¬ S 14 d k) (h4 : ∀ k, ¬ S 15 d k) : cSh σ' d x := by
  obtain ⟨e1, e2, e3, e4, e5, e6⟩ := h
  refine ⟨e1, ?_, fun h1 => ?_, ?_, ?_, fun j hj => ?_⟩
  · rw [(g.1 11 0 d (by omega) h1).1]; exact e2
  · obtain ⟨q, q1, q2⟩ := e3 h1
    exact ⟨q, by rw [(g.1 12 0 d (by omega) h2).2.2]; exact q1, cOk_g q2 g.2.1⟩
  · rw [(g.1 14 d 1 (by omega) (h3 1)).1]; exact e4
  · rw [(g.1 14 d 2 (by omega) (h3 2)).1]; exact e5
  · rw [(g.1 15 d j (by omega) (h4 j)).1]; exact e6 j hj
def shU (f : Nat → mSh) (d : Nat) (x : mSh) : Nat → mSh := fun e => if e = d then x else f e
def Ssh (d r j k : Nat) : Prop := ((r = 11 ∨ r = 12) ∧ k = d) ∨ ((r = 14 ∨ r = 15) ∧ j = d)
theorem CI_sh {n : Nat} {σ σ' : xS} {S : mG} {d : Nat} {x : mSh} (h : CI σ S) (g : xH n (Ssh d) σ σ') (hx : cSh σ' d x) : CI σ' (S.1, S.2.1, shU S.2.2 d x) := by
  obtain ⟨a, b, c, e⟩ := h
  refine ⟨CL_G a g (fun r k hr => by unfold Ssh; omega), ?_, fun Y hY => CL_G (c Y hY) g (fun r k hr => by unfold Ssh; omega), fun d' hd => ?_⟩
  · rw [(g.1 0 0 3 (by omega) (by unfold Ssh; omega)).1]; exact b
  · show cSh σ' d' (if d' = d then x else S.2.2 d')
    by_cases h : d' = d
    · rw [if_pos h, h]; exact hx
    · rw [if_neg h]
      exact cSh_G (e d' hd) g (by unfold Ssh; omega) (by unfold Ssh; omega) (fun k => by unfold Ssh; omega) (fun k => by unfold Ssh; omega)
def Smh (d r _ k : Nat) : Prop := ((r = 22 ∨ r = 23 ∨ r = 24 ∨ r = 26 ∨ r = 27) ∧ k = d) ∨ (r = 25 ∧ 100 * d ≤ k ∧ k < 100 * d + 100)
theorem mShl_F {S : Nat → Nat → Nat → Prop} {σ σ' : xS} {d : Nat} {x : mSh} (h : mShl σ d x) (g : xF S σ σ') (h1 : ∀ r, r = 22 ∨ r = 23 ∨ r = 24 ∨ r = 26 ∨ r = 27 → ¬ S r 0 d) (h2 : ∀ j, j < 100 → ¬ S 25 0 (100 * d + j)) : mShl σ' d x := by
  obtain ⟨e1, e2, e3, e4, e5, e6⟩ := h
  refine ⟨e1, ?_, fun h => ?_, ?_, ?_, fun j hj => ?_⟩
  · rw [g.1 22 0 d (h1 _ (by omega))]; exact e2
  · rw [g.1 26 0 d (h1 _ (by omega)), g.1 27 0 d (h1 _ (by omega))]; exact e3 h
  · rw [g.1 23 0 d (h1 _ (by omega))]; exact e4
  · rw [g.1 24 0 d (h1 _ (by omega))]; exact e5
  · rw [g.1 25 0 (100 * d + j) (h2 j hj)]; exact e6 j hj
theorem MI_sh {σ σ' : xS} {S : mG} {d : Nat} {x : mSh} (h : MI σ S) (g : xF (Smh d) σ σ') (hx : mShl σ' d x) : MI σ' (S.1, S.2.1, shU S.2.2 d x) := by
  obtain ⟨a, b, c, e⟩ := h
  refine ⟨?_, ?_, ?_, fun d' hd => ?_⟩
  · rw [xF_I g (r := 18) (i := 0) (fun k => by unfold Smh; omega)]; exact a
  · rw [g.1 17 0 10 (by unfold Smh; omega)]; exact b
  · rw [xF_I g (r := 19) (i := 0) (fun k => by unfold Smh; omega)]; exact c
  · show mShl σ' d' (if d' = d then x else S.2.2 d')
    by_cases h : d' = d
    · rw [if_pos h, h]; exact hx
    · rw [if_neg h]
      exact mShl_F (e d' hd) g (fun r hr => by unfold Smh; omega) (fun j hj => by unfold Smh; omega)
theorem kM_sh {σ σ' : xS} {d : Nat} (g : xF (Smh d) σ σ') : kM σ σ' := xF_le g (fun r j k s => by unfold Smh at s; unfold Smd; omega)
theorem kC_G {n : Nat} {S : Nat → Nat → Nat → Prop} {σ σ' : xS} (g : xH n S σ σ') (h : ∀ r j k, S r j k → r ≤ 16) : kC n σ σ' :=
  ⟨fun r i k' hr => g.1 r i k' (by omega) (fun s => by have := h _ _ _ s; omega), g.2.2.1, g.2.2.2⟩
theorem Ssh_16 (d r j k : Nat) (h : Ssh d r j k) : r ≤ 16 := by unfold Ssh at h; omega
/-- what is said of a row that isn't there -/
noncomputable def rrI (x : mSh) (by0 : Prop) : Int32 := xite (x.1 = 0) (-nI 11) (xite (x.1 = 2 ∧ (by0 → x.2.2.2.1 = 0)) (nI 0) (-nI 12))
theorem rrI_0 {x : mSh} {p : Prop} : (rrI x p = 0) = (x.1 = 2 ∧ (p → x.2.2.2.1 = 0)) := by
  unfold rrI
  by_cases h : x.1 = 0
  · rw [xite_t h, n_ng0 (by omega) (by omega), h]
    simp
  · rw [xite_f h]
    by_cases h2 : x.1 = 2 ∧ (p → x.2.2.2.1 = 0)
    · rw [xite_t h2, n_0]
      exact (eq_true rfl).trans (eq_true h2).symm
    · rw [xite_f h2, n_ng0 (by omega) (by omega)]
      exact (eq_false h2).symm
theorem C171_f (d : Nat) (σ : xS) {v w : Int32} (h : ¬ inb v 8) : run (d + 2) (xentry 171 [.inr (.inr (0, (some 0))), .inl v, .inl w] σ) = some ((-nI 1, 0, none), σ) := by
  rw [B171_0, C166 _ _ _ (by omega)]
  simp (disch := omega) only [n_cl, n_lt, n_le, n_eq, n_lt0, n_0lt, n_le0, n_eq0, n_gneq, n_ngeq, n_ng0, n_nglt, n_glt, n_gle, n_ltg, n_leg, n_gg, n_ge0, n_add, n_mul, n_rem, n_shl1, n_and, n_or, n_bit, n_not, n_not', n_B1, n_B0, n_BB, obind, xite_T, xite_F, xite_not, xite_same, oI_s, oI_n, Bool.false_eq_true, reduceCtorEq, eq_self, Classical.not_not, bI_T, bI_Fa, bI_0, bI_n0, bI_x, xb_0, xb_1, xite_bI, xite_bI', not_true_eq_false, not_false_eq_true, Nat.zero_add, Nat.add_zero, Nat.mul_zero, Nat.mul_one, Nat.one_mul, reduceIte, Nat.reduceEqDiff, Nat.reduceAdd, Nat.reduceMul, Nat.reduceSub, Nat.reduceLT, Nat.reduceLeDiff, Nat.reducePow, ite_true, ite_false, if_true, if_false, and_true, true_and, false_and, and_false, or_false, false_or, true_or, or_true, ne_eq, h]
theorem C171 (d : Nat) (σ : xS) {e b : Nat} {x : mSh} (h : cSh σ e x) (he : e < 8) (hb : b ≤ 1) : run (d + 2) (xentry 171 [.inr (.inr (0, (some 0))), .inl (nI e), .inl (nI b)] σ) = some ((rrI x (b = 1), 0, none), σ) := by
  obtain ⟨e1, e2, e3, e4, e5, e6⟩ := h
  have hx2 := e1.1
  have hs2 := e1.2.2.1
  rw [B171_0, C166 _ _ _ (by omega)]
  simp (disch := omega) only [n_cl, n_lt, n_le, n_eq, n_lt0, n_0lt, n_le0, n_eq0, n_gneq, n_ngeq, n_ng0, n_nglt, n_glt, n_gle, n_ltg, n_leg, n_gg, n_ge0, n_add, n_mul, n_rem, n_shl1, n_and, n_or, n_bit, n_not, n_not', n_B1, n_B0, n_BB, obind, xite_T, xite_F, xite_not, xite_same, oI_s, oI_n, Bool.false_eq_true, reduceCtorEq, eq_self, Classical.not_not, bI_T, bI_Fa, bI_0, bI_n0, bI_x, xb_0, xb_1, xite_bI, xite_bI', not_true_eq_false, not_false_eq_true, Nat.zero_add, Nat.add_zero, Nat.mul_zero, Nat.mul_one, Nat.one_mul, reduceIte, Nat.reduceEqDiff, Nat.reduceAdd, Nat.reduceMul, Nat.reduceSub, Nat.reduceLT, Nat.reduceLeDiff, Nat.reducePow, ite_true, ite_false, if_true, if_false, and_true, true_and, false_and, and_false, or_false, false_or, true_or, or_true, ne_eq, inb_nI, he, e2, e4]
  unfold rrI
  have h012 : x.1 = 0 ∨ x.1 = 1 ∨ x.1 = 2 := by omega
  have hb' : b = 0 ∨ b = 1 := by omega
  rcases h012 with h | h | h <;> rcases hb' with hb | hb <;> subst hb <;> rw [h] <;> simp (disch := omega) only [n_cl, n_lt, n_le, n_eq, n_lt0, n_0lt, n_le0, n_eq0, n_gneq, n_ngeq, n_ng0, n_nglt, n_glt, n_gle, n_ltg, n_leg, n_gg, n_ge0, n_add, n_mul, n_rem, n_shl1, n_and, n_or, n_bit, n_not, n_not', n_B1, n_B0, n_BB, obind, xite_T, xite_F, xite_not, xite_same, oI_s, oI_n, Bool.false_eq_true, reduceCtorEq, eq_self, Classical.not_not, bI_T, bI_Fa, bI_0, bI_n0, bI_x, xb_0, xb_1, xite_bI, xite_bI', not_true_eq_false, not_false_eq_true, Nat.zero_add, Nat.add_zero, Nat.mul_zero, Nat.mul_one, Nat.one_mul, reduceIte, Nat.reduceEqDiff, Nat.reduceAdd, Nat.reduceMul, Nat.reduceSub, Nat.reduceLT, Nat.reduceLeDiff, Nat.reducePow, ite_true, ite_false, if_true, if_false, and_true, true_and, false_and, and_false, or_false, false_or, true_or, or_true, ne_eq, xite_t, xite_f, ]
  · rw [xite_t (by simp)]
  · by_cases hs : x.2.2.2.1 = 0
    · rw [xite_t hs, xite_t (fun _ => hs)]
    · rw [xite_f hs, xite_f (fun h => hs (h trivial))]
theorem M29_f (d : Nat) (σ : xS) {v w : Int32} (h : ¬ inb v 8) : run (d + 3) (xentry 29 [.inr (.inr (17, (some 0))), .inl v, .inl w] σ) = some ((-nI 1, 0, none), σ) := by
  rw [B29_0, M2]
  simp (disch := omega) only [n_cl, n_lt, n_le, n_eq, n_lt0, n_0lt, n_le0, n_eq0, n_gneq, n_ngeq, n_ng0, n_nglt, n_glt, n_gle, n_ltg, n_leg, n_gg, n_ge0, n_add, n_mul, n_rem, n_shl1, n_and, n_or, n_bit, n_not, n_not', n_B1, n_B0, n_BB, obind, xite_T, xite_F, xite_not, xite_same, oI_s, oI_n, Bool.false_eq_true, reduceCtorEq, eq_self, Classical.not_not, bI_T, bI_Fa, bI_0, bI_n0, bI_x, xb_0, xb_1, xite_bI, xite_bI', not_true_eq_false, not_false_eq_true, Nat.zero_add, Nat.add_zero, Nat.mul_zero, Nat.mul_one, Nat.one_mul, reduceIte, Nat.reduceEqDiff, Nat.reduceAdd, Nat.reduceMul, Nat.reduceSub, Nat.reduceLT, Nat.reduceLeDiff, Nat.reducePow, ite_true, ite_false, if_true, if_false, and_true, true_and, false_and, and_false, or_false, false_or, true_or, or_true, ne_eq, h]
theorem M29 (d : Nat) (σ : xS) {e : Nat} {x : mSh} {w : Int32} {p : Prop} (h : mShl σ e x) (he : e < 8) (hw : (p ∧ w = nI 0) ∨ (¬ p ∧ w = -nI 1)) : run (d + 3) (xentry 29 [.inr (.inr (17, (some 0))), .inl (nI e), .inl w] σ) = some ((rrI x p, 0, none), σ) := by
  obtain ⟨e1, e2, e3, e4, e5, e6⟩ := h
  have hx2 := e1.1
  have hs2 := e1.2.2.1
  rw [B29_0, M2]
  simp (disch := omega) only [n_cl, n_lt, n_le, n_eq, n_lt0, n_0lt, n_le0, n_eq0, n_gneq, n_ngeq, n_ng0, n_nglt, n_glt, n_gle, n_ltg, n_leg, n_gg, n_ge0, n_add, n_mul, n_rem, n_shl1, n_and, n_or, n_bit, n_not, n_not', n_B1, n_B0, n_BB, obind, xite_T, xite_F, xite_not, xite_same, oI_s, oI_n, Bool.false_eq_true, reduceCtorEq, eq_self, Classical.not_not, bI_T, bI_Fa, bI_0, bI_n0, bI_x, xb_0, xb_1, xite_bI, xite_bI', not_true_eq_false, not_false_eq_true, Nat.zero_add, Nat.add_zero, Nat.mul_zero, Nat.mul_one, Nat.one_mul, reduceIte, Nat.reduceEqDiff, Nat.reduceAdd, Nat.reduceMul, Nat.reduceSub, Nat.reduceLT, Nat.reduceLeDiff, Nat.reducePow, ite_true, ite_false, if_true, if_false, and_true, true_and, false_and, and_false, or_false, false_or, true_or, or_true, ne_eq, inb_nI, he, e2, e4]
  unfold rrI
  have h012 : x.1 = 0 ∨ x.1 = 1 ∨ x.1 = 2 := by omega
  rcases h012 with h | h | h <;> rcases hw with ⟨hp, hb⟩ | ⟨hp, hb⟩ <;> subst hb <;> rw [h] <;> simp (disch := omega) only [n_cl, n_lt, n_le, n_eq, n_lt0, n_0lt, n_le0, n_eq0, n_gneq, n_ngeq, n_ng0, n_nglt, n_glt, n_gle, n_ltg, n_leg, n_gg, n_ge0, n_add, n_mul, n_rem, n_shl1, n_and, n_or, n_bit, n_not, n_not', n_B1, n_B0, n_BB, obind, xite_T, xite_F, xite_not, xite_same, oI_s, oI_n, Bool.false_eq_true, reduceCtorEq, eq_self, Classical.not_not, bI_T, bI_Fa, bI_0, bI_n0, bI_x, xb_0, xb_1, xite_bI, xite_bI', not_true_eq_false, not_false_eq_true, Nat.zero_add, Nat.add_zero, Nat.mul_zero, Nat.mul_one, Nat.one_mul, reduceIte, Nat.reduceEqDiff, Nat.reduceAdd, Nat.reduceMul, Nat.reduceSub, Nat.reduceLT, Nat.reduceLeDiff, Nat.reducePow, ite_true, ite_false, if_true, if_false, and_true, true_and, false_and, and_false, or_false, false_or, true_or, or_true, ne_eq, xite_t, xite_f, ]
  · by_cases hs : x.2.2.2.1 = 0
    · rw [xite_t hs, xite_t (fun _ => hs)]
    · rw [xite_f hs, xite_f (fun h => hs (h hp))]
  · rw [xite_t (fun h => absurd h hp)]
noncomputable def crI (x : mSh) : Int32 := xite (x.1 = 0) (-nI 11) (xite (x.1 = 1) (nI 0) (-nI 12))
theorem crI_0 {x : mSh} : (crI x = 0) = (x.1 = 1) := by
  unfold crI
  by_cases h : x.1 = 0
  · rw [xite_t h, n_ng0 (by omega) (by omega), h]
    simp
  · rw [xite_f h]
    by_cases h2 : x.1 = 1
    · rw [xite_t h2, n_0]
      exact (eq_true rfl).trans (eq_true h2).symm
    · rw [xite_f h2, n_ng0 (by omega) (by omega)]
      exact (eq_false h2).symm
theorem C172_f (d : Nat) (σ : xS) {v : Int32} (h : ¬ inb v 8) : run (d + 2) (xentry 172 [.inr (.inr (0, (some 0))), .inl v] σ) = some ((-nI 1, 0, none), σ) := by
  rw [B172_0, C166 _ _ _ (by omega)]
  simp (disch := omega) only [n_cl, n_lt, n_le, n_eq, n_lt0, n_0lt, n_le0, n_eq0, n_gneq, n_ngeq, n_ng0, n_nglt, n_glt, n_gle, n_ltg, n_leg, n_gg, n_ge0, n_add, n_mul, n_rem, n_shl1, n_and, n_or, n_bit, n_not, n_not', n_B1, n_B0, n_BB, obind, xite_T, xite_F, xite_not, xite_same, oI_s, oI_n, Bool.false_eq_true, reduceCtorEq, eq_self, Classical.not_not, bI_T, bI_Fa, bI_0, bI_n0, bI_x, xb_0, xb_1, xite_bI, xite_bI', not_true_eq_false, not_false_eq_true, Nat.zero_add, Nat.add_zero, Nat.mul_zero, Nat.mul_one, Nat.one_mul, reduceIte, Nat.reduceEqDiff, Nat.reduceAdd, Nat.reduceMul, Nat.reduceSub, Nat.reduceLT, Nat.reduceLeDiff, Nat.reducePow, ite_true, ite_false, if_true, if_false, and_true, true_and, false_and, and_false, or_false, false_or, true_or, or_true, ne_eq, h]
theorem C172 (d : Nat) (σ : xS) {e : Nat} {x : mSh} (h : cSh σ e x) (he : e < 8) : run (d + 2) (xentry 172 [.inr (.inr (0, (some 0))), .inl (nI e)] σ) = some ((crI x, 0, none), σ) := by
  obtain ⟨e1, e2, e3, e4, e5, e6⟩ := h
  have hx2 := e1.1
  rw [B172_0, C166 _ _ _ (by omega)]
  simp (disch := omega) only [n_cl, n_lt, n_le, n_eq, n_lt0, n_0lt, n_le0, n_eq0, n_gneq, n_ngeq, n_ng0, n_nglt, n_glt, n_gle, n_ltg, n_leg, n_gg, n_ge0, n_add, n_mul, n_rem, n_shl1, n_and, n_or, n_bit, n_not, n_not', n_B1, n_B0, n_BB, obind, xite_T, xite_F, xite_not, xite_same, oI_s, oI_n, Bool.false_eq_true, reduceCtorEq, eq_self, Classical.not_not, bI_T, bI_Fa, bI_0, bI_n0, bI_x, xb_0, xb_1, xite_bI, xite_bI', not_true_eq_false, not_false_eq_true, Nat.zero_add, Nat.add_zero, Nat.mul_zero, Nat.mul_one, Nat.one_mul, reduceIte, Nat.reduceEqDiff, Nat.reduceAdd, Nat.reduceMul, Nat.reduceSub, Nat.reduceLT, Nat.reduceLeDiff, Nat.reducePow, ite_true, ite_false, if_true, if_false, and_true, true_and, false_and, and_false, or_false, false_or, true_or, or_true, ne_eq, inb_nI, he, e2]
  unfold crI
  have h012 : x.1 = 0 ∨ x.1 = 1 ∨ x.1 = 2 := by omega
  rcases h012 with h | h | h <;> rw [h] <;> simp (disch := omega) only [n_cl, n_lt, n_le, n_eq, n_lt0, n_0lt, n_le0, n_eq0, n_gneq, n_ngeq, n_ng0, n_nglt, n_glt, n_gle, n_ltg, n_leg, n_gg, n_ge0, n_add, n_mul, n_rem, n_shl1, n_and, n_or, n_bit, n_not, n_not', n_B1, n_B0, n_BB, obind, xite_T, xite_F, xite_not, xite_same, oI_s, oI_n, Bool.false_eq_true, reduceCtorEq, eq_self, Classical.not_not, bI_T, bI_Fa, bI_0, bI_n0, bI_x, xb_0, xb_1, xite_bI, xite_bI', not_true_eq_false, not_false_eq_true, Nat.zero_add, Nat.add_zero, Nat.mul_zero, Nat.mul_one, Nat.one_mul, reduceIte, Nat.reduceEqDiff, Nat.reduceAdd, Nat.reduceMul, Nat.reduceSub, Nat.reduceLT, Nat.reduceLeDiff, Nat.reducePow, ite_true, ite_false, if_true, if_false, and_true, true_and, false_and, and_false, or_false, false_or, true_or, or_true, ne_eq, xite_t, xite_f, ]
theorem M33_f (d : Nat) (σ : xS) {v : Int32} (h : ¬ inb v 8) : run (d + 3) (xentry 33 [.inr (.inr (17, (some 0))), .inl v] σ) = some ((-nI 1, 0, none), σ) := by
  rw [B33_0, M2]
  simp (disch := omega) only [n_cl, n_lt, n_le, n_eq, n_lt0, n_0lt, n_le0, n_eq0, n_gneq, n_ngeq, n_ng0, n_nglt, n_glt, n_gle, n_ltg, n_leg, n_gg, n_ge0, n_add, n_mul, n_rem, n_shl1, n_and, n_or, n_bit, n_not, n_not', n_B1, n_B0, n_BB, obind, xite_T, xite_F, xite_not, xite_same, oI_s, oI_n, Bool.false_eq_true, reduceCtorEq, eq_self, Classical.not_not, bI_T, bI_Fa, bI_0, bI_n0, bI_x, xb_0, xb_1, xite_bI, xite_bI', not_true_eq_false, not_false_eq_true, Nat.zero_add, Nat.add_zero, Nat.mul_zero, Nat.mul_one, Nat.one_mul, reduceIte, Nat.reduceEqDiff, Nat.reduceAdd, Nat.reduceMul, Nat.reduceSub, Nat.reduceLT, Nat.reduceLeDiff, Nat.reducePow, ite_true, ite_false, if_true, if_false, and_true, true_and, false_and, and_false, or_false, false_or, true_or, or_true, ne_eq, h]
theorem M33 (d : Nat) (σ : xS) {e : Nat} {x : mSh} (h : mShl σ e x) (he : e < 8) : run (d + 3) (xentry 33 [.inr (.inr (17, (some 0))), .inl (nI e)] σ) = some ((crI x, 0, none), σ) := by
  obtain ⟨e1, e2, e3, e4, e5, e6⟩ := h
  have hx2 := e1.1
  rw [B33_0, M2]
  simp (disch := omega) only [n_cl, n_lt, n_le, n_eq, n_lt0, n_0lt, n_le0, n_eq0, n_gneq, n_ngeq, n_ng0, n_nglt, n_glt, n_gle, n_ltg, n_leg, n_gg, n_ge0, n_add, n_mul, n_rem, n_shl1, n_and, n_or, n_bit, n_not, n_not', n_B1, n_B0, n_BB, obind, xite_T, xite_F, xite_not, xite_same, oI_s, oI_n, Bool.false_eq_true, reduceCtorEq, eq_self, Classical.not_not, bI_T, bI_Fa, bI_0, bI_n0, bI_x, xb_0, xb_1, xite_bI, xite_bI', not_true_eq_false, not_false_eq_true, Nat.zero_add, Nat.add_zero, Nat.mul_zero, Nat.mul_one, Nat.one_mul, reduceIte, Nat.reduceEqDiff, Nat.reduceAdd, Nat.reduceMul, Nat.reduceSub, Nat.reduceLT, Nat.reduceLeDiff, Nat.reducePow, ite_true, ite_false, if_true, if_false, and_true, true_and, false_and, and_false, or_false, false_or, true_or, or_true, ne_eq, inb_nI, he, e2]
  unfold crI
  have h012 : x.1 = 0 ∨ x.1 = 1 ∨ x.1 = 2 := by omega
  rcases h012 with h | h | h <;> rw [h] <;> simp (disch := omega) only [n_cl, n_lt, n_le, n_eq, n_lt0, n_0lt, n_le0, n_eq0, n_gneq, n_ngeq, n_ng0, n_nglt, n_glt, n_gle, n_ltg, n_leg, n_gg, n_ge0, n_add, n_mul, n_rem, n_shl1, n_and, n_or, n_bit, n_not, n_not', n_B1, n_B0, n_BB, obind, xite_T, xite_F, xite_not, xite_same, oI_s, oI_n, Bool.false_eq_true, reduceCtorEq, eq_self, Classical.not_not, bI_T, bI_Fa, bI_0, bI_n0, bI_x, xb_0, xb_1, xite_bI, xite_bI', not_true_eq_false, not_false_eq_true, Nat.zero_add, Nat.add_zero, Nat.mul_zero, Nat.mul_one, Nat.one_mul, reduceIte, Nat.reduceEqDiff, Nat.reduceAdd, Nat.reduceMul, Nat.reduceSub, Nat.reduceLT, Nat.reduceLeDiff, Nat.reducePow, ite_true, ite_false, if_true, if_false, and_true, true_and, false_and, and_false, or_false, false_or, true_or, or_true, ne_eq, xite_t, xite_f, ]
theorem inb4 {w : Int32} (h : inb w 4) : w = nI 0 ∨ w = nI 1 ∨ w = nI 2 ∨ w = nI 3 := by
  obtain ⟨k, hk, e⟩ := inb_of h (by omega)
  have : k = 0 ∨ k = 1 ∨ k = 2 ∨ k = 3 := by omega
  rcases this with a | a | a | a <;> subst a <;> simp [e]
theorem inb2 {w : Int32} (h : inb w 2) : w = nI 0 ∨ w = nI 1 := by
  obtain ⟨k, hk, e⟩ := inb_of h (by omega)
  have : k = 0 ∨ k = 1 := by omega
  rcases this with a | a <;> subst a <;> simp [e]
theorem ninb {w : Int32} {n k : Nat} (h : ¬ inb w n) (hk : k < n) (hn : n < 2147483648) : (w = nI k) = False := by
  refine eq_false (fun e => h ?_)
  rw [e, inb_nI (by omega)]
  exact hk
theorem duo_road (d : Nat) (S : mG) (hX : WX (xaR S.1) S.1) (r w : Int32) : Duo (d + 60) (fun σ => xentry 139 [.inr (.inr (0, (some 0))), .inl r, .inl w] σ) (fun σ => xentry 31 [.inr (.inr (17, (some 0))), .inl r, .inl w] σ) S := by
  have h9 := hX.2.2.1
  by_cases h1 : inb r (xaR S.1)
  · obtain ⟨r', hr, e⟩ := inb_of h1 (by omega)
    subst e
    by_cases h2 : inb w 4
    · refine duo_bad (xite (w = nI 0) (nI (xaF S.1 r')) (xite (w = nI 1) (nI (xaT S.1 r')) (xite (w = nI 2) (nI (xaM S.1 r')) (nI (xaN S.1 r'))))) (fun σ h => ?_) (fun σ h => ?_)
      · obtain ⟨a1, a2, a3⟩ := h.1.2.2.2.2.1 r' hr
        have a4 := C99 (d + 58) σ h.1 hr
        rw [B139_0, C94 _ _ _ h.1]
        rcases inb4 h2 with e | e | e | e <;> subst e <;> simp (disch := omega) only [n_cl, n_lt, n_le, n_eq, n_lt0, n_0lt, n_le0, n_eq0, n_gneq, n_ngeq, n_ng0, n_nglt, n_glt, n_gle, n_ltg, n_leg, n_gg, n_ge0, n_add, n_mul, n_rem, n_shl1, n_and, n_or, n_bit, n_not, n_not', n_B1, n_B0, n_BB, obind, xite_T, xite_F, xite_not, xite_same, oI_s, oI_n, Bool.false_eq_true, reduceCtorEq, eq_self, Classical.not_not, bI_T, bI_Fa, bI_0, bI_n0, bI_x, xb_0, xb_1, xite_bI, xite_bI', not_true_eq_false, not_false_eq_true, Nat.zero_add, Nat.add_zero, Nat.mul_zero, Nat.mul_one, Nat.one_mul, reduceIte, Nat.reduceEqDiff, Nat.reduceAdd, Nat.reduceMul, Nat.reduceSub, Nat.reduceLT, Nat.reduceLeDiff, Nat.reducePow, ite_true, ite_false, if_true, if_false, and_true, true_and, false_and, and_false, or_false, false_or, true_or, or_true, ne_eq, xite_t, xite_f, h1, a1, a2, a3, a4]
      · rw [B31_0, M4 _ _ _ h.1]
        have a1 := M8_0 (d + 58) σ h.1 hr
        have a2 := M8_1 (d + 58) σ h.1 hr
        have a3 := M8_2 (d + 58) σ h.1 hr
        have a4 := M8_3 (d + 58) σ h.1 hr
        rcases inb4 h2 with e | e | e | e <;> subst e <;> simp (disch := omega) only [n_cl, n_lt, n_le, n_eq, n_lt0, n_0lt, n_le0, n_eq0, n_gneq, n_ngeq, n_ng0, n_nglt, n_glt, n_gle, n_ltg, n_leg, n_gg, n_ge0, n_add, n_mul, n_rem, n_shl1, n_and, n_or, n_bit, n_not, n_not', n_B1, n_B0, n_BB, obind, xite_T, xite_F, xite_not, xite_same, oI_s, oI_n, Bool.false_eq_true, reduceCtorEq, eq_self, Classical.not_not, bI_T, bI_Fa, bI_0, bI_n0, bI_x, xb_0, xb_1, xite_bI, xite_bI', not_true_eq_false, not_false_eq_true, Nat.zero_add, Nat.add_zero, Nat.mul_zero, Nat.mul_one, Nat.one_mul, reduceIte, Nat.reduceEqDiff, Nat.reduceAdd, Nat.reduceMul, Nat.reduceSub, Nat.reduceLT, Nat.reduceLeDiff, Nat.reducePow, ite_true, ite_false, if_true, if_false, and_true, true_and, false_and, and_false, or_false, false_or, true_or, or_true, ne_eq, xite_t, xite_f, h1, h2, M1c, a1, a2, a3, a4]
    · refine duo_bad (-nI 1) (fun σ h => ?_) (fun σ h => ?_)
      · rw [B139_0, C94 _ _ _ h.1]
        simp (disch := omega) only [n_cl, n_lt, n_le, n_eq, n_lt0, n_0lt, n_le0, n_eq0, n_gneq, n_ngeq, n_ng0, n_nglt, n_glt, n_gle, n_ltg, n_leg, n_gg, n_ge0, n_add, n_mul, n_rem, n_shl1, n_and, n_or, n_bit, n_not, n_not', n_B1, n_B0, n_BB, obind, xite_T, xite_F, xite_not, xite_same, oI_s, oI_n, Bool.false_eq_true, reduceCtorEq, eq_self, Classical.not_not, bI_T, bI_Fa, bI_0, bI_n0, bI_x, xb_0, xb_1, xite_bI, xite_bI', not_true_eq_false, not_false_eq_true, Nat.zero_add, Nat.add_zero, Nat.mul_zero, Nat.mul_one, Nat.one_mul, reduceIte, Nat.reduceEqDiff, Nat.reduceAdd, Nat.reduceMul, Nat.reduceSub, Nat.reduceLT, Nat.reduceLeDiff, Nat.reducePow, ite_true, ite_false, if_true, if_false, and_true, true_and, false_and, and_false, or_false, false_or, true_or, or_true, ne_eq, h1, ninb h2 (show 0 < 4 by omega), ninb h2 (show 1 < 4 by omega), ninb h2 (show 2 < 4 by omega), ninb h2 (show 3 < 4 by omega)]
      · rw [B31_0, M4 _ _ _ h.1]
        simp (disch := omega) only [n_cl, n_lt, n_le, n_eq, n_lt0, n_0lt, n_le0, n_eq0, n_gneq, n_ngeq, n_ng0, n_nglt, n_glt, n_gle, n_ltg, n_leg, n_gg, n_ge0, n_add, n_mul, n_rem, n_shl1, n_and, n_or, n_bit, n_not, n_not', n_B1, n_B0, n_BB, obind, xite_T, xite_F, xite_not, xite_same, oI_s, oI_n, Bool.false_eq_true, reduceCtorEq, eq_self, Classical.not_not, bI_T, bI_Fa, bI_0, bI_n0, bI_x, xb_0, xb_1, xite_bI, xite_bI', not_true_eq_false, not_false_eq_true, Nat.zero_add, Nat.add_zero, Nat.mul_zero, Nat.mul_one, Nat.one_mul, reduceIte, Nat.reduceEqDiff, Nat.reduceAdd, Nat.reduceMul, Nat.reduceSub, Nat.reduceLT, Nat.reduceLeDiff, Nat.reducePow, ite_true, ite_false, if_true, if_false, and_true, true_and, false_and, and_false, or_false, false_or, true_or, or_true, ne_eq, h1, h2, M1c]
  · refine duo_bad (-nI 1) (fun σ h => ?_) (fun σ h => ?_)
    · rw [B139_0, C94 _ _ _ h.1]
      simp (disch := omega) only [n_cl, n_lt, n_le, n_eq, n_lt0, n_0lt, n_le0, n_eq0, n_gneq, n_ngeq, n_ng0, n_nglt, n_glt, n_gle, n_ltg, n_leg, n_gg, n_ge0, n_add, n_mul, n_rem, n_shl1, n_and, n_or, n_bit, n_not, n_not', n_B1, n_B0, n_BB, obind, xite_T, xite_F, xite_not, xite_same, oI_s, oI_n, Bool.false_eq_true, reduceCtorEq, eq_self, Classical.not_not, bI_T, bI_Fa, bI_0, bI_n0, bI_x, xb_0, xb_1, xite_bI, xite_bI', not_true_eq_false, not_false_eq_true, Nat.zero_add, Nat.add_zero, Nat.mul_zero, Nat.mul_one, Nat.one_mul, reduceIte, Nat.reduceEqDiff, Nat.reduceAdd, Nat.reduceMul, Nat.reduceSub, Nat.reduceLT, Nat.reduceLeDiff, Nat.reducePow, ite_true, ite_false, if_true, if_false, and_true, true_and, false_and, and_false, or_false, false_or, true_or, or_true, ne_eq, h1]
    · rw [B31_0, M4 _ _ _ h.1]
      simp (disch := omega) only [n_cl, n_lt, n_le, n_eq, n_lt0, n_0lt, n_le0, n_eq0, n_gneq, n_ngeq, n_ng0, n_nglt, n_glt, n_gle, n_ltg, n_leg, n_gg, n_ge0, n_add, n_mul, n_rem, n_shl1, n_and, n_or, n_bit, n_not, n_not', n_B1, n_B0, n_BB, obind, xite_T, xite_F, xite_not, xite_same, oI_s, oI_n, Bool.false_eq_true, reduceCtorEq, eq_self, Classical.not_not, bI_T, bI_Fa, bI_0, bI_n0, bI_x, xb_0, xb_1, xite_bI, xite_bI', not_true_eq_false, not_false_eq_true, Nat.zero_add, Nat.add_zero, Nat.mul_zero, Nat.mul_one, Nat.one_mul, reduceIte, Nat.reduceEqDiff, Nat.reduceAdd, Nat.reduceMul, Nat.reduceSub, Nat.reduceLT, Nat.reduceLeDiff, Nat.reducePow, ite_true, ite_false, if_true, if_false, and_true, true_and, false_and, and_false, or_false, false_or, true_or, or_true, ne_eq, h1]
theorem duo_carrier (d : Nat) (S : mG) (hX : WX (xaR S.1) S.1) (c w : Int32) : Duo (d + 60) (fun σ => xentry 140 [.inr (.inr (0, (some 0))), .inl c, .inl w] σ) (fun σ => xentry 32 [.inr (.inr (17, (some 0))), .inl c, .inl w] σ) S := by
  have h6 := hX.2.2.2.1
  by_cases h1 : inb c (xaC S.1)
  · obtain ⟨c', hc, e⟩ := inb_of h1 (by omega)
    subst e
    by_cases h2 : inb w 2
    · refine duo_bad (xite (w = nI 0) (nI (xaK S.1 c')) (nI (xaG S.1 c'))) (fun σ h => ?_) (fun σ h => ?_)
      · obtain ⟨q, eq, hq⟩ := h.1.2.2.2.2.2.2 c' hc
        rw [B140_0, C95_t _ _ h.1 hc, eq]
        rcases inb2 h2 with e | e <;> subst e <;> simp (disch := omega) only [n_cl, n_lt, n_le, n_eq, n_lt0, n_0lt, n_le0, n_eq0, n_gneq, n_ngeq, n_ng0, n_nglt, n_glt, n_gle, n_ltg, n_leg, n_gg, n_ge0, n_add, n_mul, n_rem, n_shl1, n_and, n_or, n_bit, n_not, n_not', n_B1, n_B0, n_BB, obind, xite_T, xite_F, xite_not, xite_same, oI_s, oI_n, Bool.false_eq_true, reduceCtorEq, eq_self, Classical.not_not, bI_T, bI_Fa, bI_0, bI_n0, bI_x, xb_0, xb_1, xite_bI, xite_bI', not_true_eq_false, not_false_eq_true, Nat.zero_add, Nat.add_zero, Nat.mul_zero, Nat.mul_one, Nat.one_mul, reduceIte, Nat.reduceEqDiff, Nat.reduceAdd, Nat.reduceMul, Nat.reduceSub, Nat.reduceLT, Nat.reduceLeDiff, Nat.reducePow, ite_true, ite_false, if_true, if_false, and_true, true_and, false_and, and_false, or_false, false_or, true_or, or_true, ne_eq, h2, C166, xob_s, hq.2.2.1, hq.2.2.2]
      · have a1 := M10 (d + 58) σ h.1 hc
        have a2 := M11 (d + 58) σ h.1 hc
        rw [B32_0, M5 _ _ _ h.1]
        rcases inb2 h2 with e | e <;> subst e <;> simp (disch := omega) only [n_cl, n_lt, n_le, n_eq, n_lt0, n_0lt, n_le0, n_eq0, n_gneq, n_ngeq, n_ng0, n_nglt, n_glt, n_gle, n_ltg, n_leg, n_gg, n_ge0, n_add, n_mul, n_rem, n_shl1, n_and, n_or, n_bit, n_not, n_not', n_B1, n_B0, n_BB, obind, xite_T, xite_F, xite_not, xite_same, oI_s, oI_n, Bool.false_eq_true, reduceCtorEq, eq_self, Classical.not_not, bI_T, bI_Fa, bI_0, bI_n0, bI_x, xb_0, xb_1, xite_bI, xite_bI', not_true_eq_false, not_false_eq_true, Nat.zero_add, Nat.add_zero, Nat.mul_zero, Nat.mul_one, Nat.one_mul, reduceIte, Nat.reduceEqDiff, Nat.reduceAdd, Nat.reduceMul, Nat.reduceSub, Nat.reduceLT, Nat.reduceLeDiff, Nat.reducePow, ite_true, ite_false, if_true, if_false, and_true, true_and, false_and, and_false, or_false, false_or, true_or, or_true, ne_eq, xite_t, xite_f, h1, h2, M1c, a1, a2]
    · refine duo_bad (-nI 1) (fun σ h => ?_) (fun σ h => ?_)
      · obtain ⟨q, eq, hq⟩ := h.1.2.2.2.2.2.2 c' hc
        rw [B140_0, C95_t _ _ h.1 hc, eq]
        simp (disch := omega) only [n_cl, n_lt, n_le, n_eq, n_lt0, n_0lt, n_le0, n_eq0, n_gneq, n_ngeq, n_ng0, n_nglt, n_glt, n_gle, n_ltg, n_leg, n_gg, n_ge0, n_add, n_mul, n_rem, n_shl1, n_and, n_or, n_bit, n_not, n_not', n_B1, n_B0, n_BB, obind, xite_T, xite_F, xite_not, xite_same, oI_s, oI_n, Bool.false_eq_true, reduceCtorEq, eq_self, Classical.not_not, bI_T, bI_Fa, bI_0, bI_n0, bI_x, xb_0, xb_1, xite_bI, xite_bI', not_true_eq_false, not_false_eq_true, Nat.zero_add, Nat.add_zero, Nat.mul_zero, Nat.mul_one, Nat.one_mul, reduceIte, Nat.reduceEqDiff, Nat.reduceAdd, Nat.reduceMul, Nat.reduceSub, Nat.reduceLT, Nat.reduceLeDiff, Nat.reducePow, ite_true, ite_false, if_true, if_false, and_true, true_and, false_and, and_false, or_false, false_or, true_or, or_true, ne_eq, h2, C166]
      · rw [B32_0, M5 _ _ _ h.1]
        simp (disch := omega) only [n_cl, n_lt, n_le, n_eq, n_lt0, n_0lt, n_le0, n_eq0, n_gneq, n_ngeq, n_ng0, n_nglt, n_glt, n_gle, n_ltg, n_leg, n_gg, n_ge0, n_add, n_mul, n_rem, n_shl1, n_and, n_or, n_bit, n_not, n_not', n_B1, n_B0, n_BB, obind, xite_T, xite_F, xite_not, xite_same, oI_s, oI_n, Bool.false_eq_true, reduceCtorEq, eq_self, Classical.not_not, bI_T, bI_Fa, bI_0, bI_n0, bI_x, xb_0, xb_1, xite_bI, xite_bI', not_true_eq_false, not_false_eq_true, Nat.zero_add, Nat.add_zero, Nat.mul_zero, Nat.mul_one, Nat.one_mul, reduceIte, Nat.reduceEqDiff, Nat.reduceAdd, Nat.reduceMul, Nat.reduceSub, Nat.reduceLT, Nat.reduceLeDiff, Nat.reducePow, ite_true, ite_false, if_true, if_false, and_true, true_and, false_and, and_false, or_false, false_or, true_or, or_true, ne_eq, h1, h2, M1c]
  · refine duo_bad (-nI 1) (fun σ h => ?_) (fun σ h => ?_)
    · rw [B140_0, C95_f _ _ h.1 h1]
      simp (disch := omega) only [n_cl, n_lt, n_le, n_eq, n_lt0, n_0lt, n_le0, n_eq0, n_gneq, n_ngeq, n_ng0, n_nglt, n_glt, n_gle, n_ltg, n_leg, n_gg, n_ge0, n_add, n_mul, n_rem, n_shl1, n_and, n_or, n_bit, n_not, n_not', n_B1, n_B0, n_BB, obind, xite_T, xite_F, xite_not, xite_same, oI_s, oI_n, Bool.false_eq_true, reduceCtorEq, eq_self, Classical.not_not, bI_T, bI_Fa, bI_0, bI_n0, bI_x, xb_0, xb_1, xite_bI, xite_bI', not_true_eq_false, not_false_eq_true, Nat.zero_add, Nat.add_zero, Nat.mul_zero, Nat.mul_one, Nat.one_mul, reduceIte, Nat.reduceEqDiff, Nat.reduceAdd, Nat.reduceMul, Nat.reduceSub, Nat.reduceLT, Nat.reduceLeDiff, Nat.reducePow, ite_true, ite_false, if_true, if_false, and_true, true_and, false_and, and_false, or_false, false_or, true_or, or_true, ne_eq, ]
    · rw [B32_0, M5 _ _ _ h.1]
      simp (disch := omega) only [n_cl, n_lt, n_le, n_eq, n_lt0, n_0lt, n_le0, n_eq0, n_gneq, n_ngeq, n_ng0, n_nglt, n_glt, n_gle, n_ltg, n_leg, n_gg, n_ge0, n_add, n_mul, n_rem, n_shl1, n_and, n_or, n_bit, n_not, n_not', n_B1, n_B0, n_BB, obind, xite_T, xite_F, xite_not, xite_same, oI_s, oI_n, Bool.false_eq_true, reduceCtorEq, eq_self, Classical.not_not, bI_T, bI_Fa, bI_0, bI_n0, bI_x, xb_0, xb_1, xite_bI, xite_bI', not_true_eq_false, not_false_eq_true, Nat.zero_add, Nat.add_zero, Nat.mul_zero, Nat.mul_one, Nat.one_mul, reduceIte, Nat.reduceEqDiff, Nat.reduceAdd, Nat.reduceMul, Nat.reduceSub, Nat.reduceLT, Nat.reduceLeDiff, Nat.reducePow, ite_true, ite_false, if_true, if_false, and_true, true_and, false_and, and_false, or_false, false_or, true_or, or_true, ne_eq, h1]
theorem duo_wage (d : Nat) (S : mG) (v : Int32) : Duo (d + 60) (fun σ => xentry 165 [.inr (.inr (0, (some 0))), .inl v] σ) (fun σ => xentry 75 [.inr (.inr (17, (some 0))), .inl v] σ) S := by
  by_cases h1 : inb v 8
  · obtain ⟨e, he, ee⟩ := inb_of h1 (by omega)
    subst ee
    by_cases h2 : (S.2.2 e).1 = 1
    · refine duo_bad (payI (S.2.2 e).2.1 (S.2.2 e).2.2.1) (fun σ h => ?_) (fun σ h => ?_)
      · have hs := h.2.2.2 e he
        obtain ⟨q, q1, q2⟩ := hs.2.2.1 h2
        have hk := hs.1.2.1 h2
        have a := C_pay (d + 56) σ q2 hk.1
        rw [B165_0, C172 _ _ hs he]
        simp (disch := omega) only [n_cl, n_lt, n_le, n_eq, n_lt0, n_0lt, n_le0, n_eq0, n_gneq, n_ngeq, n_ng0, n_nglt, n_glt, n_gle, n_ltg, n_leg, n_gg, n_ge0, n_add, n_mul, n_rem, n_shl1, n_and, n_or, n_bit, n_not, n_not', n_B1, n_B0, n_BB, obind, xite_T, xite_F, xite_not, xite_same, oI_s, oI_n, Bool.false_eq_true, reduceCtorEq, eq_self, Classical.not_not, bI_T, bI_Fa, bI_0, bI_n0, bI_x, xb_0, xb_1, xite_bI, xite_bI', not_true_eq_false, not_false_eq_true, Nat.zero_add, Nat.add_zero, Nat.mul_zero, Nat.mul_one, Nat.one_mul, reduceIte, Nat.reduceEqDiff, Nat.reduceAdd, Nat.reduceMul, Nat.reduceSub, Nat.reduceLT, Nat.reduceLeDiff, Nat.reducePow, ite_true, ite_false, if_true, if_false, and_true, true_and, false_and, and_false, or_false, false_or, true_or, or_true, ne_eq, xite_t, xite_f, crI_0, h2, q1, xob_s, a]
      · have hs := h.2.2.2 e he
        have q := hs.2.2.1 h2
        have hk := hs.1.2.1 h2
        rw [B75_0, M33 _ _ hs he]
        simp (disch := omega) only [n_cl, n_lt, n_le, n_eq, n_lt0, n_0lt, n_le0, n_eq0, n_gneq, n_ngeq, n_ng0, n_nglt, n_glt, n_gle, n_ltg, n_leg, n_gg, n_ge0, n_add, n_mul, n_rem, n_shl1, n_and, n_or, n_bit, n_not, n_not', n_B1, n_B0, n_BB, obind, xite_T, xite_F, xite_not, xite_same, oI_s, oI_n, Bool.false_eq_true, reduceCtorEq, eq_self, Classical.not_not, bI_T, bI_Fa, bI_0, bI_n0, bI_x, xb_0, xb_1, xite_bI, xite_bI', not_true_eq_false, not_false_eq_true, Nat.zero_add, Nat.add_zero, Nat.mul_zero, Nat.mul_one, Nat.one_mul, reduceIte, Nat.reduceEqDiff, Nat.reduceAdd, Nat.reduceMul, Nat.reduceSub, Nat.reduceLT, Nat.reduceLeDiff, Nat.reducePow, ite_true, ite_false, if_true, if_false, and_true, true_and, false_and, and_false, or_false, false_or, true_or, or_true, ne_eq, xite_t, xite_f, crI_0, h2, q.1, q.2, B69_0]
        obtain ⟨hk, _⟩ := hk
        revert hk
        generalize (S.2.2 e).2.1 = k
        intro hk
        unfold payI
        have hc : k = 0 ∨ k = 1 ∨ k = 2 ∨ k = 3 ∨ k = 4 ∨ k = 5 ∨ k = 6 ∨ k = 7 := by omega
        rcases hc with e | e | e | e | e | e | e | e <;> subst e <;> simp (disch := omega) only [n_cl, n_lt, n_le, n_eq, n_lt0, n_0lt, n_le0, n_eq0, n_gneq, n_ngeq, n_ng0, n_nglt, n_glt, n_gle, n_ltg, n_leg, n_gg, n_ge0, n_add, n_mul, n_rem, n_shl1, n_and, n_or, n_bit, n_not, n_not', n_B1, n_B0, n_BB, obind, xite_T, xite_F, xite_not, xite_same, oI_s, oI_n, Bool.false_eq_true, reduceCtorEq, eq_self, Classical.not_not, bI_T, bI_Fa, bI_0, bI_n0, bI_x, xb_0, xb_1, xite_bI, xite_bI', not_true_eq_false, not_false_eq_true, Nat.zero_add, Nat.add_zero, Nat.mul_zero, Nat.mul_one, Nat.one_mul, reduceIte, Nat.reduceEqDiff, Nat.reduceAdd, Nat.reduceMul, Nat.reduceSub, Nat.reduceLT, Nat.reduceLeDiff, Nat.reducePow, ite_true, ite_false, if_true, if_false, and_true, true_and, false_and, and_false, or_false, false_or, true_or, or_true, ne_eq, ]
    · refine duo_bad (crI (S.2.2 e)) (fun σ h => ?_) (fun σ h => ?_)
      · rw [B165_0, C172 _ _ (h.2.2.2 e he) he]
        simp (disch := omega) only [n_cl, n_lt, n_le, n_eq, n_lt0, n_0lt, n_le0, n_eq0, n_gneq, n_ngeq, n_ng0, n_nglt, n_glt, n_gle, n_ltg, n_leg, n_gg, n_ge0, n_add, n_mul, n_rem, n_shl1, n_and, n_or, n_bit, n_not, n_not', n_B1, n_B0, n_BB, obind, xite_T, xite_F, xite_not, xite_same, oI_s, oI_n, Bool.false_eq_true, reduceCtorEq, eq_self, Classical.not_not, bI_T, bI_Fa, bI_0, bI_n0, bI_x, xb_0, xb_1, xite_bI, xite_bI', not_true_eq_false, not_false_eq_true, Nat.zero_add, Nat.add_zero, Nat.mul_zero, Nat.mul_one, Nat.one_mul, reduceIte, Nat.reduceEqDiff, Nat.reduceAdd, Nat.reduceMul, Nat.reduceSub, Nat.reduceLT, Nat.reduceLeDiff, Nat.reducePow, ite_true, ite_false, if_true, if_false, and_true, true_and, false_and, and_false, or_false, false_or, true_or, or_true, ne_eq, crI_0, h2]
      · rw [B75_0, M33 _ _ (h.2.2.2 e he) he]
        simp (disch := omega) only [n_cl, n_lt, n_le, n_eq, n_lt0, n_0lt, n_le0, n_eq0, n_gneq, n_ngeq, n_ng0, n_nglt, n_glt, n_gle, n_ltg, n_leg, n_gg, n_ge0, n_add, n_mul, n_rem, n_shl1, n_and, n_or, n_bit, n_not, n_not', n_B1, n_B0, n_BB, obind, xite_T, xite_F, xite_not, xite_same, oI_s, oI_n, Bool.false_eq_true, reduceCtorEq, eq_self, Classical.not_not, bI_T, bI_Fa, bI_0, bI_n0, bI_x, xb_0, xb_1, xite_bI, xite_bI', not_true_eq_false, not_false_eq_true, Nat.zero_add, Nat.add_zero, Nat.mul_zero, Nat.mul_one, Nat.one_mul, reduceIte, Nat.reduceEqDiff, Nat.reduceAdd, Nat.reduceMul, Nat.reduceSub, Nat.reduceLT, Nat.reduceLeDiff, Nat.reducePow, ite_true, ite_false, if_true, if_false, and_true, true_and, false_and, and_false, or_false, false_or, true_or, or_true, ne_eq, crI_0, h2]
  · refine duo_bad (-nI 1) (fun σ h => ?_) (fun σ h => ?_)
    · rw [B165_0, C172_f _ _ h1]
      simp (disch := omega) only [n_cl, n_lt, n_le, n_eq, n_lt0, n_0lt, n_le0, n_eq0, n_gneq, n_ngeq, n_ng0, n_nglt, n_glt, n_gle, n_ltg, n_leg, n_gg, n_ge0, n_add, n_mul, n_rem, n_shl1, n_and, n_or, n_bit, n_not, n_not', n_B1, n_B0, n_BB, obind, xite_T, xite_F, xite_not, xite_same, oI_s, oI_n, Bool.false_eq_true, reduceCtorEq, eq_self, Classical.not_not, bI_T, bI_Fa, bI_0, bI_n0, bI_x, xb_0, xb_1, xite_bI, xite_bI', not_true_eq_false, not_false_eq_true, Nat.zero_add, Nat.add_zero, Nat.mul_zero, Nat.mul_one, Nat.one_mul, reduceIte, Nat.reduceEqDiff, Nat.reduceAdd, Nat.reduceMul, Nat.reduceSub, Nat.reduceLT, Nat.reduceLeDiff, Nat.reducePow, ite_true, ite_false, if_true, if_false, and_true, true_and, false_and, and_false, or_false, false_or, true_or, or_true, ne_eq, ]
    · rw [B75_0, M33_f _ _ h1]
      simp (disch := omega) only [n_cl, n_lt, n_le, n_eq, n_lt0, n_0lt, n_le0, n_eq0, n_gneq, n_ngeq, n_ng0, n_nglt, n_glt, n_gle, n_ltg, n_leg, n_gg, n_ge0, n_add, n_mul, n_rem, n_shl1, n_and, n_or, n_bit, n_not, n_not', n_B1, n_B0, n_BB, obind, xite_T, xite_F, xite_not, xite_same, oI_s, oI_n, Bool.false_eq_true, reduceCtorEq, eq_self, Classical.not_not, bI_T, bI_Fa, bI_0, bI_n0, bI_x, xb_0, xb_1, xite_bI, xite_bI', not_true_eq_false, not_false_eq_true, Nat.zero_add, Nat.add_zero, Nat.mul_zero, Nat.mul_one, Nat.one_mul, reduceIte, Nat.reduceEqDiff, Nat.reduceAdd, Nat.reduceMul, Nat.reduceSub, Nat.reduceLT, Nat.reduceLeDiff, Nat.reducePow, ite_true, ite_false, if_true, if_false, and_true, true_and, false_and, and_false, or_false, false_or, true_or, or_true, ne_eq, ]
