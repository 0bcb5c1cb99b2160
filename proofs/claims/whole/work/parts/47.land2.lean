/-! LAND -/
theorem C126g (d : Nat) (σ : xS) {e k : Nat} {x : mSh} (h : cSh σ e x) (hk : k < 1000) : run (d + 2) (xentry 126 [.inr (.inr (14, (some e))), .inl (nI k)] σ) = some ((if k < x.2.2.2.2.1 then x.2.2.2.2.2 k else -nI 1, 0, none), σ) := by
  by_cases c : k < x.2.2.2.2.1
  · rw [if_pos c, C126 d σ h c]
  · rw [if_neg c, C126_f d σ h (by rw [inb_nI (by omega)]; exact c)]
theorem xH_Smi {σ σ' : xS} (h : xF Smi σ σ') : xH 0 Smi σ σ' := xH_F h (fun j k => by unfold Smi; omega)
/-- the class does it -/
theorem C181 (d : Nat) (σ : xS) {e i : Nat} {x : mSh} {X : mX} (h : CL σ 1 X) (hs : cSh σ e x) (hb : brk x.2.2.2.2.1 x.2.2.2.2.2 i = none) :
    ∃ σ', run (d + 14) (xentry 181 [.inr (.inr (0, (some 0))), .inr (.inr (14, (some e))), .inl (nI i)] σ) = some ((bI (¬ ap X (x.2.2.2.2.2 i) (dgv (x.2.2.2.2.2 (i + 1))) (dgv (x.2.2.2.2.2 (i + 2))) (dgv (x.2.2.2.2.2 (i + 3))) (dgv (x.2.2.2.2.2 (i + 4))) = none), 0, none), σ') ∧ (∀ X', ap X (x.2.2.2.2.2 i) (dgv (x.2.2.2.2.2 (i + 1))) (dgv (x.2.2.2.2.2 (i + 2))) (dgv (x.2.2.2.2.2 (i + 3))) (dgv (x.2.2.2.2.2 (i + 4))) = some X' → CL σ' 1 X') ∧ xH 1 Smi σ σ' := by
  have hP6 := h.1.2.1
  have hR9 := h.1.2.2.1
  have hC6 := h.1.2.2.2.1
  have hz := hs.1.2.2.2
  obtain ⟨b1, b2, b3, b4, b5⟩ := brk_n hb
  have e0 := C126 (d + 11) σ hs b1
  have e1 := C126g (d + 11) σ (k := i + 1) hs (by omega)
  have e2 := C126g (d + 11) σ (k := i + 2) hs (by omega)
  have e3 := C126g (d + 11) σ (k := i + 3) hs (by omega)
  have e4 := C126g (d + 11) σ (k := i + 4) hs (by omega)
  have dig : ∀ k, k < dgt (x.2.2.2.2.2 i) → i + 1 + k < x.2.2.2.2.1 ∧ (if i + 1 + k < x.2.2.2.2.1 then x.2.2.2.2.2 (i + 1 + k) else -nI 1) - nI 48 = nI (dgv (x.2.2.2.2.2 (i + 1 + k))) ∧ dgv (x.2.2.2.2.2 (i + 1 + k)) ≤ 9 := by
    intro k hk
    obtain ⟨c1, c2⟩ := b3 k hk
    obtain ⟨d1, d2⟩ := isD_of c2
    refine ⟨c1, ?_, d2⟩
    rw [if_pos c1]
    have : nI (48 + dgv (x.2.2.2.2.2 (i + 1 + k))) - nI 48 = nI (dgv (x.2.2.2.2.2 (i + 1 + k))) := by
      rw [n_sub (by omega)]
      congr 1
      omega
    rw [← d1] at this
    exact this
  have hH0 : xH 1 Smi σ σ := xH_le (xH_refl σ) (by omega) (fun _ _ _ s => s)
  have up : ∀ {σ'}, xF Smi σ σ' → xH 1 Smi σ σ' := fun k => xH_le (xH_Smi k) (by omega) (fun _ _ _ s => s)
  rw [B181_0]
  simp (disch := omega) only [n_cl, n_lt, n_le, n_eq, n_lt0, n_0lt, n_le0, n_eq0, n_gneq, n_ngeq, n_ng0, n_nglt, n_glt, n_gle, n_ltg, n_leg, n_gg, n_ge0, n_add, n_mul, n_rem, n_shl1, n_and, n_or, n_bit, n_not, n_not', n_B1, n_B0, n_BB, obind, xite_T, xite_F, xite_not, xite_same, oI_s, oI_n, Bool.false_eq_true, reduceCtorEq, eq_self, Classical.not_not, bI_T, bI_Fa, bI_0, bI_n0, bI_x, xb_0, xb_1, xite_bI, xite_bI', not_true_eq_false, not_false_eq_true, Nat.zero_add, Nat.add_zero, Nat.mul_zero, Nat.mul_one, Nat.one_mul, reduceIte, Nat.reduceEqDiff, Nat.reduceAdd, Nat.reduceMul, Nat.reduceSub, Nat.reduceLT, Nat.reduceLeDiff, Nat.reducePow, ite_true, ite_false, if_true, if_false, and_true, true_and, false_and, and_false, or_false, false_or, true_or, or_true, ne_eq, xite_t, xite_f, e0, e1, e2, e3, e4]
  clear e0 e1 e2 e3 e4
  generalize hv1 : (if i + 1 < x.2.2.2.2.1 then x.2.2.2.2.2 (i + 1) else -nI 1) = v1 at *
  generalize hv2 : (if i + 2 < x.2.2.2.2.1 then x.2.2.2.2.2 (i + 2) else -nI 1) = v2 at *
  generalize hv3 : (if i + 3 < x.2.2.2.2.1 then x.2.2.2.2.2 (i + 3) else -nI 1) = v3 at *
  generalize hv4 : (if i + 4 < x.2.2.2.2.1 then x.2.2.2.2.2 (i + 4) else -nI 1) = v4 at *
  have q1 : 1 ≤ dgt (x.2.2.2.2.2 i) → v1 - nI 48 = nI (dgv (x.2.2.2.2.2 (i + 1))) ∧ dgv (x.2.2.2.2.2 (i + 1)) ≤ 9 := fun hd => by
    have := dig 0 (by omega)
    rw [Nat.add_zero, hv1] at this
    exact this.2
  have q2 : 2 ≤ dgt (x.2.2.2.2.2 i) → v2 - nI 48 = nI (dgv (x.2.2.2.2.2 (i + 2))) ∧ dgv (x.2.2.2.2.2 (i + 2)) ≤ 9 := fun hd => by
    have := dig 1 (by omega)
    rw [show i + 1 + 1 = i + 2 by omega, hv2] at this
    exact this.2
  have q3 : 3 ≤ dgt (x.2.2.2.2.2 i) → v3 - nI 48 = nI (dgv (x.2.2.2.2.2 (i + 3))) ∧ dgv (x.2.2.2.2.2 (i + 3)) ≤ 9 := fun hd => by
    have := dig 2 (by omega)
    rw [show i + 1 + 2 = i + 3 by omega, hv3] at this
    exact this.2
  have q4 : 4 ≤ dgt (x.2.2.2.2.2 i) → v4 - nI 48 = nI (dgv (x.2.2.2.2.2 (i + 4))) ∧ dgv (x.2.2.2.2.2 (i + 4)) ≤ 9 := fun hd => by
    have := dig 3 (by omega)
    rw [show i + 1 + 3 = i + 4 by omega, hv4] at this
    exact this.2
  clear dig hv1 hv2 hv3 hv4 b3 b4 b5 hb
  revert b2 q1 q2 q3 q4
  generalize x.2.2.2.2.2 i = l
  generalize dgv (x.2.2.2.2.2 (i + 1)) = d0
  generalize dgv (x.2.2.2.2.2 (i + 2)) = d1
  generalize dgv (x.2.2.2.2.2 (i + 3)) = d2
  generalize dgv (x.2.2.2.2.2 (i + 4)) = d3
  intro hl q1 q2 q3 q4
  unfold ap
  rcases dgt_c l with ⟨el, hn⟩ | ⟨el, hn⟩ | ⟨el, hn⟩ | ⟨el, hn⟩ | ⟨el, hn⟩ | ⟨_, _, _, _, _, hn⟩
  · rw [hn] at q1
    subst el
    obtain ⟨u1, w1⟩ := q1 (by omega)
    obtain ⟨σ', f1, f2, f3⟩ := C96 (d + 12) σ h w1
    refine ⟨σ', ?_, fun X' e => ?_, up (xF_le f3 (fun r j k s => by unfold Smi; omega))⟩
    · simp (disch := omega) only [n_cl, n_lt, n_le, n_eq, n_lt0, n_0lt, n_le0, n_eq0, n_gneq, n_ngeq, n_ng0, n_nglt, n_glt, n_gle, n_ltg, n_leg, n_gg, n_ge0, n_add, n_mul, n_rem, n_shl1, n_and, n_or, n_bit, n_not, n_not', n_B1, n_B0, n_BB, obind, xite_T, xite_F, xite_not, xite_same, oI_s, oI_n, Bool.false_eq_true, reduceCtorEq, eq_self, Classical.not_not, bI_T, bI_Fa, bI_0, bI_n0, bI_x, xb_0, xb_1, xite_bI, xite_bI', not_true_eq_false, not_false_eq_true, Nat.zero_add, Nat.add_zero, Nat.mul_zero, Nat.mul_one, Nat.one_mul, reduceIte, Nat.reduceEqDiff, Nat.reduceAdd, Nat.reduceMul, Nat.reduceSub, Nat.reduceLT, Nat.reduceLeDiff, Nat.reducePow, ite_true, ite_false, if_true, if_false, and_true, true_and, false_and, and_false, or_false, false_or, true_or, or_true, ne_eq, xite_t, xite_f, u1, f1]
      by_cases c : xaP X ≤ d0 ∧ d0 ≤ 6
      · rw [xite_t c]; simp (disch := omega) only [n_cl, n_lt, n_le, n_eq, n_lt0, n_0lt, n_le0, n_eq0, n_gneq, n_ngeq, n_ng0, n_nglt, n_glt, n_gle, n_ltg, n_leg, n_gg, n_ge0, n_add, n_mul, n_rem, n_shl1, n_and, n_or, n_bit, n_not, n_not', n_B1, n_B0, n_BB, obind, xite_T, xite_F, xite_not, xite_same, oI_s, oI_n, Bool.false_eq_true, reduceCtorEq, eq_self, Classical.not_not, bI_T, bI_Fa, bI_0, bI_n0, bI_x, xb_0, xb_1, xite_bI, xite_bI', not_true_eq_false, not_false_eq_true, Nat.zero_add, Nat.add_zero, Nat.mul_zero, Nat.mul_one, Nat.one_mul, reduceIte, Nat.reduceEqDiff, Nat.reduceAdd, Nat.reduceMul, Nat.reduceSub, Nat.reduceLT, Nat.reduceLeDiff, Nat.reducePow, ite_true, ite_false, if_true, if_false, and_true, true_and, false_and, and_false, or_false, false_or, true_or, or_true, ne_eq, xite_t, xite_f, c, reduceCtorEq]
      · rw [xite_f c]; simp (disch := omega) only [n_cl, n_lt, n_le, n_eq, n_lt0, n_0lt, n_le0, n_eq0, n_gneq, n_ngeq, n_ng0, n_nglt, n_glt, n_gle, n_ltg, n_leg, n_gg, n_ge0, n_add, n_mul, n_rem, n_shl1, n_and, n_or, n_bit, n_not, n_not', n_B1, n_B0, n_BB, obind, xite_T, xite_F, xite_not, xite_same, oI_s, oI_n, Bool.false_eq_true, reduceCtorEq, eq_self, Classical.not_not, bI_T, bI_Fa, bI_0, bI_n0, bI_x, xb_0, xb_1, xite_bI, xite_bI', not_true_eq_false, not_false_eq_true, Nat.zero_add, Nat.add_zero, Nat.mul_zero, Nat.mul_one, Nat.one_mul, reduceIte, Nat.reduceEqDiff, Nat.reduceAdd, Nat.reduceMul, Nat.reduceSub, Nat.reduceLT, Nat.reduceLeDiff, Nat.reducePow, ite_true, ite_false, if_true, if_false, and_true, true_and, false_and, and_false, or_false, false_or, true_or, or_true, ne_eq, xite_t, xite_f, c]
    · rw [xite_t rfl] at e
      by_cases c : xaP X ≤ d0 ∧ d0 ≤ 6
      · rw [xite_t c] at e; cases e; exact f2 c
      · rw [xite_f c] at e; cases e
  · rw [hn] at q1 q2
    subst el
    obtain ⟨u1, w1⟩ := q1 (by omega)
    obtain ⟨u2, w2⟩ := q2 (by omega)
    by_cases c : d0 < xaR X ∧ d1 < 4 ∧ fre X d1 d0 = true
    · obtain ⟨σ', f1, f2, f3⟩ := C101_t (d + 10) σ h c.1 c.2.1 c.2.2
      refine ⟨σ', ?_, fun X' e => ?_, up (xF_le f3 S137_m)⟩
      · simp (disch := omega) only [n_cl, n_lt, n_le, n_eq, n_lt0, n_0lt, n_le0, n_eq0, n_gneq, n_ngeq, n_ng0, n_nglt, n_glt, n_gle, n_ltg, n_leg, n_gg, n_ge0, n_add, n_mul, n_rem, n_shl1, n_and, n_or, n_bit, n_not, n_not', n_B1, n_B0, n_BB, obind, xite_T, xite_F, xite_not, xite_same, oI_s, oI_n, Bool.false_eq_true, reduceCtorEq, eq_self, Classical.not_not, bI_T, bI_Fa, bI_0, bI_n0, bI_x, xb_0, xb_1, xite_bI, xite_bI', not_true_eq_false, not_false_eq_true, Nat.zero_add, Nat.add_zero, Nat.mul_zero, Nat.mul_one, Nat.one_mul, reduceIte, Nat.reduceEqDiff, Nat.reduceAdd, Nat.reduceMul, Nat.reduceSub, Nat.reduceLT, Nat.reduceLeDiff, Nat.reducePow, ite_true, ite_false, if_true, if_false, and_true, true_and, false_and, and_false, or_false, false_or, true_or, or_true, ne_eq, xite_t, xite_f, u1, u2, f1, c, reduceCtorEq]
      · rw [xite_f (by decide), xite_f (by decide), xite_t rfl, xite_t c] at e; cases e; exact f2
    · have e4 := C101_f (d + 10) σ (v := nI d0) (w := nI d1) h (by
        rw [inb_nI (by omega), inb_nI (by omega), n_cl (by omega), n_cl (by omega)]; exact c)
      refine ⟨σ, ?_, fun X' e => ?_, hH0⟩
      · simp (disch := omega) only [n_cl, n_lt, n_le, n_eq, n_lt0, n_0lt, n_le0, n_eq0, n_gneq, n_ngeq, n_ng0, n_nglt, n_glt, n_gle, n_ltg, n_leg, n_gg, n_ge0, n_add, n_mul, n_rem, n_shl1, n_and, n_or, n_bit, n_not, n_not', n_B1, n_B0, n_BB, obind, xite_T, xite_F, xite_not, xite_same, oI_s, oI_n, Bool.false_eq_true, reduceCtorEq, eq_self, Classical.not_not, bI_T, bI_Fa, bI_0, bI_n0, bI_x, xb_0, xb_1, xite_bI, xite_bI', not_true_eq_false, not_false_eq_true, Nat.zero_add, Nat.add_zero, Nat.mul_zero, Nat.mul_one, Nat.one_mul, reduceIte, Nat.reduceEqDiff, Nat.reduceAdd, Nat.reduceMul, Nat.reduceSub, Nat.reduceLT, Nat.reduceLeDiff, Nat.reducePow, ite_true, ite_false, if_true, if_false, and_true, true_and, false_and, and_false, or_false, false_or, true_or, or_true, ne_eq, xite_t, xite_f, u1, u2, e4]
      · rw [xite_f (by decide), xite_f (by decide), xite_t rfl, xite_f c] at e; cases e
  · rw [hn] at q1 q2
    subst el
    obtain ⟨u1, w1⟩ := q1 (by omega)
    obtain ⟨u2, w2⟩ := q2 (by omega)
    by_cases c1 : d0 < 8
    · have e182 := C182 (d + 9) σ (f := d1) c1
      have hN := nwC_H σ (clsOf d0) (nI d0) (nI d1)
      have hNs : xH 1 Smi σ (nwC σ (clsOf d0) (nI d0) (nI d1)) := xH_le hN (Nat.le_refl _) (fun _ _ _ s => s.elim)
      have hCN := CL_G h hN (fun r k _ s => s)
      by_cases c2 : xaC X < 6
      · obtain ⟨σ', f1, f2, f3⟩ := C98 (d + 12) _ hCN (nwC_ok σ) c1 w2 c2
        refine ⟨σ', ?_, fun X' e => ?_, xH_t hNs (xH_le (xH_F (n := 0) f3 (fun j k => by omega)) (Nat.le_refl _) (fun r j k s => by unfold Smi; omega))⟩
        · simp (disch := omega) only [n_cl, n_lt, n_le, n_eq, n_lt0, n_0lt, n_le0, n_eq0, n_gneq, n_ngeq, n_ng0, n_nglt, n_glt, n_gle, n_ltg, n_leg, n_gg, n_ge0, n_add, n_mul, n_rem, n_shl1, n_and, n_or, n_bit, n_not, n_not', n_B1, n_B0, n_BB, obind, xite_T, xite_F, xite_not, xite_same, oI_s, oI_n, Bool.false_eq_true, reduceCtorEq, eq_self, Classical.not_not, bI_T, bI_Fa, bI_0, bI_n0, bI_x, xb_0, xb_1, xite_bI, xite_bI', not_true_eq_false, not_false_eq_true, Nat.zero_add, Nat.add_zero, Nat.mul_zero, Nat.mul_one, Nat.one_mul, reduceIte, Nat.reduceEqDiff, Nat.reduceAdd, Nat.reduceMul, Nat.reduceSub, Nat.reduceLT, Nat.reduceLeDiff, Nat.reducePow, ite_true, ite_false, if_true, if_false, and_true, true_and, false_and, and_false, or_false, false_or, true_or, or_true, ne_eq, xite_t, xite_f, u1, u2, C166, inb_nI, c1, e182, f1, c2, reduceCtorEq]
        · rw [xite_f (by decide), xite_f (by decide), xite_f (by decide), xite_t rfl, xite_t ⟨c1, c2⟩] at e; cases e; exact f2
      · refine ⟨_, ?_, fun X' e => ?_, hNs⟩
        · simp (disch := omega) only [n_cl, n_lt, n_le, n_eq, n_lt0, n_0lt, n_le0, n_eq0, n_gneq, n_ngeq, n_ng0, n_nglt, n_glt, n_gle, n_ltg, n_leg, n_gg, n_ge0, n_add, n_mul, n_rem, n_shl1, n_and, n_or, n_bit, n_not, n_not', n_B1, n_B0, n_BB, obind, xite_T, xite_F, xite_not, xite_same, oI_s, oI_n, Bool.false_eq_true, reduceCtorEq, eq_self, Classical.not_not, bI_T, bI_Fa, bI_0, bI_n0, bI_x, xb_0, xb_1, xite_bI, xite_bI', not_true_eq_false, not_false_eq_true, Nat.zero_add, Nat.add_zero, Nat.mul_zero, Nat.mul_one, Nat.one_mul, reduceIte, Nat.reduceEqDiff, Nat.reduceAdd, Nat.reduceMul, Nat.reduceSub, Nat.reduceLT, Nat.reduceLeDiff, Nat.reducePow, ite_true, ite_false, if_true, if_false, and_true, true_and, false_and, and_false, or_false, false_or, true_or, or_true, ne_eq, xite_t, xite_f, u1, u2, C166, inb_nI, c1, e182, C98_f _ _ hCN c2, c2]
        · rw [xite_f (by decide), xite_f (by decide), xite_f (by decide), xite_t rfl, xite_f (fun q => c2 q.2)] at e; cases e
    · refine ⟨σ, ?_, fun X' e => ?_, hH0⟩
      · simp (disch := omega) only [n_cl, n_lt, n_le, n_eq, n_lt0, n_0lt, n_le0, n_eq0, n_gneq, n_ngeq, n_ng0, n_nglt, n_glt, n_gle, n_ltg, n_leg, n_gg, n_ge0, n_add, n_mul, n_rem, n_shl1, n_and, n_or, n_bit, n_not, n_not', n_B1, n_B0, n_BB, obind, xite_T, xite_F, xite_not, xite_same, oI_s, oI_n, Bool.false_eq_true, reduceCtorEq, eq_self, Classical.not_not, bI_T, bI_Fa, bI_0, bI_n0, bI_x, xb_0, xb_1, xite_bI, xite_bI', not_true_eq_false, not_false_eq_true, Nat.zero_add, Nat.add_zero, Nat.mul_zero, Nat.mul_one, Nat.one_mul, reduceIte, Nat.reduceEqDiff, Nat.reduceAdd, Nat.reduceMul, Nat.reduceSub, Nat.reduceLT, Nat.reduceLeDiff, Nat.reducePow, ite_true, ite_false, if_true, if_false, and_true, true_and, false_and, and_false, or_false, false_or, true_or, or_true, ne_eq, xite_t, xite_f, u1, u2, C166, inb_nI, c1]
      · rw [xite_f (by decide), xite_f (by decide), xite_f (by decide), xite_t rfl, xite_f (fun q => c1 q.1)] at e; cases e
  · rw [hn] at q1 q2 q3
    subst el
    obtain ⟨u1, w1⟩ := q1 (by omega)
    obtain ⟨u2, w2⟩ := q2 (by omega)
    obtain ⟨u3, w3⟩ := q3 (by omega)
    by_cases c : d0 < xaP X ∧ d1 < xaP X ∧ ¬ d0 = d1 ∧ 1 ≤ d2 ∧ xaR X < 9
    · obtain ⟨σ', f1, f2, f3⟩ := C97_t (d + 10) σ h c.1 c.2.1 c.2.2.1 c.2.2.2.1 w3 c.2.2.2.2
      refine ⟨σ', ?_, fun X' e => ?_, up (xF_le f3 (fun r j k s => by unfold Smi; omega))⟩
      · simp (disch := omega) only [n_cl, n_lt, n_le, n_eq, n_lt0, n_0lt, n_le0, n_eq0, n_gneq, n_ngeq, n_ng0, n_nglt, n_glt, n_gle, n_ltg, n_leg, n_gg, n_ge0, n_add, n_mul, n_rem, n_shl1, n_and, n_or, n_bit, n_not, n_not', n_B1, n_B0, n_BB, obind, xite_T, xite_F, xite_not, xite_same, oI_s, oI_n, Bool.false_eq_true, reduceCtorEq, eq_self, Classical.not_not, bI_T, bI_Fa, bI_0, bI_n0, bI_x, xb_0, xb_1, xite_bI, xite_bI', not_true_eq_false, not_false_eq_true, Nat.zero_add, Nat.add_zero, Nat.mul_zero, Nat.mul_one, Nat.one_mul, reduceIte, Nat.reduceEqDiff, Nat.reduceAdd, Nat.reduceMul, Nat.reduceSub, Nat.reduceLT, Nat.reduceLeDiff, Nat.reducePow, ite_true, ite_false, if_true, if_false, and_true, true_and, false_and, and_false, or_false, false_or, true_or, or_true, ne_eq, xite_t, xite_f, u1, u2, u3, f1, c, reduceCtorEq]
      · rw [xite_f (by decide), xite_t rfl, xite_t c] at e; cases e; exact f2
    · refine ⟨σ, ?_, fun X' e => ?_, hH0⟩
      · simp (disch := omega) only [n_cl, n_lt, n_le, n_eq, n_lt0, n_0lt, n_le0, n_eq0, n_gneq, n_ngeq, n_ng0, n_nglt, n_glt, n_gle, n_ltg, n_leg, n_gg, n_ge0, n_add, n_mul, n_rem, n_shl1, n_and, n_or, n_bit, n_not, n_not', n_B1, n_B0, n_BB, obind, xite_T, xite_F, xite_not, xite_same, oI_s, oI_n, Bool.false_eq_true, reduceCtorEq, eq_self, Classical.not_not, bI_T, bI_Fa, bI_0, bI_n0, bI_x, xb_0, xb_1, xite_bI, xite_bI', not_true_eq_false, not_false_eq_true, Nat.zero_add, Nat.add_zero, Nat.mul_zero, Nat.mul_one, Nat.one_mul, reduceIte, Nat.reduceEqDiff, Nat.reduceAdd, Nat.reduceMul, Nat.reduceSub, Nat.reduceLT, Nat.reduceLeDiff, Nat.reducePow, ite_true, ite_false, if_true, if_false, and_true, true_and, false_and, and_false, or_false, false_or, true_or, or_true, ne_eq, xite_t, xite_f, u1, u2, u3, C97_f (d + 10) σ h w1 w2 w3 c]
      · rw [xite_f (by decide), xite_t rfl, xite_f c] at e; cases e
  · rw [hn] at q1 q2 q3 q4
    subst el
    obtain ⟨u1, w1⟩ := q1 (by omega)
    obtain ⟨u2, w2⟩ := q2 (by omega)
    obtain ⟨u3, w3⟩ := q3 (by omega)
    obtain ⟨u4, w4⟩ := q4 (by omega)
    have e170 := C170 (d + 9) σ 1 (nI d0) (nI d1) (nI d2) (nI d3) h
    by_cases c : d0 < xaC X ∧ d1 < 4 ∧ d2 < xaP X ∧ d3 < xaP X ∧ ¬ d2 = d3
    · have ha : asked X (nI d0) (nI d1) (nI d2) (nI d3) := by
        unfold asked
        rw [inb_nI (by omega), inb_nI (by omega), inb_nI (by omega), inb_nI (by omega), n_eq (by omega) (by omega)]
        exact c
      obtain ⟨σ', f1, f2, f3⟩ := C174 (d + 3) σ h c.1 c.2.1 (show d2 < 6 by omega) (show d3 < 6 by omega) c.2.2.2.2
      have hn4 := mW_n (X := X) (k := xaK X d0) (f := xaG X d0) (a := d2) (b := d3) h.1 c.2.1
      refine ⟨σ', ?_, fun X' e => ?_, up (xF_le f3 S174_m)⟩
      · simp (disch := omega) only [n_cl, n_lt, n_le, n_eq, n_lt0, n_0lt, n_le0, n_eq0, n_gneq, n_ngeq, n_ng0, n_nglt, n_glt, n_gle, n_ltg, n_leg, n_gg, n_ge0, n_add, n_mul, n_rem, n_shl1, n_and, n_or, n_bit, n_not, n_not', n_B1, n_B0, n_BB, obind, xite_T, xite_F, xite_not, xite_same, oI_s, oI_n, Bool.false_eq_true, reduceCtorEq, eq_self, Classical.not_not, bI_T, bI_Fa, bI_0, bI_n0, bI_x, xb_0, xb_1, xite_bI, xite_bI', not_true_eq_false, not_false_eq_true, Nat.zero_add, Nat.add_zero, Nat.mul_zero, Nat.mul_one, Nat.one_mul, reduceIte, Nat.reduceEqDiff, Nat.reduceAdd, Nat.reduceMul, Nat.reduceSub, Nat.reduceLT, Nat.reduceLeDiff, Nat.reducePow, ite_true, ite_false, if_true, if_false, and_true, true_and, false_and, and_false, or_false, false_or, true_or, or_true, ne_eq, xite_t, xite_f, u1, u2, u3, u4, e170, ha, f1, hn4]
        by_cases c4 : tW X (xaK X d0) (xaG X d0) d1 d2 d3 = none
        · simp (disch := omega) only [n_cl, n_lt, n_le, n_eq, n_lt0, n_0lt, n_le0, n_eq0, n_gneq, n_ngeq, n_ng0, n_nglt, n_glt, n_gle, n_ltg, n_leg, n_gg, n_ge0, n_add, n_mul, n_rem, n_shl1, n_and, n_or, n_bit, n_not, n_not', n_B1, n_B0, n_BB, obind, xite_T, xite_F, xite_not, xite_same, oI_s, oI_n, Bool.false_eq_true, reduceCtorEq, eq_self, Classical.not_not, bI_T, bI_Fa, bI_0, bI_n0, bI_x, xb_0, xb_1, xite_bI, xite_bI', not_true_eq_false, not_false_eq_true, Nat.zero_add, Nat.add_zero, Nat.mul_zero, Nat.mul_one, Nat.one_mul, reduceIte, Nat.reduceEqDiff, Nat.reduceAdd, Nat.reduceMul, Nat.reduceSub, Nat.reduceLT, Nat.reduceLeDiff, Nat.reducePow, ite_true, ite_false, if_true, if_false, and_true, true_and, false_and, and_false, or_false, false_or, true_or, or_true, ne_eq, xite_t, xite_f, c4]
        · simp (disch := omega) only [n_cl, n_lt, n_le, n_eq, n_lt0, n_0lt, n_le0, n_eq0, n_gneq, n_ngeq, n_ng0, n_nglt, n_glt, n_gle, n_ltg, n_leg, n_gg, n_ge0, n_add, n_mul, n_rem, n_shl1, n_and, n_or, n_bit, n_not, n_not', n_B1, n_B0, n_BB, obind, xite_T, xite_F, xite_not, xite_same, oI_s, oI_n, Bool.false_eq_true, reduceCtorEq, eq_self, Classical.not_not, bI_T, bI_Fa, bI_0, bI_n0, bI_x, xb_0, xb_1, xite_bI, xite_bI', not_true_eq_false, not_false_eq_true, Nat.zero_add, Nat.add_zero, Nat.mul_zero, Nat.mul_one, Nat.one_mul, reduceIte, Nat.reduceEqDiff, Nat.reduceAdd, Nat.reduceMul, Nat.reduceSub, Nat.reduceLT, Nat.reduceLeDiff, Nat.reducePow, ite_true, ite_false, if_true, if_false, and_true, true_and, false_and, and_false, or_false, false_or, true_or, or_true, ne_eq, xite_t, xite_f, c4, c, reduceCtorEq]
      · rw [xite_f (by decide), xite_f (by decide), xite_f (by decide), xite_f (by decide), xite_t rfl] at e
        by_cases c4 : tW X (xaK X d0) (xaG X d0) d1 d2 d3 = none
        · rw [xite_f (fun q => q.2.2.2.2.2 c4)] at e; cases e
        · rw [xite_t ⟨c.1, c.2.1, c.2.2.1, c.2.2.2.1, c.2.2.2.2, c4⟩] at e
          cases e
          exact f2
    · have ha : ¬ asked X (nI d0) (nI d1) (nI d2) (nI d3) := by
        unfold asked
        rw [inb_nI (by omega), inb_nI (by omega), inb_nI (by omega), inb_nI (by omega), n_eq (by omega) (by omega)]
        exact c
      have hn : ¬ (d0 < xaC X ∧ d1 < 4 ∧ d2 < xaP X ∧ d3 < xaP X ∧ ¬ d2 = d3 ∧ ¬ tW X (xaK X d0) (xaG X d0) d1 d2 d3 = none) := fun q => c ⟨q.1, q.2.1, q.2.2.1, q.2.2.2.1, q.2.2.2.2.1⟩
      refine ⟨σ, ?_, fun X' e => ?_, hH0⟩
      · simp (disch := omega) only [n_cl, n_lt, n_le, n_eq, n_lt0, n_0lt, n_le0, n_eq0, n_gneq, n_ngeq, n_ng0, n_nglt, n_glt, n_gle, n_ltg, n_leg, n_gg, n_ge0, n_add, n_mul, n_rem, n_shl1, n_and, n_or, n_bit, n_not, n_not', n_B1, n_B0, n_BB, obind, xite_T, xite_F, xite_not, xite_same, oI_s, oI_n, Bool.false_eq_true, reduceCtorEq, eq_self, Classical.not_not, bI_T, bI_Fa, bI_0, bI_n0, bI_x, xb_0, xb_1, xite_bI, xite_bI', not_true_eq_false, not_false_eq_true, Nat.zero_add, Nat.add_zero, Nat.mul_zero, Nat.mul_one, Nat.one_mul, reduceIte, Nat.reduceEqDiff, Nat.reduceAdd, Nat.reduceMul, Nat.reduceSub, Nat.reduceLT, Nat.reduceLeDiff, Nat.reducePow, ite_true, ite_false, if_true, if_false, and_true, true_and, false_and, and_false, or_false, false_or, true_or, or_true, ne_eq, xite_t, xite_f, u1, u2, u3, u4, e170, ha]
      · rw [xite_f (by decide), xite_f (by decide), xite_f (by decide), xite_f (by decide), xite_t rfl, xite_f hn] at e; cases e
  · exact absurd hn hl
theorem ap_z {X : mX} {l : Int32} {d0 d1 d2 d3 : Nat} : ap X l d0 d1 d2 d3 = ap X l (if 0 < dgt l then d0 else 0) (if 1 < dgt l then d1 else 0) (if 2 < dgt l then d2 else 0) (if 3 < dgt l then d3 else 0) := by
  unfold ap
  rcases dgt_c l with ⟨el, hn⟩ | ⟨el, hn⟩ | ⟨el, hn⟩ | ⟨el, hn⟩ | ⟨el, hn⟩ | ⟨e1, e2, e3, e4, e5, hn⟩
  · rw [hn]; subst el; simp (disch := omega) only [n_cl, n_lt, n_le, n_eq, n_lt0, n_0lt, n_le0, n_eq0, n_gneq, n_ngeq, n_ng0, n_nglt, n_glt, n_gle, n_ltg, n_leg, n_gg, n_ge0, n_add, n_mul, n_rem, n_shl1, n_and, n_or, n_bit, n_not, n_not', n_B1, n_B0, n_BB, obind, xite_T, xite_F, xite_not, xite_same, oI_s, oI_n, Bool.false_eq_true, reduceCtorEq, eq_self, Classical.not_not, bI_T, bI_Fa, bI_0, bI_n0, bI_x, xb_0, xb_1, xite_bI, xite_bI', not_true_eq_false, not_false_eq_true, Nat.zero_add, Nat.add_zero, Nat.mul_zero, Nat.mul_one, Nat.one_mul, reduceIte, Nat.reduceEqDiff, Nat.reduceAdd, Nat.reduceMul, Nat.reduceSub, Nat.reduceLT, Nat.reduceLeDiff, Nat.reducePow, ite_true, ite_false, if_true, if_false, and_true, true_and, false_and, and_false, or_false, false_or, true_or, or_true, ne_eq, xite_t, xite_f, ]
  · rw [hn]; subst el; simp (disch := omega) only [n_cl, n_lt, n_le, n_eq, n_lt0, n_0lt, n_le0, n_eq0, n_gneq, n_ngeq, n_ng0, n_nglt, n_glt, n_gle, n_ltg, n_leg, n_gg, n_ge0, n_add, n_mul, n_rem, n_shl1, n_and, n_or, n_bit, n_not, n_not', n_B1, n_B0, n_BB, obind, xite_T, xite_F, xite_not, xite_same, oI_s, oI_n, Bool.false_eq_true, reduceCtorEq, eq_self, Classical.not_not, bI_T, bI_Fa, bI_0, bI_n0, bI_x, xb_0, xb_1, xite_bI, xite_bI', not_true_eq_false, not_false_eq_true, Nat.zero_add, Nat.add_zero, Nat.mul_zero, Nat.mul_one, Nat.one_mul, reduceIte, Nat.reduceEqDiff, Nat.reduceAdd, Nat.reduceMul, Nat.reduceSub, Nat.reduceLT, Nat.reduceLeDiff, Nat.reducePow, ite_true, ite_false, if_true, if_false, and_true, true_and, false_and, and_false, or_false, false_or, true_or, or_true, ne_eq, xite_t, xite_f, ]
  · rw [hn]; subst el; simp (disch := omega) only [n_cl, n_lt, n_le, n_eq, n_lt0, n_0lt, n_le0, n_eq0, n_gneq, n_ngeq, n_ng0, n_nglt, n_glt, n_gle, n_ltg, n_leg, n_gg, n_ge0, n_add, n_mul, n_rem, n_shl1, n_and, n_or, n_bit, n_not, n_not', n_B1, n_B0, n_BB, obind, xite_T, xite_F, xite_not, xite_same, oI_s, oI_n, Bool.false_eq_true, reduceCtorEq, eq_self, Classical.not_not, bI_T, bI_Fa, bI_0, bI_n0, bI_x, xb_0, xb_1, xite_bI, xite_bI', not_true_eq_false, not_false_eq_true, Nat.zero_add, Nat.add_zero, Nat.mul_zero, Nat.mul_one, Nat.one_mul, reduceIte, Nat.reduceEqDiff, Nat.reduceAdd, Nat.reduceMul, Nat.reduceSub, Nat.reduceLT, Nat.reduceLeDiff, Nat.reducePow, ite_true, ite_false, if_true, if_false, and_true, true_and, false_and, and_false, or_false, false_or, true_or, or_true, ne_eq, xite_t, xite_f, ]
  · rw [hn]; subst el; simp (disch := omega) only [n_cl, n_lt, n_le, n_eq, n_lt0, n_0lt, n_le0, n_eq0, n_gneq, n_ngeq, n_ng0, n_nglt, n_glt, n_gle, n_ltg, n_leg, n_gg, n_ge0, n_add, n_mul, n_rem, n_shl1, n_and, n_or, n_bit, n_not, n_not', n_B1, n_B0, n_BB, obind, xite_T, xite_F, xite_not, xite_same, oI_s, oI_n, Bool.false_eq_true, reduceCtorEq, eq_self, Classical.not_not, bI_T, bI_Fa, bI_0, bI_n0, bI_x, xb_0, xb_1, xite_bI, xite_bI', not_true_eq_false, not_false_eq_true, Nat.zero_add, Nat.add_zero, Nat.mul_zero, Nat.mul_one, Nat.one_mul, reduceIte, Nat.reduceEqDiff, Nat.reduceAdd, Nat.reduceMul, Nat.reduceSub, Nat.reduceLT, Nat.reduceLeDiff, Nat.reducePow, ite_true, ite_false, if_true, if_false, and_true, true_and, false_and, and_false, or_false, false_or, true_or, or_true, ne_eq, xite_t, xite_f, ]
  · rw [hn]; subst el; simp (disch := omega) only [n_cl, n_lt, n_le, n_eq, n_lt0, n_0lt, n_le0, n_eq0, n_gneq, n_ngeq, n_ng0, n_nglt, n_glt, n_gle, n_ltg, n_leg, n_gg, n_ge0, n_add, n_mul, n_rem, n_shl1, n_and, n_or, n_bit, n_not, n_not', n_B1, n_B0, n_BB, obind, xite_T, xite_F, xite_not, xite_same, oI_s, oI_n, Bool.false_eq_true, reduceCtorEq, eq_self, Classical.not_not, bI_T, bI_Fa, bI_0, bI_n0, bI_x, xb_0, xb_1, xite_bI, xite_bI', not_true_eq_false, not_false_eq_true, Nat.zero_add, Nat.add_zero, Nat.mul_zero, Nat.mul_one, Nat.one_mul, reduceIte, Nat.reduceEqDiff, Nat.reduceAdd, Nat.reduceMul, Nat.reduceSub, Nat.reduceLT, Nat.reduceLeDiff, Nat.reducePow, ite_true, ite_false, if_true, if_false, and_true, true_and, false_and, and_false, or_false, false_or, true_or, or_true, ne_eq, xite_t, xite_f, ]
  · rw [hn]; simp (disch := omega) only [n_cl, n_lt, n_le, n_eq, n_lt0, n_0lt, n_le0, n_eq0, n_gneq, n_ngeq, n_ng0, n_nglt, n_glt, n_gle, n_ltg, n_leg, n_gg, n_ge0, n_add, n_mul, n_rem, n_shl1, n_and, n_or, n_bit, n_not, n_not', n_B1, n_B0, n_BB, obind, xite_T, xite_F, xite_not, xite_same, oI_s, oI_n, Bool.false_eq_true, reduceCtorEq, eq_self, Classical.not_not, bI_T, bI_Fa, bI_0, bI_n0, bI_x, xb_0, xb_1, xite_bI, xite_bI', not_true_eq_false, not_false_eq_true, Nat.zero_add, Nat.add_zero, Nat.mul_zero, Nat.mul_one, Nat.one_mul, reduceIte, Nat.reduceEqDiff, Nat.reduceAdd, Nat.reduceMul, Nat.reduceSub, Nat.reduceLT, Nat.reduceLeDiff, Nat.reducePow, ite_true, ite_false, if_true, if_false, and_true, true_and, false_and, and_false, or_false, false_or, true_or, or_true, ne_eq, xite_t, xite_f, e1, e2, e3, e4, e5]
/-- all statements -/
noncomputable def apx (X : mX) (c : Nat → Int32) (i : Nat) : Option mX := ap X (c i) (dgv (c (i + 1))) (dgv (c (i + 2))) (dgv (c (i + 3))) (dgv (c (i + 4)))
noncomputable def apl (z : Nat) (c : Nat → Int32) : Nat → Nat → mX → mX ⊕ Nat
  | 0, _, X => .inl X
  | m + 1, i, X => if z ≤ i then .inl X else match apx X c i with
    | none => .inr i
    | some X' => apl z c m (i + dgt (c i) + 2) X'
noncomputable def cnS (z : Nat) (c : Nat → Int32) : Nat → Nat → Nat
  | 0, _ => 0
  | m + 1, i => if z ≤ i then 0 else 1 + cnS z c m (i + dgt (c i) + 2)
theorem CI_XG {n : Nat} {σ σ' : xS} {S : mG} {X : mX} (h : CI σ S) (k : xH n Snw σ σ') (hX : CL σ' 0 X) : CI σ' (X, S.2) := by
  obtain ⟨a, b, c, e⟩ := h
  refine ⟨hX, ?_, fun Y hY => CL_G (c Y hY) k (fun r k hr => by unfold Snw Scr; omega), fun d hd => cSh_G (e d hd) k (by unfold Snw Scr; omega) (by unfold Snw Scr; omega) (fun k => by unfold Snw Scr; omega) (fun k => by unfold Snw Scr; omega)⟩
  rw [(k.1 0 0 3 (by omega) (by unfold Snw Scr; omega)).1]; exact b
theorem cSh_H {n : Nat} {σ σ' : xS} {e : Nat} {x : mSh} (h : cSh σ e x) (k : xH n Smi σ σ') : cSh σ' e x := cSh_G h k (by unfold Smi; omega) (by unfold Smi; omega) (fun k => by unfold Smi; omega) (fun k => by unfold Smi; omega)
theorem Smi_w (r j k : Nat) (h : Smi r j k) : Snw r j k := Or.inl (Smi_S r j k h)
theorem duo_land (d : Nat) (S : mG) (v : Int32) : Duo (d + 60) (fun σ => xentry 138 [.inr (.inr (0, (some 0))), .inl v] σ) (fun σ => xentry 30 [.inr (.inr (17, (some 0))), .inl v] σ) S := by
  by_cases hv : inb v 8
  · obtain ⟨e, he, ee⟩ := inb_of hv (by omega)
    subst ee
    by_cases h2 : (S.2.2 e).1 = 2 ∧ (S.2.2 e).2.2.2.1 = 0
    · have hcR : rrI (S.2.2 e) True = 0 := by rw [rrI_0]; exact ⟨h2.1, fun _ => h2.2⟩
      have e1T : ((1 : Nat) = 1) = True := eq_self 1
      have lc : ∀ m i k (X : mX) σ, (S.2.2 e).2.2.2.2.1 < i + m → (i < (S.2.2 e).2.2.2.2.1 → chk (S.2.2 e).2.2.2.2.1 (S.2.2 e).2.2.2.2.2 m i = none) → i ≤ 1000 → CL σ 1 X → cSh σ e (S.2.2 e) → ∃ σ', run (d + 60) (138, 55, [some (.inr (.inr (0, (some 0)))), none, none, some (.inr (.inr (14, (some e)))), none, some (.inl (nI (k))), some (.inl (nI (i)))], [], σ) = some ((match apl (S.2.2 e).2.2.2.2.1 (S.2.2 e).2.2.2.2.2 m i X with
          | .inl _ => nI (k + cnS (S.2.2 e).2.2.2.2.1 (S.2.2 e).2.2.2.2.2 m i)
          | .inr j => -nI 2000 - nI j, 0, none), σ') ∧ (match apl (S.2.2 e).2.2.2.2.1 (S.2.2 e).2.2.2.2.2 m i X with
          | .inl X' => CL σ' 0 X' ∧ xH m Snw σ σ'
          | .inr _ => xH m Smi σ σ') := by
        intro m
        induction m with
        | zero =>
          intro i k X σ h1 _ hi h hs
          have h5 := hs.2.2.2.2.1
          have h100 := hs.1.2.2.2
          obtain ⟨σ1, f1, f2, f3⟩ := C91 (d + 58) σ (i := 0) (j := 1) (by omega) h
          refine ⟨σ1, ?_, f2, xH_le (xH_F (n := 0) f3 (fun j k => by unfold Sld; omega)) (Nat.le_refl _) (fun r j k s => by unfold Sld at s; unfold Snw; omega)⟩
          show _ = some ((nI (k + 0), 0, none), σ1)
          rw [B138_55, h5]
          simp (disch := omega) only [n_cl, n_lt, n_le, n_eq, n_lt0, n_0lt, n_le0, n_eq0, n_gneq, n_ngeq, n_ng0, n_nglt, n_glt, n_gle, n_ltg, n_leg, n_gg, n_ge0, n_add, n_mul, n_rem, n_shl1, n_and, n_or, n_bit, n_not, n_not', n_B1, n_B0, n_BB, obind, xite_T, xite_F, xite_not, xite_same, oI_s, oI_n, Bool.false_eq_true, reduceCtorEq, eq_self, Classical.not_not, bI_T, bI_Fa, bI_0, bI_n0, bI_x, xb_0, xb_1, xite_bI, xite_bI', not_true_eq_false, not_false_eq_true, Nat.zero_add, Nat.add_zero, Nat.mul_zero, Nat.mul_one, Nat.one_mul, reduceIte, Nat.reduceEqDiff, Nat.reduceAdd, Nat.reduceMul, Nat.reduceSub, Nat.reduceLT, Nat.reduceLeDiff, Nat.reducePow, ite_true, ite_false, if_true, if_false, and_true, true_and, false_and, and_false, or_false, false_or, true_or, or_true, ne_eq, xite_t, xite_f, f1]
        | succ m ih =>
          intro i k X σ h1 hck hi h hs
          have h5 := hs.2.2.2.2.1
          have h100 := hs.1.2.2.2
          by_cases c1 : (S.2.2 e).2.2.2.2.1 ≤ i
          · obtain ⟨σ1, f1, f2, f3⟩ := C91 (d + 58) σ (i := 0) (j := 1) (by omega) h
            have ea : apl (S.2.2 e).2.2.2.2.1 (S.2.2 e).2.2.2.2.2 (m + 1) i X = .inl X := if_pos c1
            have ec : cnS (S.2.2 e).2.2.2.2.1 (S.2.2 e).2.2.2.2.2 (m + 1) i = 0 := if_pos c1
            rw [ea, ec]
            refine ⟨σ1, ?_, f2, xH_le (xH_F (n := 0) f3 (fun j k => by unfold Sld; omega)) (by omega) (fun r j k s => by unfold Sld at s; unfold Snw; omega)⟩
            show _ = some ((nI (k + 0), 0, none), σ1)
            rw [B138_55, h5]
            simp (disch := omega) only [n_cl, n_lt, n_le, n_eq, n_lt0, n_0lt, n_le0, n_eq0, n_gneq, n_ngeq, n_ng0, n_nglt, n_glt, n_gle, n_ltg, n_leg, n_gg, n_ge0, n_add, n_mul, n_rem, n_shl1, n_and, n_or, n_bit, n_not, n_not', n_B1, n_B0, n_BB, obind, xite_T, xite_F, xite_not, xite_same, oI_s, oI_n, Bool.false_eq_true, reduceCtorEq, eq_self, Classical.not_not, bI_T, bI_Fa, bI_0, bI_n0, bI_x, xb_0, xb_1, xite_bI, xite_bI', not_true_eq_false, not_false_eq_true, Nat.zero_add, Nat.add_zero, Nat.mul_zero, Nat.mul_one, Nat.one_mul, reduceIte, Nat.reduceEqDiff, Nat.reduceAdd, Nat.reduceMul, Nat.reduceSub, Nat.reduceLT, Nat.reduceLeDiff, Nat.reducePow, ite_true, ite_false, if_true, if_false, and_true, true_and, false_and, and_false, or_false, false_or, true_or, or_true, ne_eq, xite_t, xite_f, f1]
          · have hbk : brk (S.2.2 e).2.2.2.2.1 (S.2.2 e).2.2.2.2.2 i = none := by
              have := hck (by omega)
              have this : (match brk (S.2.2 e).2.2.2.2.1 (S.2.2 e).2.2.2.2.2 i with
                | some p => some p
                | none => if i + dgt ((S.2.2 e).2.2.2.2.2 i) + 2 < (S.2.2 e).2.2.2.2.1 then chk (S.2.2 e).2.2.2.2.1 (S.2.2 e).2.2.2.2.2 m (i + dgt ((S.2.2 e).2.2.2.2.2 i) + 2) else none) = none := this
              cases hb : brk (S.2.2 e).2.2.2.2.1 (S.2.2 e).2.2.2.2.2 i with
              | none => rfl
              | some p => rw [hb] at this; cases this
            have hck2 : i + dgt ((S.2.2 e).2.2.2.2.2 i) + 2 < (S.2.2 e).2.2.2.2.1 → chk (S.2.2 e).2.2.2.2.1 (S.2.2 e).2.2.2.2.2 m (i + dgt ((S.2.2 e).2.2.2.2.2 i) + 2) = none := by
              intro hlt
              have := hck (by omega)
              have this : (match brk (S.2.2 e).2.2.2.2.1 (S.2.2 e).2.2.2.2.2 i with
                | some p => some p
                | none => if i + dgt ((S.2.2 e).2.2.2.2.2 i) + 2 < (S.2.2 e).2.2.2.2.1 then chk (S.2.2 e).2.2.2.2.1 (S.2.2 e).2.2.2.2.2 m (i + dgt ((S.2.2 e).2.2.2.2.2 i) + 2) else none) = none := this
              rw [hbk] at this
              have this : (if i + dgt ((S.2.2 e).2.2.2.2.2 i) + 2 < (S.2.2 e).2.2.2.2.1 then chk (S.2.2 e).2.2.2.2.1 (S.2.2 e).2.2.2.2.2 m (i + dgt ((S.2.2 e).2.2.2.2.2 i) + 2) else none) = none := this
              rw [if_pos hlt] at this
              exact this
            have hd4 := dgt_4 ((S.2.2 e).2.2.2.2.2 i)
            obtain ⟨σ1, f1, f2, f3⟩ := C181 (d + 45) σ h hs hbk
            have hs1 := cSh_H hs f3
            have e126 := C126 (d + 57) σ1 hs1 (show i < (S.2.2 e).2.2.2.2.1 by omega)
            have ea : apl (S.2.2 e).2.2.2.2.1 (S.2.2 e).2.2.2.2.2 (m + 1) i X = (match apx X (S.2.2 e).2.2.2.2.2 i with
              | none => .inr i
              | some X' => apl (S.2.2 e).2.2.2.2.1 (S.2.2 e).2.2.2.2.2 m (i + dgt ((S.2.2 e).2.2.2.2.2 i) + 2) X') := if_neg c1
            have ec : cnS (S.2.2 e).2.2.2.2.1 (S.2.2 e).2.2.2.2.2 (m + 1) i = 1 + cnS (S.2.2 e).2.2.2.2.1 (S.2.2 e).2.2.2.2.2 m (i + dgt ((S.2.2 e).2.2.2.2.2 i) + 2) := if_neg c1
            rw [ea, ec]
            have f1 : run (d + 45 + 14) (xentry 181 [.inr (.inr (0, (some 0))), .inr (.inr (14, (some e))), .inl (nI i)] σ) = some ((bI (¬ apx X (S.2.2 e).2.2.2.2.2 i = none), 0, none), σ1) := f1
            have f2 : ∀ X', apx X (S.2.2 e).2.2.2.2.2 i = some X' → CL σ1 1 X' := f2
            cases hap : apx X (S.2.2 e).2.2.2.2.2 i with
            | none =>
              rw [hap] at f1
              refine ⟨σ1, ?_, xH_le f3 (by omega) (fun _ _ _ s => s)⟩
              show _ = some ((-nI 2000 - nI i, 0, none), σ1)
              rw [B138_55, h5]
              simp (disch := omega) only [n_cl, n_lt, n_le, n_eq, n_lt0, n_0lt, n_le0, n_eq0, n_gneq, n_ngeq, n_ng0, n_nglt, n_glt, n_gle, n_ltg, n_leg, n_gg, n_ge0, n_add, n_mul, n_rem, n_shl1, n_and, n_or, n_bit, n_not, n_not', n_B1, n_B0, n_BB, obind, xite_T, xite_F, xite_not, xite_same, oI_s, oI_n, Bool.false_eq_true, reduceCtorEq, eq_self, Classical.not_not, bI_T, bI_Fa, bI_0, bI_n0, bI_x, xb_0, xb_1, xite_bI, xite_bI', not_true_eq_false, not_false_eq_true, Nat.zero_add, Nat.add_zero, Nat.mul_zero, Nat.mul_one, Nat.one_mul, reduceIte, Nat.reduceEqDiff, Nat.reduceAdd, Nat.reduceMul, Nat.reduceSub, Nat.reduceLT, Nat.reduceLeDiff, Nat.reducePow, ite_true, ite_false, if_true, if_false, and_true, true_and, false_and, and_false, or_false, false_or, true_or, or_true, ne_eq, xite_t, xite_f, f1]
            | some X' =>
              rw [hap] at f1
              obtain ⟨σ2, g1, g2⟩ := ih (i + dgt ((S.2.2 e).2.2.2.2.2 i) + 2) (k + 1) X' σ1 (by omega) hck2 (by omega) (f2 X' hap) hs1
              refine ⟨σ2, ?_, ?_⟩
              · have ek : k + (1 + cnS (S.2.2 e).2.2.2.2.1 (S.2.2 e).2.2.2.2.2 m (i + dgt ((S.2.2 e).2.2.2.2.2 i) + 2)) = k + 1 + cnS (S.2.2 e).2.2.2.2.1 (S.2.2 e).2.2.2.2.2 m (i + dgt ((S.2.2 e).2.2.2.2.2 i) + 2) := by omega
                have ei : i + (dgt ((S.2.2 e).2.2.2.2.2 i) + 2) = i + dgt ((S.2.2 e).2.2.2.2.2 i) + 2 := by omega
                rw [B138_55, h5, ek]
                simp (disch := omega) only [n_cl, n_lt, n_le, n_eq, n_lt0, n_0lt, n_le0, n_eq0, n_gneq, n_ngeq, n_ng0, n_nglt, n_glt, n_gle, n_ltg, n_leg, n_gg, n_ge0, n_add, n_mul, n_rem, n_shl1, n_and, n_or, n_bit, n_not, n_not', n_B1, n_B0, n_BB, obind, xite_T, xite_F, xite_not, xite_same, oI_s, oI_n, Bool.false_eq_true, reduceCtorEq, eq_self, Classical.not_not, bI_T, bI_Fa, bI_0, bI_n0, bI_x, xb_0, xb_1, xite_bI, xite_bI', not_true_eq_false, not_false_eq_true, Nat.zero_add, Nat.add_zero, Nat.mul_zero, Nat.mul_one, Nat.one_mul, reduceIte, Nat.reduceEqDiff, Nat.reduceAdd, Nat.reduceMul, Nat.reduceSub, Nat.reduceLT, Nat.reduceLeDiff, Nat.reducePow, ite_true, ite_false, if_true, if_false, and_true, true_and, false_and, and_false, or_false, false_or, true_or, or_true, ne_eq, xite_t, xite_f, f1, e126, C179, ei, reduceCtorEq]
                exact g1
              · show (match apl (S.2.2 e).2.2.2.2.1 (S.2.2 e).2.2.2.2.2 m (i + dgt ((S.2.2 e).2.2.2.2.2 i) + 2) X' with
                  | .inl X' => CL σ2 0 X' ∧ xH (m + 1) Snw σ σ2
                  | .inr _ => xH (m + 1) Smi σ σ2)
                revert g2
                cases apl (S.2.2 e).2.2.2.2.1 (S.2.2 e).2.2.2.2.2 m (i + dgt ((S.2.2 e).2.2.2.2.2 i) + 2) X' with
                | inl X'' => intro g2; exact ⟨g2.1, xH_le (xH_t (xH_le f3 (Nat.le_refl _) Smi_w) g2.2) (by omega) (fun _ _ _ s => s)⟩
                | inr j => intro g2; exact xH_le (xH_t f3 g2) (by omega) (fun _ _ _ s => s)
      have lm2 : ∀ m i k (X : mX) σ, (S.2.2 e).2.2.2.2.1 < i + m → (i < (S.2.2 e).2.2.2.2.1 → chk (S.2.2 e).2.2.2.2.1 (S.2.2 e).2.2.2.2.2 m i = none) → i ≤ 1000 → ML (rI σ 18 0) (xaR X) X → ML (rI σ 20 0) (xaR S.1) S.1 → mShl σ e (S.2.2 e) → rdr σ e (S.2.2 e).2.2.2.2.1 i → ∃ σ', run (d + 60) (30, 84, [some (.inr (.inr (17, (some 0)))), none, none, some (.inl (nI (k))), none, none, none], [], σ) = some ((match apl (S.2.2 e).2.2.2.2.1 (S.2.2 e).2.2.2.2.2 m i X with
          | .inl _ => nI k
          | .inr j => -nI 2000 - nI j, 0, none), σ') ∧ (match apl (S.2.2 e).2.2.2.2.1 (S.2.2 e).2.2.2.2.2 m i X with
          | .inl X' => ML (rI σ' 18 0) (xaR X') X'
          | .inr _ => ML (rI σ' 18 0) (xaR S.1) S.1) ∧ xF SmX σ σ' := by
        intro m
        induction m with
        | zero =>
          intro i k X σ h1 _ hi h h20 hs hrd
          have h100 := hs.1.2.2.2
          refine ⟨σ, ?_, h, xF_refl σ⟩
          show _ = some ((nI k, 0, none), σ)
          rw [B30_84]
          simp (disch := omega) only [n_cl, n_lt, n_le, n_eq, n_lt0, n_0lt, n_le0, n_eq0, n_gneq, n_ngeq, n_ng0, n_nglt, n_glt, n_gle, n_ltg, n_leg, n_gg, n_ge0, n_add, n_mul, n_rem, n_shl1, n_and, n_or, n_bit, n_not, n_not', n_B1, n_B0, n_BB, obind, xite_T, xite_F, xite_not, xite_same, oI_s, oI_n, Bool.false_eq_true, reduceCtorEq, eq_self, Classical.not_not, bI_T, bI_Fa, bI_0, bI_n0, bI_x, xb_0, xb_1, xite_bI, xite_bI', not_true_eq_false, not_false_eq_true, Nat.zero_add, Nat.add_zero, Nat.mul_zero, Nat.mul_one, Nat.one_mul, reduceIte, Nat.reduceEqDiff, Nat.reduceAdd, Nat.reduceMul, Nat.reduceSub, Nat.reduceLT, Nat.reduceLeDiff, Nat.reducePow, ite_true, ite_false, if_true, if_false, and_true, true_and, false_and, and_false, or_false, false_or, true_or, or_true, ne_eq, xite_t, xite_f, hrd.1, hrd.2.2]
        | succ m ih =>
          intro i k X σ h1 hck hi h h20 hs hrd
          have h100 := hs.1.2.2.2
          by_cases c1 : (S.2.2 e).2.2.2.2.1 ≤ i
          · have ea : apl (S.2.2 e).2.2.2.2.1 (S.2.2 e).2.2.2.2.2 (m + 1) i X = .inl X := if_pos c1
            rw [ea]
            refine ⟨σ, ?_, h, xF_refl σ⟩
            show _ = some ((nI k, 0, none), σ)
            rw [B30_84]
            simp (disch := omega) only [n_cl, n_lt, n_le, n_eq, n_lt0, n_0lt, n_le0, n_eq0, n_gneq, n_ngeq, n_ng0, n_nglt, n_glt, n_gle, n_ltg, n_leg, n_gg, n_ge0, n_add, n_mul, n_rem, n_shl1, n_and, n_or, n_bit, n_not, n_not', n_B1, n_B0, n_BB, obind, xite_T, xite_F, xite_not, xite_same, oI_s, oI_n, Bool.false_eq_true, reduceCtorEq, eq_self, Classical.not_not, bI_T, bI_Fa, bI_0, bI_n0, bI_x, xb_0, xb_1, xite_bI, xite_bI', not_true_eq_false, not_false_eq_true, Nat.zero_add, Nat.add_zero, Nat.mul_zero, Nat.mul_one, Nat.one_mul, reduceIte, Nat.reduceEqDiff, Nat.reduceAdd, Nat.reduceMul, Nat.reduceSub, Nat.reduceLT, Nat.reduceLeDiff, Nat.reducePow, ite_true, ite_false, if_true, if_false, and_true, true_and, false_and, and_false, or_false, false_or, true_or, or_true, ne_eq, xite_t, xite_f, hrd.1, hrd.2.2]
          · have hbk : brk (S.2.2 e).2.2.2.2.1 (S.2.2 e).2.2.2.2.2 i = none := by
              have := hck (by omega)
              have this : (match brk (S.2.2 e).2.2.2.2.1 (S.2.2 e).2.2.2.2.2 i with
                | some p => some p
                | none => if i + dgt ((S.2.2 e).2.2.2.2.2 i) + 2 < (S.2.2 e).2.2.2.2.1 then chk (S.2.2 e).2.2.2.2.1 (S.2.2 e).2.2.2.2.2 m (i + dgt ((S.2.2 e).2.2.2.2.2 i) + 2) else none) = none := this
              cases hb : brk (S.2.2 e).2.2.2.2.1 (S.2.2 e).2.2.2.2.2 i with
              | none => rfl
              | some p => rw [hb] at this; cases this
            have hck2 : i + dgt ((S.2.2 e).2.2.2.2.2 i) + 2 < (S.2.2 e).2.2.2.2.1 → chk (S.2.2 e).2.2.2.2.1 (S.2.2 e).2.2.2.2.2 m (i + dgt ((S.2.2 e).2.2.2.2.2 i) + 2) = none := by
              intro hlt
              have := hck (by omega)
              have this : (match brk (S.2.2 e).2.2.2.2.1 (S.2.2 e).2.2.2.2.2 i with
                | some p => some p
                | none => if i + dgt ((S.2.2 e).2.2.2.2.2 i) + 2 < (S.2.2 e).2.2.2.2.1 then chk (S.2.2 e).2.2.2.2.1 (S.2.2 e).2.2.2.2.2 m (i + dgt ((S.2.2 e).2.2.2.2.2 i) + 2) else none) = none := this
              rw [hbk] at this
              have this : (if i + dgt ((S.2.2 e).2.2.2.2.2 i) + 2 < (S.2.2 e).2.2.2.2.1 then chk (S.2.2 e).2.2.2.2.1 (S.2.2 e).2.2.2.2.2 m (i + dgt ((S.2.2 e).2.2.2.2.2 i) + 2) else none) = none := this
              rw [if_pos hlt] at this
              exact this
            obtain ⟨b1, b2, b3, b4, b5⟩ := brk_n hbk
            have hd4 := dgt_4 ((S.2.2 e).2.2.2.2.2 i)
            have e23 := M23 (d + 58) σ hs he hrd (by omega)
            rw [hr_i b1] at e23
            obtain ⟨σ1, f1, f2, f3, f4⟩ := M25 (d + 54) σ hs he hrd (by omega)
            rw [hbk] at f1 f2 f4
            have f4 := f4 rfl
            have h1M : ML (rI σ1 18 0) (xaR X) X := by rw [xF_I f3 (fun k => by unfold Srd; omega)]; exact h
            have h20' : ML (rI σ1 20 0) (xaR S.1) S.1 := by rw [xF_I f3 (fun k => by unfold Srd; omega)]; exact h20
            have hs1 := mShl_X hs (xF_le f3 Srd_X)
            have dg : ∀ a, a < dgt ((S.2.2 e).2.2.2.2.2 i) → dgv ((S.2.2 e).2.2.2.2.2 (i + 1 + a)) ≤ 9 := fun a ha => (isD_of (b3 a ha).2).2
            have n9 : ∀ a, (if a < dgt ((S.2.2 e).2.2.2.2.2 i) then dgv ((S.2.2 e).2.2.2.2.2 (i + 1 + a)) else 0) ≤ 9 := fun a => by
              by_cases c : a < dgt ((S.2.2 e).2.2.2.2.2 i)
              · rw [if_pos c]; exact dg a c
              · rw [if_neg c]; omega
            obtain ⟨σ2, g1, g2, g3⟩ := M28 (d + 47) σ1 (l := (S.2.2 e).2.2.2.2.2 i) (d0 := if 0 < dgt ((S.2.2 e).2.2.2.2.2 i) then dgv ((S.2.2 e).2.2.2.2.2 (i + 1)) else 0) (d1 := if 1 < dgt ((S.2.2 e).2.2.2.2.2 i) then dgv ((S.2.2 e).2.2.2.2.2 (i + 2)) else 0) (d2 := if 2 < dgt ((S.2.2 e).2.2.2.2.2 i) then dgv ((S.2.2 e).2.2.2.2.2 (i + 3)) else 0) (d3 := if 3 < dgt ((S.2.2 e).2.2.2.2.2 i) then dgv ((S.2.2 e).2.2.2.2.2 (i + 4)) else 0) h1M b2 ⟨n9 0, n9 1, n9 2, n9 3⟩ (fun a ha => by
              rw [f4 a ha]
              congr 1
              by_cases a0 : a = 0
              · subst a0; rw [if_pos rfl, if_pos ha]
              · by_cases a1 : a = 1
                · subst a1; rw [if_neg (by omega), if_pos rfl, if_pos ha]
                · by_cases a2 : a = 2
                  · subst a2; rw [if_neg (by omega), if_neg (by omega), if_pos rfl, if_pos ha]
                  · have a3 : a = 3 := by omega
                    subst a3; rw [if_neg (by omega), if_neg (by omega), if_neg (by omega), if_pos ha])
            rw [← ap_z] at g1 g2
            have g1 : run (d + 47 + 12) (xentry 28 [.inr (.inr (17, (some 0))), .inl ((S.2.2 e).2.2.2.2.2 i)] σ1) = some ((bI (¬ apx X (S.2.2 e).2.2.2.2.2 i = none), 0, none), σ2) := g1
            have g2 : ∀ X', apx X (S.2.2 e).2.2.2.2.2 i = some X' → ML (rI σ2 18 0) (xaR X') X' := g2
            have hF2 : xF SmX σ σ2 := xF_trans (xF_le f3 Srd_X) (xF_le g3 SG_X)
            have h20'' : ML (rI σ2 20 0) (xaR S.1) S.1 := by rw [xF_I g3 (fun k => by unfold S20 SM; omega)]; exact h20'
            have hs2 := mShl_X hs1 (xF_le g3 SG_X)
            have hrd2 : rdr σ2 e (S.2.2 e).2.2.2.2.1 (i + dgt ((S.2.2 e).2.2.2.2.2 i) + 2) := ⟨by rw [g3.1 17 0 19 (by unfold S20 SM; omega)]; exact f2.1, by rw [g3.1 17 0 20 (by unfold S20 SM; omega)]; exact f2.2.1, by rw [g3.1 17 0 21 (by unfold S20 SM; omega)]; exact f2.2.2⟩
            have ea : apl (S.2.2 e).2.2.2.2.1 (S.2.2 e).2.2.2.2.2 (m + 1) i X = (match apx X (S.2.2 e).2.2.2.2.2 i with
              | none => .inr i
              | some X' => apl (S.2.2 e).2.2.2.2.1 (S.2.2 e).2.2.2.2.2 m (i + dgt ((S.2.2 e).2.2.2.2.2 i) + 2) X') := if_neg c1
            rw [ea]
            cases hap : apx X (S.2.2 e).2.2.2.2.2 i with
            | none =>
              rw [hap] at g1
              obtain ⟨σ3, k1, k2, k3⟩ := M12_20_18 (d + 58) σ2
              refine ⟨σ3, ?_, ML_cp h20'' k2, xF_trans hF2 (xF_le k3 (fun r j k s => by unfold SmX; omega))⟩
              show _ = some ((-nI 2000 - nI i, 0, none), σ3)
              rw [B30_84]
              simp (disch := omega) only [n_cl, n_lt, n_le, n_eq, n_lt0, n_0lt, n_le0, n_eq0, n_gneq, n_ngeq, n_ng0, n_nglt, n_glt, n_gle, n_ltg, n_leg, n_gg, n_ge0, n_add, n_mul, n_rem, n_shl1, n_and, n_or, n_bit, n_not, n_not', n_B1, n_B0, n_BB, obind, xite_T, xite_F, xite_not, xite_same, oI_s, oI_n, Bool.false_eq_true, reduceCtorEq, eq_self, Classical.not_not, bI_T, bI_Fa, bI_0, bI_n0, bI_x, xb_0, xb_1, xite_bI, xite_bI', not_true_eq_false, not_false_eq_true, Nat.zero_add, Nat.add_zero, Nat.mul_zero, Nat.mul_one, Nat.one_mul, reduceIte, Nat.reduceEqDiff, Nat.reduceAdd, Nat.reduceMul, Nat.reduceSub, Nat.reduceLT, Nat.reduceLeDiff, Nat.reducePow, ite_true, ite_false, if_true, if_false, and_true, true_and, false_and, and_false, or_false, false_or, true_or, or_true, ne_eq, xite_t, xite_f, hrd.1, hrd.2.2, e23, f1, g1, k1]
            | some X' =>
              rw [hap] at g1
              obtain ⟨σ3, k1, k2, k3⟩ := ih (i + dgt ((S.2.2 e).2.2.2.2.2 i) + 2) k X' σ2 (by omega) hck2 (by omega) (g2 X' hap) h20'' hs2 hrd2
              refine ⟨σ3, ?_, k2, xF_trans hF2 k3⟩
              rw [B30_84]
              simp (disch := omega) only [n_cl, n_lt, n_le, n_eq, n_lt0, n_0lt, n_le0, n_eq0, n_gneq, n_ngeq, n_ng0, n_nglt, n_glt, n_gle, n_ltg, n_leg, n_gg, n_ge0, n_add, n_mul, n_rem, n_shl1, n_and, n_or, n_bit, n_not, n_not', n_B1, n_B0, n_BB, obind, xite_T, xite_F, xite_not, xite_same, oI_s, oI_n, Bool.false_eq_true, reduceCtorEq, eq_self, Classical.not_not, bI_T, bI_Fa, bI_0, bI_n0, bI_x, xb_0, xb_1, xite_bI, xite_bI', not_true_eq_false, not_false_eq_true, Nat.zero_add, Nat.add_zero, Nat.mul_zero, Nat.mul_one, Nat.one_mul, reduceIte, Nat.reduceEqDiff, Nat.reduceAdd, Nat.reduceMul, Nat.reduceSub, Nat.reduceLT, Nat.reduceLeDiff, Nat.reducePow, ite_true, ite_false, if_true, if_false, and_true, true_and, false_and, and_false, or_false, false_or, true_or, or_true, ne_eq, xite_t, xite_f, hrd.1, hrd.2.2, e23, f1, g1, reduceCtorEq]
              exact k1
      have lm1 : ∀ m i k σ, (S.2.2 e).2.2.2.2.1 < i + m → i ≤ (S.2.2 e).2.2.2.2.1 → (i < (S.2.2 e).2.2.2.2.1 ∨ i = 0) → ML (rI σ 18 0) (xaR S.1) S.1 → mShl σ e (S.2.2 e) → rdr σ e (S.2.2 e).2.2.2.2.1 i → ∃ σ', xF SmX σ σ' ∧ ML (rI σ' 18 0) (xaR S.1) S.1 ∧ (match chk (S.2.2 e).2.2.2.2.1 (S.2.2 e).2.2.2.2.2 m i with
          | some p => run (d + 60) (30, 38, [some (.inr (.inr (17, (some 0)))), none, none, some (.inl (nI (k))), none, none, none], [], σ) = some ((-nI 1000 - nI p, 0, none), σ')
          | none => run (d + 60) (30, 38, [some (.inr (.inr (17, (some 0)))), none, none, some (.inl (nI (k))), none, none, none], [], σ) = run (d + 60) (30, 84, [some (.inr (.inr (17, (some 0)))), none, none, some (.inl (nI (k + cnS (S.2.2 e).2.2.2.2.1 (S.2.2 e).2.2.2.2.2 m i))), none, none, none], [], σ') ∧ ML (rI σ' 20 0) (xaR S.1) S.1 ∧ rdr σ' e (S.2.2 e).2.2.2.2.1 0 ∧ 0 < (S.2.2 e).2.2.2.2.1) := by
        intro m
        induction m with
        | zero => intro i k σ h1 h2; omega
        | succ m ih =>
          intro i k σ h1 h2 h3 h hs hrd
          have h100 := hs.1.2.2.2
          obtain ⟨σ1, f1, f2, f3, f4⟩ := M25 (d + 54) σ hs he hrd h2
          have h1M : ML (rI σ1 18 0) (xaR S.1) S.1 := by rw [xF_I f3 (fun k => by unfold Srd; omega)]; exact h
          have hs1 := mShl_X hs (xF_le f3 Srd_X)
          show ∃ σ', xF SmX σ σ' ∧ ML (rI σ' 18 0) (xaR S.1) S.1 ∧ (match (match brk (S.2.2 e).2.2.2.2.1 (S.2.2 e).2.2.2.2.2 i with
            | some p => some p
            | none => if i + dgt ((S.2.2 e).2.2.2.2.2 i) + 2 < (S.2.2 e).2.2.2.2.1 then chk (S.2.2 e).2.2.2.2.1 (S.2.2 e).2.2.2.2.2 m (i + dgt ((S.2.2 e).2.2.2.2.2 i) + 2) else none) with
            | some p => run (d + 60) (30, 38, [some (.inr (.inr (17, (some 0)))), none, none, some (.inl (nI (k))), none, none, none], [], σ) = some ((-nI 1000 - nI p, 0, none), σ')
            | none => run (d + 60) (30, 38, [some (.inr (.inr (17, (some 0)))), none, none, some (.inl (nI (k))), none, none, none], [], σ) = run (d + 60) (30, 84, [some (.inr (.inr (17, (some 0)))), none, none, some (.inl (nI (k + cnS (S.2.2 e).2.2.2.2.1 (S.2.2 e).2.2.2.2.2 (m + 1) i))), none, none, none], [], σ') ∧ ML (rI σ' 20 0) (xaR S.1) S.1 ∧ rdr σ' e (S.2.2 e).2.2.2.2.1 0 ∧ 0 < (S.2.2 e).2.2.2.2.1)
          cases hb : brk (S.2.2 e).2.2.2.2.1 (S.2.2 e).2.2.2.2.2 i with
          | some p =>
            rw [hb] at f1 f2
            refine ⟨σ1, xF_le f3 Srd_X, h1M, ?_⟩
            show run (d + 60) (30, 38, [some (.inr (.inr (17, (some 0)))), none, none, some (.inl (nI (k))), none, none, none], [], σ) = some ((-nI 1000 - nI p, 0, none), σ1)
            rw [B30_38]
            simp (disch := omega) only [n_cl, n_lt, n_le, n_eq, n_lt0, n_0lt, n_le0, n_eq0, n_gneq, n_ngeq, n_ng0, n_nglt, n_glt, n_gle, n_ltg, n_leg, n_gg, n_ge0, n_add, n_mul, n_rem, n_shl1, n_and, n_or, n_bit, n_not, n_not', n_B1, n_B0, n_BB, obind, xite_T, xite_F, xite_not, xite_same, oI_s, oI_n, Bool.false_eq_true, reduceCtorEq, eq_self, Classical.not_not, bI_T, bI_Fa, bI_0, bI_n0, bI_x, xb_0, xb_1, xite_bI, xite_bI', not_true_eq_false, not_false_eq_true, Nat.zero_add, Nat.add_zero, Nat.mul_zero, Nat.mul_one, Nat.one_mul, reduceIte, Nat.reduceEqDiff, Nat.reduceAdd, Nat.reduceMul, Nat.reduceSub, Nat.reduceLT, Nat.reduceLeDiff, Nat.reducePow, ite_true, ite_false, if_true, if_false, and_true, true_and, false_and, and_false, or_false, false_or, true_or, or_true, ne_eq, xite_t, xite_f, f1, f2.1, reduceCtorEq]
          | none =>
            rw [hb] at f1 f2
            obtain ⟨b1, b2, b3, b4, b5⟩ := brk_n hb
            have hd4 := dgt_4 ((S.2.2 e).2.2.2.2.2 i)
            have ec : cnS (S.2.2 e).2.2.2.2.1 (S.2.2 e).2.2.2.2.2 (m + 1) i = 1 + cnS (S.2.2 e).2.2.2.2.1 (S.2.2 e).2.2.2.2.2 m (i + dgt ((S.2.2 e).2.2.2.2.2 i) + 2) := if_neg (by omega)
            rw [ec]
            show ∃ σ', xF SmX σ σ' ∧ ML (rI σ' 18 0) (xaR S.1) S.1 ∧ (match (if i + dgt ((S.2.2 e).2.2.2.2.2 i) + 2 < (S.2.2 e).2.2.2.2.1 then chk (S.2.2 e).2.2.2.2.1 (S.2.2 e).2.2.2.2.2 m (i + dgt ((S.2.2 e).2.2.2.2.2 i) + 2) else none) with
              | some p => run (d + 60) (30, 38, [some (.inr (.inr (17, (some 0)))), none, none, some (.inl (nI (k))), none, none, none], [], σ) = some ((-nI 1000 - nI p, 0, none), σ')
              | none => run (d + 60) (30, 38, [some (.inr (.inr (17, (some 0)))), none, none, some (.inl (nI (k))), none, none, none], [], σ) = run (d + 60) (30, 84, [some (.inr (.inr (17, (some 0)))), none, none, some (.inl (nI (k + (1 + cnS (S.2.2 e).2.2.2.2.1 (S.2.2 e).2.2.2.2.2 m (i + dgt ((S.2.2 e).2.2.2.2.2 i) + 2))))), none, none, none], [], σ') ∧ ML (rI σ' 20 0) (xaR S.1) S.1 ∧ rdr σ' e (S.2.2 e).2.2.2.2.1 0 ∧ 0 < (S.2.2 e).2.2.2.2.1)
            by_cases c2 : i + dgt ((S.2.2 e).2.2.2.2.2 i) + 2 < (S.2.2 e).2.2.2.2.1
            · rw [if_pos c2]
              obtain ⟨σ2, g1, g2, g3⟩ := ih (i + dgt ((S.2.2 e).2.2.2.2.2 i) + 2) (k + 1) σ1 (by omega) (by omega) (Or.inl c2) h1M hs1 f2
              have e0 : run (d + 60) (30, 38, [some (.inr (.inr (17, (some 0)))), none, none, some (.inl (nI (k))), none, none, none], [], σ) = run (d + 60) (30, 38, [some (.inr (.inr (17, (some 0)))), none, none, some (.inl (nI (k + 1))), none, none, none], [], σ1) := by
                rw [B30_38]
                simp (disch := omega) only [n_cl, n_lt, n_le, n_eq, n_lt0, n_0lt, n_le0, n_eq0, n_gneq, n_ngeq, n_ng0, n_nglt, n_glt, n_gle, n_ltg, n_leg, n_gg, n_ge0, n_add, n_mul, n_rem, n_shl1, n_and, n_or, n_bit, n_not, n_not', n_B1, n_B0, n_BB, obind, xite_T, xite_F, xite_not, xite_same, oI_s, oI_n, Bool.false_eq_true, reduceCtorEq, eq_self, Classical.not_not, bI_T, bI_Fa, bI_0, bI_n0, bI_x, xb_0, xb_1, xite_bI, xite_bI', not_true_eq_false, not_false_eq_true, Nat.zero_add, Nat.add_zero, Nat.mul_zero, Nat.mul_one, Nat.one_mul, reduceIte, Nat.reduceEqDiff, Nat.reduceAdd, Nat.reduceMul, Nat.reduceSub, Nat.reduceLT, Nat.reduceLeDiff, Nat.reducePow, ite_true, ite_false, if_true, if_false, and_true, true_and, false_and, and_false, or_false, false_or, true_or, or_true, ne_eq, xite_t, xite_f, f1, f2.1, f2.2.2]
              refine ⟨σ2, xF_trans (xF_le f3 Srd_X) g1, g2, ?_⟩
              rw [e0]
              rw [show k + (1 + cnS (S.2.2 e).2.2.2.2.1 (S.2.2 e).2.2.2.2.2 m (i + dgt ((S.2.2 e).2.2.2.2.2 i) + 2)) = k + 1 + cnS (S.2.2 e).2.2.2.2.1 (S.2.2 e).2.2.2.2.2 m (i + dgt ((S.2.2 e).2.2.2.2.2 i) + 2) by omega]
              exact g3
            · rw [if_neg c2]
              obtain ⟨σ2, g1, g2, g3⟩ := M12_18_20 (d + 58) σ1
              have ec0 : cnS (S.2.2 e).2.2.2.2.1 (S.2.2 e).2.2.2.2.2 m (i + dgt ((S.2.2 e).2.2.2.2.2 i) + 2) = 0 := by
                cases m with
                | zero => rfl
                | succ m => exact if_pos (by omega)
              have hF2 : xF SmX σ (wI σ2 17 0 19 (nI 0)) := xF_wI (xF_trans (xF_le f3 Srd_X) (xF_le g3 (fun r j k s => by unfold SmX; omega))) _ (by unfold SmX; omega)
              have hrd2 : rdr σ2 e (S.2.2 e).2.2.2.2.1 (i + dgt ((S.2.2 e).2.2.2.2.2 i) + 2) := ⟨by rw [g3.1 17 0 19 (by omega)]; exact f2.1, by rw [g3.1 17 0 20 (by omega)]; exact f2.2.1, by rw [g3.1 17 0 21 (by omega)]; exact f2.2.2⟩
              refine ⟨wI σ2 17 0 19 (nI 0), hF2, by simp (disch := omega) only [n_cl, n_lt, n_le, n_eq, n_lt0, n_0lt, n_le0, n_eq0, n_gneq, n_ngeq, n_ng0, n_nglt, n_glt, n_gle, n_ltg, n_leg, n_gg, n_ge0, n_add, n_mul, n_rem, n_shl1, n_and, n_or, n_bit, n_not, n_not', n_B1, n_B0, n_BB, obind, xite_T, xite_F, xite_not, xite_same, oI_s, oI_n, Bool.false_eq_true, reduceCtorEq, eq_self, Classical.not_not, bI_T, bI_Fa, bI_0, bI_n0, bI_x, xb_0, xb_1, xite_bI, xite_bI', not_true_eq_false, not_false_eq_true, Nat.zero_add, Nat.add_zero, Nat.mul_zero, Nat.mul_one, Nat.one_mul, reduceIte, Nat.reduceEqDiff, Nat.reduceAdd, Nat.reduceMul, Nat.reduceSub, Nat.reduceLT, Nat.reduceLeDiff, Nat.reducePow, ite_true, ite_false, if_true, if_false, and_true, true_and, false_and, and_false, or_false, false_or, true_or, or_true, ne_eq, xite_t, xite_f, w_I2, w_Is, w_In, w_IL, w_IP, w_IC, w_LI, w_LP, w_LC, w_PI, w_PL, w_PC]; rw [xF_I g3 (fun k => by omega)]; exact h1M, ?_, by simp (disch := omega) only [n_cl, n_lt, n_le, n_eq, n_lt0, n_0lt, n_le0, n_eq0, n_gneq, n_ngeq, n_ng0, n_nglt, n_glt, n_gle, n_ltg, n_leg, n_gg, n_ge0, n_add, n_mul, n_rem, n_shl1, n_and, n_or, n_bit, n_not, n_not', n_B1, n_B0, n_BB, obind, xite_T, xite_F, xite_not, xite_same, oI_s, oI_n, Bool.false_eq_true, reduceCtorEq, eq_self, Classical.not_not, bI_T, bI_Fa, bI_0, bI_n0, bI_x, xb_0, xb_1, xite_bI, xite_bI', not_true_eq_false, not_false_eq_true, Nat.zero_add, Nat.add_zero, Nat.mul_zero, Nat.mul_one, Nat.one_mul, reduceIte, Nat.reduceEqDiff, Nat.reduceAdd, Nat.reduceMul, Nat.reduceSub, Nat.reduceLT, Nat.reduceLeDiff, Nat.reducePow, ite_true, ite_false, if_true, if_false, and_true, true_and, false_and, and_false, or_false, false_or, true_or, or_true, ne_eq, xite_t, xite_f, w_I2, w_Is, w_In, w_IL, w_IP, w_IC, w_LI, w_LP, w_LC, w_PI, w_PL, w_PC]; exact ML_cp h1M g2, rdr_w hrd2 0, by omega⟩
              rw [ec0, B30_38]
              simp (disch := omega) only [n_cl, n_lt, n_le, n_eq, n_lt0, n_0lt, n_le0, n_eq0, n_gneq, n_ngeq, n_ng0, n_nglt, n_glt, n_gle, n_ltg, n_leg, n_gg, n_ge0, n_add, n_mul, n_rem, n_shl1, n_and, n_or, n_bit, n_not, n_not', n_B1, n_B0, n_BB, obind, xite_T, xite_F, xite_not, xite_same, oI_s, oI_n, Bool.false_eq_true, reduceCtorEq, eq_self, Classical.not_not, bI_T, bI_Fa, bI_0, bI_n0, bI_x, xb_0, xb_1, xite_bI, xite_bI', not_true_eq_false, not_false_eq_true, Nat.zero_add, Nat.add_zero, Nat.mul_zero, Nat.mul_one, Nat.one_mul, reduceIte, Nat.reduceEqDiff, Nat.reduceAdd, Nat.reduceMul, Nat.reduceSub, Nat.reduceLT, Nat.reduceLeDiff, Nat.reducePow, ite_true, ite_false, if_true, if_false, and_true, true_and, false_and, and_false, or_false, false_or, true_or, or_true, ne_eq, xite_t, xite_f, f1, f2.1, f2.2.2, g1]
      cases hck : chk (S.2.2 e).2.2.2.2.1 (S.2.2 e).2.2.2.2.2 101 0 with
      | some p =>
        refine ⟨-nI 1000 - nI p, S, fun σ h => ⟨σ, ?_, h, kC_refl σ⟩, fun σ h => ?_⟩
        · have e171 := C171 (d + 57) σ (b := 1) (h.2.2.2 e he) he (by omega)
          rw [e1T] at e171
          have e180 := C180 (d + 56) σ (h.2.2.2 e he)
          rw [hck] at e180
          have hp : p < 2147483648 := by
            have h100 := (h.2.2.2 e he).1.2.2.2
            have key : ∀ m i, i ≤ (S.2.2 e).2.2.2.2.1 → ∀ p, chk (S.2.2 e).2.2.2.2.1 (S.2.2 e).2.2.2.2.2 m i = some p → p ≤ (S.2.2 e).2.2.2.2.1 := by
              intro m
              induction m with
              | zero => intro i _ p hp; cases hp
              | succ m ih =>
                intro i hi p hp
                have hp : (match brk (S.2.2 e).2.2.2.2.1 (S.2.2 e).2.2.2.2.2 i with
                  | some p => some p
                  | none => if i + dgt ((S.2.2 e).2.2.2.2.2 i) + 2 < (S.2.2 e).2.2.2.2.1 then chk (S.2.2 e).2.2.2.2.1 (S.2.2 e).2.2.2.2.2 m (i + dgt ((S.2.2 e).2.2.2.2.2 i) + 2) else none) = some p := hp
                cases hb : brk (S.2.2 e).2.2.2.2.1 (S.2.2 e).2.2.2.2.2 i with
                | some q =>
                  rw [hb] at hp
                  cases hp
                  unfold brk at hb
                  by_cases c : dgt (hr (S.2.2 e).2.2.2.2.1 (S.2.2 e).2.2.2.2.2 i) = 0
                  · rw [xite_t c] at hb; cases hb; exact hi
                  · rw [xite_f c] at hb
                    refine bd_z _ _ _ ?_ hb
                    apply Classical.byContradiction
                    intro q
                    rw [hr_x (by omega)] at c
                    exact c m1000.2.2
                | none =>
                  rw [hb] at hp
                  have hp : (if i + dgt ((S.2.2 e).2.2.2.2.2 i) + 2 < (S.2.2 e).2.2.2.2.1 then chk (S.2.2 e).2.2.2.2.1 (S.2.2 e).2.2.2.2.2 m (i + dgt ((S.2.2 e).2.2.2.2.2 i) + 2) else none) = some p := hp
                  by_cases c : i + dgt ((S.2.2 e).2.2.2.2.2 i) + 2 < (S.2.2 e).2.2.2.2.1
                  · rw [if_pos c] at hp; exact ih _ (by omega) p hp
                  · rw [if_neg c] at hp; cases hp
            have := key 101 0 (by omega) p hck
            omega
          show run (d + 60) (xentry 138 _ σ) = _
          rw [B138_0, e171]
          simp (disch := omega) only [n_cl, n_lt, n_le, n_eq, n_lt0, n_0lt, n_le0, n_eq0, n_gneq, n_ngeq, n_ng0, n_nglt, n_glt, n_gle, n_ltg, n_leg, n_gg, n_ge0, n_add, n_mul, n_rem, n_shl1, n_and, n_or, n_bit, n_not, n_not', n_B1, n_B0, n_BB, obind, xite_T, xite_F, xite_not, xite_same, oI_s, oI_n, Bool.false_eq_true, reduceCtorEq, eq_self, Classical.not_not, bI_T, bI_Fa, bI_0, bI_n0, bI_x, xb_0, xb_1, xite_bI, xite_bI', not_true_eq_false, not_false_eq_true, Nat.zero_add, Nat.add_zero, Nat.mul_zero, Nat.mul_one, Nat.one_mul, reduceIte, Nat.reduceEqDiff, Nat.reduceAdd, Nat.reduceMul, Nat.reduceSub, Nat.reduceLT, Nat.reduceLeDiff, Nat.reducePow, ite_true, ite_false, if_true, if_false, and_true, true_and, false_and, and_false, or_false, false_or, true_or, or_true, ne_eq, xite_t, xite_f, hcR, e180]
        · have hz := (h.2.2.2 e he).1.2.2.2
          have hF0 : xF SmX σ (wI (wI (wI σ 17 0 20 (nI (100 * e))) 17 0 21 (nI (S.2.2 e).2.2.2.2.1)) 17 0 19 (nI 0)) := xF_wI (xF_wI (xF_wI (xF_refl σ) _ (by unfold SmX; omega)) _ (by unfold SmX; omega)) _ (by unfold SmX; omega)
          obtain ⟨σ1, f1, f2, f3⟩ := lm1 101 0 0 _ (by omega) (by omega) (Or.inr rfl) (by simp (disch := omega) only [n_cl, n_lt, n_le, n_eq, n_lt0, n_0lt, n_le0, n_eq0, n_gneq, n_ngeq, n_ng0, n_nglt, n_glt, n_gle, n_ltg, n_leg, n_gg, n_ge0, n_add, n_mul, n_rem, n_shl1, n_and, n_or, n_bit, n_not, n_not', n_B1, n_B0, n_BB, obind, xite_T, xite_F, xite_not, xite_same, oI_s, oI_n, Bool.false_eq_true, reduceCtorEq, eq_self, Classical.not_not, bI_T, bI_Fa, bI_0, bI_n0, bI_x, xb_0, xb_1, xite_bI, xite_bI', not_true_eq_false, not_false_eq_true, Nat.zero_add, Nat.add_zero, Nat.mul_zero, Nat.mul_one, Nat.one_mul, reduceIte, Nat.reduceEqDiff, Nat.reduceAdd, Nat.reduceMul, Nat.reduceSub, Nat.reduceLT, Nat.reduceLeDiff, Nat.reducePow, ite_true, ite_false, if_true, if_false, and_true, true_and, false_and, and_false, or_false, false_or, true_or, or_true, ne_eq, xite_t, xite_f, w_I2, w_Is, w_In, w_IL, w_IP, w_IC, w_LI, w_LP, w_LC, w_PI, w_PL, w_PC]; exact h.1) (mShl_X (h.2.2.2 e he) hF0) ⟨w_Is, by simp (disch := omega) only [n_cl, n_lt, n_le, n_eq, n_lt0, n_0lt, n_le0, n_eq0, n_gneq, n_ngeq, n_ng0, n_nglt, n_glt, n_gle, n_ltg, n_leg, n_gg, n_ge0, n_add, n_mul, n_rem, n_shl1, n_and, n_or, n_bit, n_not, n_not', n_B1, n_B0, n_BB, obind, xite_T, xite_F, xite_not, xite_same, oI_s, oI_n, Bool.false_eq_true, reduceCtorEq, eq_self, Classical.not_not, bI_T, bI_Fa, bI_0, bI_n0, bI_x, xb_0, xb_1, xite_bI, xite_bI', not_true_eq_false, not_false_eq_true, Nat.zero_add, Nat.add_zero, Nat.mul_zero, Nat.mul_one, Nat.one_mul, reduceIte, Nat.reduceEqDiff, Nat.reduceAdd, Nat.reduceMul, Nat.reduceSub, Nat.reduceLT, Nat.reduceLeDiff, Nat.reducePow, ite_true, ite_false, if_true, if_false, and_true, true_and, false_and, and_false, or_false, false_or, true_or, or_true, ne_eq, xite_t, xite_f, w_I2, w_Is, w_In, w_IL, w_IP, w_IC, w_LI, w_LP, w_LC, w_PI, w_PL, w_PC], by simp (disch := omega) only [n_cl, n_lt, n_le, n_eq, n_lt0, n_0lt, n_le0, n_eq0, n_gneq, n_ngeq, n_ng0, n_nglt, n_glt, n_gle, n_ltg, n_leg, n_gg, n_ge0, n_add, n_mul, n_rem, n_shl1, n_and, n_or, n_bit, n_not, n_not', n_B1, n_B0, n_BB, obind, xite_T, xite_F, xite_not, xite_same, oI_s, oI_n, Bool.false_eq_true, reduceCtorEq, eq_self, Classical.not_not, bI_T, bI_Fa, bI_0, bI_n0, bI_x, xb_0, xb_1, xite_bI, xite_bI', not_true_eq_false, not_false_eq_true, Nat.zero_add, Nat.add_zero, Nat.mul_zero, Nat.mul_one, Nat.one_mul, reduceIte, Nat.reduceEqDiff, Nat.reduceAdd, Nat.reduceMul, Nat.reduceSub, Nat.reduceLT, Nat.reduceLeDiff, Nat.reducePow, ite_true, ite_false, if_true, if_false, and_true, true_and, false_and, and_false, or_false, false_or, true_or, or_true, ne_eq, xite_t, xite_f, w_I2, w_Is, w_In, w_IL, w_IP, w_IC, w_LI, w_LP, w_LC, w_PI, w_PL, w_PC]⟩
          rw [hck] at f3
          obtain ⟨m1, m2⟩ := MI_Z (X := S.1) h (xF_trans hF0 f1) f2
          refine ⟨σ1, ?_, m1, m2⟩
          have e29 := M29 (d + 56) σ (w := nI 0) (p := True) (h.2.2.2 e he) he (Or.inl ⟨trivial, rfl⟩)
          show run (d + 60) (xentry 30 _ σ) = _
          rw [B30_0, e29]
          simp (disch := omega) only [n_cl, n_lt, n_le, n_eq, n_lt0, n_0lt, n_le0, n_eq0, n_gneq, n_ngeq, n_ng0, n_nglt, n_glt, n_gle, n_ltg, n_leg, n_gg, n_ge0, n_add, n_mul, n_rem, n_shl1, n_and, n_or, n_bit, n_not, n_not', n_B1, n_B0, n_BB, obind, xite_T, xite_F, xite_not, xite_same, oI_s, oI_n, Bool.false_eq_true, reduceCtorEq, eq_self, Classical.not_not, bI_T, bI_Fa, bI_0, bI_n0, bI_x, xb_0, xb_1, xite_bI, xite_bI', not_true_eq_false, not_false_eq_true, Nat.zero_add, Nat.add_zero, Nat.mul_zero, Nat.mul_one, Nat.one_mul, reduceIte, Nat.reduceEqDiff, Nat.reduceAdd, Nat.reduceMul, Nat.reduceSub, Nat.reduceLT, Nat.reduceLeDiff, Nat.reducePow, ite_true, ite_false, if_true, if_false, and_true, true_and, false_and, and_false, or_false, false_or, true_or, or_true, ne_eq, xite_t, xite_f, hcR, w_I2, w_Is, w_In, w_IL, w_IP, w_IC, w_LI, w_LP, w_LC, w_PI, w_PL, w_PC, (h.2.2.2 e he).2.2.2.2.1]
          exact f3
      | none =>
        refine ⟨(match apl (S.2.2 e).2.2.2.2.1 (S.2.2 e).2.2.2.2.2 101 0 S.1 with
          | .inl _ => nI (cnS (S.2.2 e).2.2.2.2.1 (S.2.2 e).2.2.2.2.2 101 0)
          | .inr j => -nI 2000 - nI j), (match apl (S.2.2 e).2.2.2.2.1 (S.2.2 e).2.2.2.2.2 101 0 S.1 with
          | .inl X' => (X', S.2)
          | .inr _ => S), fun σ h => ?_, fun σ h => ?_⟩
        · have hz := (h.2.2.2 e he).1.2.2.2
          have e171 := C171 (d + 57) σ (b := 1) (h.2.2.2 e he) he (by omega)
          rw [e1T] at e171
          have e180 := C180 (d + 56) σ (h.2.2.2 e he)
          rw [hck] at e180
          obtain ⟨σ1, f1, f2, f3⟩ := C91 (d + 58) σ (i := 1) (j := 0) (by omega) h.1
          obtain ⟨σ2, g1, g2⟩ := lc 101 0 0 S.1 σ1 (by omega) (fun _ => hck) (by omega) f2 (cSh_mi (h.2.2.2 e he) (xF_le f3 Sld_m))
          rw [Nat.zero_add] at g1
          have hF1 : xH 0 Smi σ σ1 := xH_Smi (xF_le f3 Sld_m)
          refine ⟨σ2, ?_, ?_⟩
          · show run (d + 60) (xentry 138 _ σ) = _
            rw [B138_0, e171]
            simp (disch := omega) only [n_cl, n_lt, n_le, n_eq, n_lt0, n_0lt, n_le0, n_eq0, n_gneq, n_ngeq, n_ng0, n_nglt, n_glt, n_gle, n_ltg, n_leg, n_gg, n_ge0, n_add, n_mul, n_rem, n_shl1, n_and, n_or, n_bit, n_not, n_not', n_B1, n_B0, n_BB, obind, xite_T, xite_F, xite_not, xite_same, oI_s, oI_n, Bool.false_eq_true, reduceCtorEq, eq_self, Classical.not_not, bI_T, bI_Fa, bI_0, bI_n0, bI_x, xb_0, xb_1, xite_bI, xite_bI', not_true_eq_false, not_false_eq_true, Nat.zero_add, Nat.add_zero, Nat.mul_zero, Nat.mul_one, Nat.one_mul, reduceIte, Nat.reduceEqDiff, Nat.reduceAdd, Nat.reduceMul, Nat.reduceSub, Nat.reduceLT, Nat.reduceLeDiff, Nat.reducePow, ite_true, ite_false, if_true, if_false, and_true, true_and, false_and, and_false, or_false, false_or, true_or, or_true, ne_eq, xite_t, xite_f, hcR, e180, f1]
            exact g1
          · revert g2
            cases apl (S.2.2 e).2.2.2.2.1 (S.2.2 e).2.2.2.2.2 101 0 S.1 with
            | inl X' =>
              intro g2
              have hH : xH 101 Snw σ σ2 := xH_le (xH_t (xH_le hF1 (Nat.le_refl _) Smi_w) g2.2) (by omega) (fun _ _ _ s => s)
              exact ⟨CI_XG h hH g2.1, kC_le (kC_G hH Snw_16) (by omega)⟩
            | inr j =>
              intro g2
              have hH : xH 101 Smi σ σ2 := xH_le (xH_t hF1 g2) (by omega) (fun _ _ _ s => s)
              exact ⟨CI_XG (X := S.1) h (xH_le hH (Nat.le_refl _) Smi_w) (CL_G h.1 hH (fun r k hr => by unfold Smi; omega)), kC_le (kC_G hH (fun r j k s => Snw_16 _ _ _ (Smi_w _ _ _ s))) (by omega)⟩
        · have hz := (h.2.2.2 e he).1.2.2.2
          have hF0 : xF SmX σ (wI (wI (wI σ 17 0 20 (nI (100 * e))) 17 0 21 (nI (S.2.2 e).2.2.2.2.1)) 17 0 19 (nI 0)) := xF_wI (xF_wI (xF_wI (xF_refl σ) _ (by unfold SmX; omega)) _ (by unfold SmX; omega)) _ (by unfold SmX; omega)
          obtain ⟨σ1, f1, f2, f3⟩ := lm1 101 0 0 _ (by omega) (by omega) (Or.inr rfl) (by simp (disch := omega) only [n_cl, n_lt, n_le, n_eq, n_lt0, n_0lt, n_le0, n_eq0, n_gneq, n_ngeq, n_ng0, n_nglt, n_glt, n_gle, n_ltg, n_leg, n_gg, n_ge0, n_add, n_mul, n_rem, n_shl1, n_and, n_or, n_bit, n_not, n_not', n_B1, n_B0, n_BB, obind, xite_T, xite_F, xite_not, xite_same, oI_s, oI_n, Bool.false_eq_true, reduceCtorEq, eq_self, Classical.not_not, bI_T, bI_Fa, bI_0, bI_n0, bI_x, xb_0, xb_1, xite_bI, xite_bI', not_true_eq_false, not_false_eq_true, Nat.zero_add, Nat.add_zero, Nat.mul_zero, Nat.mul_one, Nat.one_mul, reduceIte, Nat.reduceEqDiff, Nat.reduceAdd, Nat.reduceMul, Nat.reduceSub, Nat.reduceLT, Nat.reduceLeDiff, Nat.reducePow, ite_true, ite_false, if_true, if_false, and_true, true_and, false_and, and_false, or_false, false_or, true_or, or_true, ne_eq, xite_t, xite_f, w_I2, w_Is, w_In, w_IL, w_IP, w_IC, w_LI, w_LP, w_LC, w_PI, w_PL, w_PC]; exact h.1) (mShl_X (h.2.2.2 e he) hF0) ⟨w_Is, by simp (disch := omega) only [n_cl, n_lt, n_le, n_eq, n_lt0, n_0lt, n_le0, n_eq0, n_gneq, n_ngeq, n_ng0, n_nglt, n_glt, n_gle, n_ltg, n_leg, n_gg, n_ge0, n_add, n_mul, n_rem, n_shl1, n_and, n_or, n_bit, n_not, n_not', n_B1, n_B0, n_BB, obind, xite_T, xite_F, xite_not, xite_same, oI_s, oI_n, Bool.false_eq_true, reduceCtorEq, eq_self, Classical.not_not, bI_T, bI_Fa, bI_0, bI_n0, bI_x, xb_0, xb_1, xite_bI, xite_bI', not_true_eq_false, not_false_eq_true, Nat.zero_add, Nat.add_zero, Nat.mul_zero, Nat.mul_one, Nat.one_mul, reduceIte, Nat.reduceEqDiff, Nat.reduceAdd, Nat.reduceMul, Nat.reduceSub, Nat.reduceLT, Nat.reduceLeDiff, Nat.reducePow, ite_true, ite_false, if_true, if_false, and_true, true_and, false_and, and_false, or_false, false_or, true_or, or_true, ne_eq, xite_t, xite_f, w_I2, w_Is, w_In, w_IL, w_IP, w_IC, w_LI, w_LP, w_LC, w_PI, w_PL, w_PC], by simp (disch := omega) only [n_cl, n_lt, n_le, n_eq, n_lt0, n_0lt, n_le0, n_eq0, n_gneq, n_ngeq, n_ng0, n_nglt, n_glt, n_gle, n_ltg, n_leg, n_gg, n_ge0, n_add, n_mul, n_rem, n_shl1, n_and, n_or, n_bit, n_not, n_not', n_B1, n_B0, n_BB, obind, xite_T, xite_F, xite_not, xite_same, oI_s, oI_n, Bool.false_eq_true, reduceCtorEq, eq_self, Classical.not_not, bI_T, bI_Fa, bI_0, bI_n0, bI_x, xb_0, xb_1, xite_bI, xite_bI', not_true_eq_false, not_false_eq_true, Nat.zero_add, Nat.add_zero, Nat.mul_zero, Nat.mul_one, Nat.one_mul, reduceIte, Nat.reduceEqDiff, Nat.reduceAdd, Nat.reduceMul, Nat.reduceSub, Nat.reduceLT, Nat.reduceLeDiff, Nat.reducePow, ite_true, ite_false, if_true, if_false, and_true, true_and, false_and, and_false, or_false, false_or, true_or, or_true, ne_eq, xite_t, xite_f, w_I2, w_Is, w_In, w_IL, w_IP, w_IC, w_LI, w_LP, w_LC, w_PI, w_PL, w_PC]⟩
          rw [hck] at f3
          obtain ⟨f4, f5, f6, f7⟩ := f3
          have hF1 := xF_trans hF0 f1
          obtain ⟨σ2, g1, g2, g3⟩ := lm2 101 0 (cnS (S.2.2 e).2.2.2.2.1 (S.2.2 e).2.2.2.2.2 101 0) S.1 σ1 (by omega) (fun _ => hck) (by omega) f2 f5 (mShl_X (h.2.2.2 e he) hF1) f6
          rw [Nat.zero_add] at f4
          have e29 := M29 (d + 56) σ (w := nI 0) (p := True) (h.2.2.2 e he) he (Or.inl ⟨trivial, rfl⟩)
          refine ⟨σ2, ?_, ?_⟩
          · show run (d + 60) (xentry 30 _ σ) = _
            rw [B30_0, e29]
            simp (disch := omega) only [n_cl, n_lt, n_le, n_eq, n_lt0, n_0lt, n_le0, n_eq0, n_gneq, n_ngeq, n_ng0, n_nglt, n_glt, n_gle, n_ltg, n_leg, n_gg, n_ge0, n_add, n_mul, n_rem, n_shl1, n_and, n_or, n_bit, n_not, n_not', n_B1, n_B0, n_BB, obind, xite_T, xite_F, xite_not, xite_same, oI_s, oI_n, Bool.false_eq_true, reduceCtorEq, eq_self, Classical.not_not, bI_T, bI_Fa, bI_0, bI_n0, bI_x, xb_0, xb_1, xite_bI, xite_bI', not_true_eq_false, not_false_eq_true, Nat.zero_add, Nat.add_zero, Nat.mul_zero, Nat.mul_one, Nat.one_mul, reduceIte, Nat.reduceEqDiff, Nat.reduceAdd, Nat.reduceMul, Nat.reduceSub, Nat.reduceLT, Nat.reduceLeDiff, Nat.reducePow, ite_true, ite_false, if_true, if_false, and_true, true_and, false_and, and_false, or_false, false_or, true_or, or_true, ne_eq, xite_t, xite_f, hcR, w_I2, w_Is, w_In, w_IL, w_IP, w_IC, w_LI, w_LP, w_LC, w_PI, w_PL, w_PC, (h.2.2.2 e he).2.2.2.2.1]
            exact f4.trans g1
          · revert g2
            cases apl (S.2.2 e).2.2.2.2.1 (S.2.2 e).2.2.2.2.2 101 0 S.1 with
            | inl X' => intro g2; exact MI_Z h (xF_trans hF1 g3) g2
            | inr j => intro g2; exact MI_Z (X := S.1) h (xF_trans hF1 g3) g2
    · have hn : ¬ rrI (S.2.2 e) True = 0 := by rw [rrI_0]; exact fun q => h2 ⟨q.1, q.2 trivial⟩
      refine duo_bad (rrI (S.2.2 e) True) (fun σ h => ?_) (fun σ h => ?_)
      · have e171 := C171 (d + 57) σ (b := 1) (h.2.2.2 e he) he (by omega)
        rw [show ((1 : Nat) = 1) = True from eq_self 1] at e171
        rw [B138_0, e171]
        simp (disch := omega) only [n_cl, n_lt, n_le, n_eq, n_lt0, n_0lt, n_le0, n_eq0, n_gneq, n_ngeq, n_ng0, n_nglt, n_glt, n_gle, n_ltg, n_leg, n_gg, n_ge0, n_add, n_mul, n_rem, n_shl1, n_and, n_or, n_bit, n_not, n_not', n_B1, n_B0, n_BB, obind, xite_T, xite_F, xite_not, xite_same, oI_s, oI_n, Bool.false_eq_true, reduceCtorEq, eq_self, Classical.not_not, bI_T, bI_Fa, bI_0, bI_n0, bI_x, xb_0, xb_1, xite_bI, xite_bI', not_true_eq_false, not_false_eq_true, Nat.zero_add, Nat.add_zero, Nat.mul_zero, Nat.mul_one, Nat.one_mul, reduceIte, Nat.reduceEqDiff, Nat.reduceAdd, Nat.reduceMul, Nat.reduceSub, Nat.reduceLT, Nat.reduceLeDiff, Nat.reducePow, ite_true, ite_false, if_true, if_false, and_true, true_and, false_and, and_false, or_false, false_or, true_or, or_true, ne_eq, hn]
      · have e29 := M29 (d + 56) σ (w := nI 0) (p := True) (h.2.2.2 e he) he (Or.inl ⟨trivial, rfl⟩)
        rw [B30_0, e29]
        simp (disch := omega) only [n_cl, n_lt, n_le, n_eq, n_lt0, n_0lt, n_le0, n_eq0, n_gneq, n_ngeq, n_ng0, n_nglt, n_glt, n_gle, n_ltg, n_leg, n_gg, n_ge0, n_add, n_mul, n_rem, n_shl1, n_and, n_or, n_bit, n_not, n_not', n_B1, n_B0, n_BB, obind, xite_T, xite_F, xite_not, xite_same, oI_s, oI_n, Bool.false_eq_true, reduceCtorEq, eq_self, Classical.not_not, bI_T, bI_Fa, bI_0, bI_n0, bI_x, xb_0, xb_1, xite_bI, xite_bI', not_true_eq_false, not_false_eq_true, Nat.zero_add, Nat.add_zero, Nat.mul_zero, Nat.mul_one, Nat.one_mul, reduceIte, Nat.reduceEqDiff, Nat.reduceAdd, Nat.reduceMul, Nat.reduceSub, Nat.reduceLT, Nat.reduceLeDiff, Nat.reducePow, ite_true, ite_false, if_true, if_false, and_true, true_and, false_and, and_false, or_false, false_or, true_or, or_true, ne_eq, hn]
  · refine duo_bad (-nI 1) (fun σ h => ?_) (fun σ h => ?_)
    · rw [B138_0, C171_f _ _ hv]
      simp (disch := omega) only [n_cl, n_lt, n_le, n_eq, n_lt0, n_0lt, n_le0, n_eq0, n_gneq, n_ngeq, n_ng0, n_nglt, n_glt, n_gle, n_ltg, n_leg, n_gg, n_ge0, n_add, n_mul, n_rem, n_shl1, n_and, n_or, n_bit, n_not, n_not', n_B1, n_B0, n_BB, obind, xite_T, xite_F, xite_not, xite_same, oI_s, oI_n, Bool.false_eq_true, reduceCtorEq, eq_self, Classical.not_not, bI_T, bI_Fa, bI_0, bI_n0, bI_x, xb_0, xb_1, xite_bI, xite_bI', not_true_eq_false, not_false_eq_true, Nat.zero_add, Nat.add_zero, Nat.mul_zero, Nat.mul_one, Nat.one_mul, reduceIte, Nat.reduceEqDiff, Nat.reduceAdd, Nat.reduceMul, Nat.reduceSub, Nat.reduceLT, Nat.reduceLeDiff, Nat.reducePow, ite_true, ite_false, if_true, if_false, and_true, true_and, false_and, and_false, or_false, false_or, true_or, or_true, ne_eq, ]
    · rw [B30_0, M29_f _ _ hv]
      simp (disch := omega) only [n_cl, n_lt, n_le, n_eq, n_lt0, n_0lt, n_le0, n_eq0, n_gneq, n_ngeq, n_ng0, n_nglt, n_glt, n_gle, n_ltg, n_leg, n_gg, n_ge0, n_add, n_mul, n_rem, n_shl1, n_and, n_or, n_bit, n_not, n_not', n_B1, n_B0, n_BB, obind, xite_T, xite_F, xite_not, xite_same, oI_s, oI_n, Bool.false_eq_true, reduceCtorEq, eq_self, Classical.not_not, bI_T, bI_Fa, bI_0, bI_n0, bI_x, xb_0, xb_1, xite_bI, xite_bI', not_true_eq_false, not_false_eq_true, Nat.zero_add, Nat.add_zero, Nat.mul_zero, Nat.mul_one, Nat.one_mul, reduceIte, Nat.reduceEqDiff, Nat.reduceAdd, Nat.reduceMul, Nat.reduceSub, Nat.reduceLT, Nat.reduceLeDiff, Nat.reducePow, ite_true, ite_false, if_true, if_false, and_true, true_and, false_and, and_false, or_false, false_or, true_or, or_true, ne_eq, ]
