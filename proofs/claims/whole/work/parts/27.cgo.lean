/-! THE CLASS FINDS A WAY AND GOES -/
theorem fl_inv {A : Type} {f : Nat → A → A} {I : A → Prop} (h : ∀ r a, I a → I (f r a)) : ∀ n r a, I a → I (fl f n r a) := by
  intro n
  induction n with
  | zero => intro r a ha; exact ha
  | succ n ih => intro r a ha; exact ih (r + 1) (f r a) (h r a ha)
/-- from a place on, the loads of a way are those that its carrier has there -/
def chn (X : mX) (k f g : Nat) (p : Nat → Nat × Nat) : Nat → Nat → Nat → Nat → Prop
  | 0, _, _, _ => True
  | j + 1, i, pl, been => ∃ q, oth X (p i).1 pl = some q ∧ (p i).2 = lvm k f (p i).1 (ldm (xaP X) k f g been) ∧ chn X k f g p j (i + 1) q (been ||| 2 ^ q)
def gdW (X : mX) (k f g a : Nat) (acc : mW) : Prop := ∀ w n p, acc = some (w, n, p) → chn X k f g p n 0 a (2 ^ a)
theorem tT_chn {X : mX} {k f g goal a : Nat} : ∀ (m pl been n : Nat) (p : Nat → Nat × Nat) (sum : Nat) (acc : mW),
    (∀ (j : Nat) (p' : Nat → Nat × Nat), (∀ i, i < n → p' i = p i) → chn X k f g p' j n pl been → chn X k f g p' (n + j) 0 a (2 ^ a)) → gdW X k f g a acc → gdW X k f g a (tT X k f g goal m pl been n p sum acc) := by
  intro m
  induction m with
  | zero => intro pl been n p sum acc _ h; exact h
  | succ m ih =>
    intro pl been n p sum acc hp h
    rw [tT_s]
    by_cases h1 : pl = goal
    · rw [if_pos h1]
      have hc : chn X k f g p n 0 a (2 ^ a) := hp 0 p (fun i hi => rfl) trivial
      have hs : gdW X k f g a (some (sum, n, p)) := fun w n' p' e => by cases e; exact hc
      cases acc with
      | none => exact hs
      | some t =>
        obtain ⟨w, n', p'⟩ := t
        show gdW X k f g a (if w ≤ sum then _ else _)
        split
        · exact h
        · exact hs
    · rw [if_neg h1]
      split
      · exact h
      · refine fl_inv (I := gdW X k f g a) ?_ _ _ _ h
        intro r acc h
        unfold tR
        cases ho : oth X r pl with
        | none => exact h
        | some q =>
          show gdW X k f g a (if _ then _ else _)
          split
          · exact h
          · refine ih q _ (n + 1) _ _ acc ?_ h
            intro j p' he hc
            have e := he n (by omega)
            unfold pU at e
            rw [if_pos rfl] at e
            have := hp (j + 1) p' (fun i hi => by
              have := he i (by omega)
              unfold pU at this
              rw [if_neg (by omega)] at this
              exact this) ⟨q, by rw [e]; exact ho, by rw [e], hc⟩
            rw [show n + 1 + j = n + (j + 1) by omega]
            exact this
theorem tW_chn {X : mX} {k f g a b : Nat} : gdW X k f g a (tW X k f g a b) := tT_chn 6 a (2 ^ a) 0 _ 0 none (fun j p' _ h => by rw [Nat.zero_add]; exact h) (fun w n p e => by cases e)
def S134 (r _ _ : Nat) : Prop := r = 8 ∨ r = 9 ∨ r = 10
theorem C134 (d : Nat) (σ : xS) {X : mX} {i c g a b : Nat} (h : CL σ i X) (hc : c < xaC X) (hg : g < 4) (ha : a < 6) (hb : b < 6) (hab : ¬ a = b) :
    ∃ q σ', run (d + 9) (xentry 134 [.inr (.inr (8, (some 0))), .inr (.inr (1, (some i))), .inl (nI c), .inl (nI g), .inl (nI a), .inl (nI b)] σ) = some ((bI (¬ tW X (xaK X c) (xaG X c) g a b = none), 0, none), σ') ∧ cA σ' X (tW X (xaK X c) (xaG X c) g a b) ∧ cW σ' i q g b (xaK X c) (xaG X c) X ∧ rI σ' 8 0 7 = nI a ∧ xF S134 σ σ' := by
  have hp := p2_lt a ha
  obtain ⟨q, eq, hO⟩ := h.2.2.2.2.2.2 c hc
  have hkc := h.1.2.2.2.2.2.2 c hc
  have hF1 : xF S134 σ (wP σ 8 0 4 (some i)) := xF_wP (xF_refl σ) _ (by unfold S134; omega)
  have hC1 := CL_F h hF1 (fun r k hr => by unfold S134; omega) (fun j k => by unfold S134; omega)
  have e95 := C95_t (d + 7) (wP σ 8 0 4 (some i)) hC1 hc
  have e5 : rP (wP σ 8 0 4 (some i)) 5 i c = some q := by
    rw [w_P2 (by omega)]; exact eq
  rw [e5] at e95
  have hF2 : xF S134 σ (wI (wI (wI (wI (wI (wP (wP σ 8 0 4 (some i)) 8 0 5 (some q)) 8 0 6 (nI g)) 8 0 7 (nI a)) 8 0 8 (nI b)) 8 0 2 (nI 0)) 8 0 3 (nI 0)) := xF_wI (xF_wI (xF_wI (xF_wI (xF_wI (xF_wP hF1 _ (by unfold S134; omega)) _ (by unfold S134; omega)) _ (by unfold S134; omega)) _ (by unfold S134; omega)) _ (by unfold S134; omega)) _ (by unfold S134; omega)
  obtain ⟨σ', e1, e2, e3, _⟩ := C135 X i q _ _ g b hkc.1 hkc.2 hg hb 6 d a (2 ^ a) 0 (fun _ => (0, 0)) 0 none (wI (wI (wI (wI (wI (wP (wP σ 8 0 4 (some i)) 8 0 5 (some q)) 8 0 6 (nI g)) 8 0 7 (nI a)) 8 0 8 (nI b)) 8 0 2 (nI 0)) 8 0 3 (nI 0)) rfl (by
      refine ⟨CL_F h hF2 (fun r k hr => by unfold S134; omega) (fun j k => by unfold S134; omega), ?_, ?_, by simp (disch := omega) only [n_cl, n_lt, n_le, n_eq, n_lt0, n_0lt, n_le0, n_eq0, n_gneq, n_ngeq, n_ng0, n_nglt, n_glt, n_gle, n_ltg, n_leg, n_gg, n_ge0, n_add, n_mul, n_rem, n_shl1, n_and, n_or, n_bit, n_not, n_not', n_B1, n_B0, n_BB, obind, xite_T, xite_F, xite_not, xite_same, oI_s, oI_n, Bool.false_eq_true, reduceCtorEq, eq_self, Classical.not_not, bI_T, bI_Fa, bI_0, bI_n0, bI_x, xb_0, xb_1, xite_bI, xite_bI', not_true_eq_false, not_false_eq_true, Nat.zero_add, Nat.add_zero, Nat.mul_zero, Nat.mul_one, Nat.one_mul, reduceIte, Nat.reduceEqDiff, Nat.reduceAdd, Nat.reduceMul, Nat.reduceSub, Nat.reduceLT, Nat.reduceLeDiff, Nat.reducePow, ite_true, ite_false, if_true, if_false, and_true, true_and, false_and, and_false, or_false, false_or, true_or, or_true, ne_eq, xite_t, xite_f, w_I2, w_Is, w_In, w_IL, w_IP, w_IC, w_LI, w_LP, w_LC, w_PI, w_PL, w_PC], by simp (disch := omega) only [n_cl, n_lt, n_le, n_eq, n_lt0, n_0lt, n_le0, n_eq0, n_gneq, n_ngeq, n_ng0, n_nglt, n_glt, n_gle, n_ltg, n_leg, n_gg, n_ge0, n_add, n_mul, n_rem, n_shl1, n_and, n_or, n_bit, n_not, n_not', n_B1, n_B0, n_BB, obind, xite_T, xite_F, xite_not, xite_same, oI_s, oI_n, Bool.false_eq_true, reduceCtorEq, eq_self, Classical.not_not, bI_T, bI_Fa, bI_0, bI_n0, bI_x, xb_0, xb_1, xite_bI, xite_bI', not_true_eq_false, not_false_eq_true, Nat.zero_add, Nat.add_zero, Nat.mul_zero, Nat.mul_one, Nat.one_mul, reduceIte, Nat.reduceEqDiff, Nat.reduceAdd, Nat.reduceMul, Nat.reduceSub, Nat.reduceLT, Nat.reduceLeDiff, Nat.reducePow, ite_true, ite_false, if_true, if_false, and_true, true_and, false_and, and_false, or_false, false_or, true_or, or_true, ne_eq, xite_t, xite_f, w_I2, w_Is, w_In, w_IL, w_IP, w_IC, w_LI, w_LP, w_LC, w_PI, w_PL, w_PC], cOk_w hO hF2.2.2.2.1 (xF_I hF2 (fun k => by unfold S134; omega))⟩
      · show rP (wP (wP σ 8 0 4 (some i)) 8 0 5 (some q)) 8 0 4 = _
        rw [w_P1]
        show (if 4 = 5 then _ else rP (wP σ 8 0 4 (some i)) 8 0 4) = _
        rw [if_neg (by omega), w_P1]
        exact if_pos rfl
      · show rP (wP (wP σ 8 0 4 (some i)) 8 0 5 (some q)) 8 0 5 = _
        rw [w_P1]
        exact if_pos rfl) ha hp.1 hp.2 (fun i hi => by omega) (by omega) (fun i hi => by omega) (by show rI _ 8 0 2 = _; simp (disch := omega) only [n_cl, n_lt, n_le, n_eq, n_lt0, n_0lt, n_le0, n_eq0, n_gneq, n_ngeq, n_ng0, n_nglt, n_glt, n_gle, n_ltg, n_leg, n_gg, n_ge0, n_add, n_mul, n_rem, n_shl1, n_and, n_or, n_bit, n_not, n_not', n_B1, n_B0, n_BB, obind, xite_T, xite_F, xite_not, xite_same, oI_s, oI_n, Bool.false_eq_true, reduceCtorEq, eq_self, Classical.not_not, bI_T, bI_Fa, bI_0, bI_n0, bI_x, xb_0, xb_1, xite_bI, xite_bI', not_true_eq_false, not_false_eq_true, Nat.zero_add, Nat.add_zero, Nat.mul_zero, Nat.mul_one, Nat.one_mul, reduceIte, Nat.reduceEqDiff, Nat.reduceAdd, Nat.reduceMul, Nat.reduceSub, Nat.reduceLT, Nat.reduceLeDiff, Nat.reducePow, ite_true, ite_false, if_true, if_false, and_true, true_and, false_and, and_false, or_false, false_or, true_or, or_true, ne_eq, xite_t, xite_f, w_I2, w_Is, w_In, w_IL, w_IP, w_IC, w_LI, w_LP, w_LC, w_PI, w_PL, w_PC]) (fun e => absurd e hab) (fun _ => by omega)
  have hW : cW σ' i q g b (xaK X c) (xaG X c) X := by
    refine cW_F (σ := wI (wI (wI (wI (wI (wP (wP σ 8 0 4 (some i)) 8 0 5 (some q)) 8 0 6 (nI g)) 8 0 7 (nI a)) 8 0 8 (nI b)) 8 0 2 (nI 0)) 8 0 3 (nI 0)) ?_ e3 (fun _ _ _ s => s)
    refine ⟨CL_F h hF2 (fun r k hr => by unfold S134; omega) (fun j k => by unfold S134; omega), ?_, ?_, by simp (disch := omega) only [n_cl, n_lt, n_le, n_eq, n_lt0, n_0lt, n_le0, n_eq0, n_gneq, n_ngeq, n_ng0, n_nglt, n_glt, n_gle, n_ltg, n_leg, n_gg, n_ge0, n_add, n_mul, n_rem, n_shl1, n_and, n_or, n_bit, n_not, n_not', n_B1, n_B0, n_BB, obind, xite_T, xite_F, xite_not, xite_same, oI_s, oI_n, Bool.false_eq_true, reduceCtorEq, eq_self, Classical.not_not, bI_T, bI_Fa, bI_0, bI_n0, bI_x, xb_0, xb_1, xite_bI, xite_bI', not_true_eq_false, not_false_eq_true, Nat.zero_add, Nat.add_zero, Nat.mul_zero, Nat.mul_one, Nat.one_mul, reduceIte, Nat.reduceEqDiff, Nat.reduceAdd, Nat.reduceMul, Nat.reduceSub, Nat.reduceLT, Nat.reduceLeDiff, Nat.reducePow, ite_true, ite_false, if_true, if_false, and_true, true_and, false_and, and_false, or_false, false_or, true_or, or_true, ne_eq, xite_t, xite_f, w_I2, w_Is, w_In, w_IL, w_IP, w_IC, w_LI, w_LP, w_LC, w_PI, w_PL, w_PC], by simp (disch := omega) only [n_cl, n_lt, n_le, n_eq, n_lt0, n_0lt, n_le0, n_eq0, n_gneq, n_ngeq, n_ng0, n_nglt, n_glt, n_gle, n_ltg, n_leg, n_gg, n_ge0, n_add, n_mul, n_rem, n_shl1, n_and, n_or, n_bit, n_not, n_not', n_B1, n_B0, n_BB, obind, xite_T, xite_F, xite_not, xite_same, oI_s, oI_n, Bool.false_eq_true, reduceCtorEq, eq_self, Classical.not_not, bI_T, bI_Fa, bI_0, bI_n0, bI_x, xb_0, xb_1, xite_bI, xite_bI', not_true_eq_false, not_false_eq_true, Nat.zero_add, Nat.add_zero, Nat.mul_zero, Nat.mul_one, Nat.one_mul, reduceIte, Nat.reduceEqDiff, Nat.reduceAdd, Nat.reduceMul, Nat.reduceSub, Nat.reduceLT, Nat.reduceLeDiff, Nat.reducePow, ite_true, ite_false, if_true, if_false, and_true, true_and, false_and, and_false, or_false, false_or, true_or, or_true, ne_eq, xite_t, xite_f, w_I2, w_Is, w_In, w_IL, w_IP, w_IC, w_LI, w_LP, w_LC, w_PI, w_PL, w_PC], cOk_w hO hF2.2.2.2.1 (xF_I hF2 (fun k => by unfold S134; omega))⟩
    · show rP (wP (wP σ 8 0 4 (some i)) 8 0 5 (some q)) 8 0 4 = _
      rw [w_P1]
      show (if 4 = 5 then _ else rP (wP σ 8 0 4 (some i)) 8 0 4) = _
      rw [if_neg (by omega), w_P1]
      exact if_pos rfl
    · show rP (wP (wP σ 8 0 4 (some i)) 8 0 5 (some q)) 8 0 5 = _
      rw [w_P1]
      exact if_pos rfl
  refine ⟨q, σ', ?_, e2, hW, ?_, xF_trans hF2 (xF_le e3 (fun r j k s => by unfold S135 at s; unfold S134; omega))⟩
  · rw [B134_0]
    have e1' : run (d + 8) (xentry 135 [.inr (.inr (8, (some 0))), .inl (nI a), .inl (nI (2 ^ a)), .inl (nI 0), .inl (nI 0)] (wI (wI (wI (wI (wI (wP (wP σ 8 0 4 (some i)) 8 0 5 (some q)) 8 0 6 (nI g)) 8 0 7 (nI a)) 8 0 8 (nI b)) 8 0 2 (nI 0)) 8 0 3 (nI 0))) = some ((0, 0, none), σ') := e1
    simp (disch := omega) only [n_cl, n_lt, n_le, n_eq, n_lt0, n_0lt, n_le0, n_eq0, n_gneq, n_ngeq, n_ng0, n_nglt, n_glt, n_gle, n_ltg, n_leg, n_gg, n_ge0, n_add, n_mul, n_rem, n_shl1, n_and, n_or, n_bit, n_not, n_not', n_B1, n_B0, n_BB, obind, xite_T, xite_F, xite_not, xite_same, oI_s, oI_n, Bool.false_eq_true, reduceCtorEq, eq_self, Classical.not_not, bI_T, bI_Fa, bI_0, bI_n0, bI_x, xb_0, xb_1, xite_bI, xite_bI', not_true_eq_false, not_false_eq_true, Nat.zero_add, Nat.add_zero, Nat.mul_zero, Nat.mul_one, Nat.one_mul, reduceIte, Nat.reduceEqDiff, Nat.reduceAdd, Nat.reduceMul, Nat.reduceSub, Nat.reduceLT, Nat.reduceLeDiff, Nat.reducePow, ite_true, ite_false, if_true, if_false, and_true, true_and, false_and, and_false, or_false, false_or, true_or, or_true, ne_eq, e95, e1']
    congr 3
    have e2 := id e2
    unfold tW at e2 ⊢
    revert e2
    cases tT X (xaK X c) (xaG X c) g b 6 a (2 ^ a) 0 (fun _ => (0, 0)) 0 none with
    | none =>
      intro e2
      have e2 : rI σ' 8 0 2 = nI 0 := e2
      rw [e2, bI_f (by simp (disch := omega) only [n_cl, n_lt, n_le, n_eq, n_lt0, n_0lt, n_le0, n_eq0, n_gneq, n_ngeq, n_ng0, n_nglt, n_glt, n_gle, n_ltg, n_leg, n_gg, n_ge0, n_add, n_mul, n_rem, n_shl1, n_and, n_or, n_bit, n_not, n_not', n_B1, n_B0, n_BB, obind, xite_T, xite_F, xite_not, xite_same, oI_s, oI_n, Bool.false_eq_true, reduceCtorEq, eq_self, Classical.not_not, bI_T, bI_Fa, bI_0, bI_n0, bI_x, xb_0, xb_1, xite_bI, xite_bI', not_true_eq_false, not_false_eq_true, Nat.zero_add, Nat.add_zero, Nat.mul_zero, Nat.mul_one, Nat.one_mul, reduceIte, Nat.reduceEqDiff, Nat.reduceAdd, Nat.reduceMul, Nat.reduceSub, Nat.reduceLT, Nat.reduceLeDiff, Nat.reducePow, ite_true, ite_false, if_true, if_false, and_true, true_and, false_and, and_false, or_false, false_or, true_or, or_true, ne_eq, xite_t, xite_f, ]), bI_f (by simp)]
    | some t =>
      obtain ⟨w, n, p⟩ := t
      intro e2
      have h0 := e2.2.2.1
      have h5 := e2.2.2.2.1
      rw [e2.1, bI_t (by simp (disch := omega) only [n_cl, n_lt, n_le, n_eq, n_lt0, n_0lt, n_le0, n_eq0, n_gneq, n_ngeq, n_ng0, n_nglt, n_glt, n_gle, n_ltg, n_leg, n_gg, n_ge0, n_add, n_mul, n_rem, n_shl1, n_and, n_or, n_bit, n_not, n_not', n_B1, n_B0, n_BB, obind, xite_T, xite_F, xite_not, xite_same, oI_s, oI_n, Bool.false_eq_true, reduceCtorEq, eq_self, Classical.not_not, bI_T, bI_Fa, bI_0, bI_n0, bI_x, xb_0, xb_1, xite_bI, xite_bI', not_true_eq_false, not_false_eq_true, Nat.zero_add, Nat.add_zero, Nat.mul_zero, Nat.mul_one, Nat.one_mul, reduceIte, Nat.reduceEqDiff, Nat.reduceAdd, Nat.reduceMul, Nat.reduceSub, Nat.reduceLT, Nat.reduceLeDiff, Nat.reducePow, ite_true, ite_false, if_true, if_false, and_true, true_and, false_and, and_false, or_false, false_or, true_or, or_true, ne_eq, xite_t, xite_f, ]; omega), bI_t (by simp)]
  · rw [e3.1 8 0 7 (by unfold S135; omega)]
    simp (disch := omega) only [n_cl, n_lt, n_le, n_eq, n_lt0, n_0lt, n_le0, n_eq0, n_gneq, n_ngeq, n_ng0, n_nglt, n_glt, n_gle, n_ltg, n_leg, n_gg, n_ge0, n_add, n_mul, n_rem, n_shl1, n_and, n_or, n_bit, n_not, n_not', n_B1, n_B0, n_BB, obind, xite_T, xite_F, xite_not, xite_same, oI_s, oI_n, Bool.false_eq_true, reduceCtorEq, eq_self, Classical.not_not, bI_T, bI_Fa, bI_0, bI_n0, bI_x, xb_0, xb_1, xite_bI, xite_bI', not_true_eq_false, not_false_eq_true, Nat.zero_add, Nat.add_zero, Nat.mul_zero, Nat.mul_one, Nat.one_mul, reduceIte, Nat.reduceEqDiff, Nat.reduceAdd, Nat.reduceMul, Nat.reduceSub, Nat.reduceLT, Nat.reduceLeDiff, Nat.reducePow, ite_true, ite_false, if_true, if_false, and_true, true_and, false_and, and_false, or_false, false_or, true_or, or_true, ne_eq, xite_t, xite_f, w_I2, w_Is, w_In, w_IL, w_IP, w_IC, w_LI, w_LP, w_LC, w_PI, w_PL, w_PC]
theorem CL_or {σ : xS} {i r l : Nat} {X : mX} {N' : Nat → Nat} (h : CL σ i X) (hr : r < xaR X) (hl : l < 16) (hN : ∀ r', N' r' = if r' = r then xaN X r ||| l else xaN X r') : CL (wL σ 1 i 3 (rL σ 1 i 3 ||| lN (l * 2 ^ (4 * r)))) i (X.1, (xaF X, xaT X, xaM X, N'), X.2.2) := by
  obtain ⟨hX, h0, h1, h2, h3, ⟨N, eN, hR⟩, h5⟩ := h
  refine ⟨⟨hX.1, hX.2.1, hX.2.2.1, hX.2.2.2.1, hX.2.2.2.2.1, fun r' hr' => ?_, hX.2.2.2.2.2.2⟩, h0, h1, h2, h3, ⟨N ||| l * 2 ^ (4 * r), ?_, nrep_or hR hr hl (fun r' _ => hN r')⟩, h5⟩
  · have a := hX.2.2.2.2.2.1 r' hr'
    refine ⟨a.1, a.2.1, a.2.2.1, a.2.2.2.1, a.2.2.2.2.1, ?_⟩
    show N' r' < 16
    rw [hN]
    split
    · exact Nat.or_lt_two_pow (n := 4) (hX.2.2.2.2.2.1 r hr).2.2.2.2.2 hl
    · exact a.2.2.2.2.2
  · rw [w_L1]
    show (if 3 = 3 then _ else _) = _
    rw [if_pos rfl, eN, l_or]
theorem smm_g {X : mX} {acc : mW} {p : Nat → Nat × Nat} : ∀ n, smm (gX X acc) p n = smm X p n := by
  intro n
  induction n with
  | zero => rfl
  | succ n ih =>
    show smm (gX X acc) p n + xaM (gX X acc) (p n).1 = smm X p n + xaM X (p n).1
    rw [ih]
    cases acc with
    | none => rfl
    | some t => rfl
theorem C136 (d : Nat) (σ : xS) {i w n : Nat} {X : mX} {p : Nat → Nat × Nat} (h : CL σ i X) (h4 : rP σ 8 0 4 = some i) (hA : cA σ X (some (w, n, p))) : run (d + 1) (xentry 136 [.inr (.inr (8, (some 0)))] σ) = some ((nI (smm X p n), 0, none), σ) := by
  obtain ⟨a1, a2, a3, a4, a5, a6, a7⟩ := hA
  have hR9 := h.1.2.2.1
  have loop : ∀ j k, k + j = n → run (d + 1) (136, 4, [some (.inr (.inr (8, (some 0)))), some (.inl (nI (smm X p k))), some (.inl (nI (k)))], [], σ) = some ((nI (smm X p n), 0, none), σ) := by
    intro j
    induction j with
    | zero =>
      intro k hk
      have e : k = n := by omega
      subst e
      rw [B136_4]
      simp (disch := omega) only [n_cl, n_lt, n_le, n_eq, n_lt0, n_0lt, n_le0, n_eq0, n_gneq, n_ngeq, n_ng0, n_nglt, n_glt, n_gle, n_ltg, n_leg, n_gg, n_ge0, n_add, n_mul, n_rem, n_shl1, n_and, n_or, n_bit, n_not, n_not', n_B1, n_B0, n_BB, obind, xite_T, xite_F, xite_not, xite_same, oI_s, oI_n, Bool.false_eq_true, reduceCtorEq, eq_self, Classical.not_not, bI_T, bI_Fa, bI_0, bI_n0, bI_x, xb_0, xb_1, xite_bI, xite_bI', not_true_eq_false, not_false_eq_true, Nat.zero_add, Nat.add_zero, Nat.mul_zero, Nat.mul_one, Nat.one_mul, reduceIte, Nat.reduceEqDiff, Nat.reduceAdd, Nat.reduceMul, Nat.reduceSub, Nat.reduceLT, Nat.reduceLeDiff, Nat.reducePow, ite_true, ite_false, if_true, if_false, and_true, true_and, false_and, and_false, or_false, false_or, true_or, or_true, ne_eq, xite_t, xite_f, a1]
    | succ j ih =>
      intro k hk
      have b := a6 k (by omega)
      have e := (h.2.2.2.2.1 (p k).1 b.1).2.2
      rw [B136_4]
      simp (disch := omega) only [n_cl, n_lt, n_le, n_eq, n_lt0, n_0lt, n_le0, n_eq0, n_gneq, n_ngeq, n_ng0, n_nglt, n_glt, n_gle, n_ltg, n_leg, n_gg, n_ge0, n_add, n_mul, n_rem, n_shl1, n_and, n_or, n_bit, n_not, n_not', n_B1, n_B0, n_BB, obind, xite_T, xite_F, xite_not, xite_same, oI_s, oI_n, Bool.false_eq_true, reduceCtorEq, eq_self, Classical.not_not, bI_T, bI_Fa, bI_0, bI_n0, bI_x, xb_0, xb_1, xite_bI, xite_bI', not_true_eq_false, not_false_eq_true, Nat.zero_add, Nat.add_zero, Nat.mul_zero, Nat.mul_one, Nat.one_mul, reduceIte, Nat.reduceEqDiff, Nat.reduceAdd, Nat.reduceMul, Nat.reduceSub, Nat.reduceLT, Nat.reduceLeDiff, Nat.reducePow, ite_true, ite_false, if_true, if_false, and_true, true_and, false_and, and_false, or_false, false_or, true_or, or_true, ne_eq, xite_t, xite_f, a1, h4, xob_s, a7 k (by omega), e]
      exact ih (k + 1) (by omega)
  rw [B136_0]
  exact loop n 0 (by omega)
def S137 (i r j k : Nat) : Prop := r = 1 ∧ j = i ∧ k = 3
theorem C137 (d : Nat) (σ : xS) {i q g goal k f w n a : Nat} {X : mX} {p : Nat → Nat × Nat} (hW : cW σ i q g goal k f X) (hk : k < 8) (hf : f ≤ 9) (hg : g < 4) (h7 : rI σ 8 0 7 = nI a) (ha : a < 6) (hA : cA σ X (some (w, n, p))) (hch : chn X k f g p n 0 a (2 ^ a)) :
    ∃ σ', run (d + 3) (xentry 137 [.inr (.inr (8, (some 0)))] σ) = some ((0, 0, none), σ') ∧ CL σ' i (gX X (some (w, n, p))) ∧ xF (S137 i) σ σ' := by
  obtain ⟨a1, a2, a3, a4, a5, a6, a7⟩ := hA
  have hX := hW.1.1
  have hR9 := hX.2.2.1
  have hP2 := hX.1
  have hP6 := hX.2.1
  have loop : ∀ (j t pl been : Nat) (σ1 : xS), t + j = n → pl < 6 → been < 64 → chn X k f g p j t pl been → xF (S137 i) σ σ1 → CL σ1 i (gX X (some (w, t, p))) → ∃ σ', run (d + 3) (137, 14, [some (.inr (.inr (8, (some 0)))), some (.inl (nI (pl))), some (.inl (nI (been))), some (.inl (nI (t))), none, none, none], [], σ1) = some ((0, 0, none), σ') ∧ CL σ' i (gX X (some (w, n, p))) ∧ xF (S137 i) σ σ' := by
    intro j
    induction j with
    | zero =>
      intro t pl been σ1 ht _ _ _ hF hC
      have e : t = n := by omega
      subst e
      refine ⟨σ1, ?_, hC, hF⟩
      have b1 : rI σ1 8 0 2 = nI t := by rw [hF.1 8 0 2 (by unfold S137; omega)]; exact a1
      rw [B137_14]
      simp (disch := omega) only [n_cl, n_lt, n_le, n_eq, n_lt0, n_0lt, n_le0, n_eq0, n_gneq, n_ngeq, n_ng0, n_nglt, n_glt, n_gle, n_ltg, n_leg, n_gg, n_ge0, n_add, n_mul, n_rem, n_shl1, n_and, n_or, n_bit, n_not, n_not', n_B1, n_B0, n_BB, obind, xite_T, xite_F, xite_not, xite_same, oI_s, oI_n, Bool.false_eq_true, reduceCtorEq, eq_self, Classical.not_not, bI_T, bI_Fa, bI_0, bI_n0, bI_x, xb_0, xb_1, xite_bI, xite_bI', not_true_eq_false, not_false_eq_true, Nat.zero_add, Nat.add_zero, Nat.mul_zero, Nat.mul_one, Nat.one_mul, reduceIte, Nat.reduceEqDiff, Nat.reduceAdd, Nat.reduceMul, Nat.reduceSub, Nat.reduceLT, Nat.reduceLeDiff, Nat.reducePow, ite_true, ite_false, if_true, if_false, and_true, true_and, false_and, and_false, or_false, false_or, true_or, or_true, ne_eq, xite_t, xite_f, b1]
    | succ j ih =>
      intro t pl been σ1 ht hpl hb hc hF hC
      obtain ⟨q', ho, hl, hc⟩ := hc
      have b := a6 t (by omega)
      have hq' := oth_lt hX b.1 ho
      have b1 : rI σ1 8 0 2 = nI n := by rw [hF.1 8 0 2 (by unfold S137; omega)]; exact a1
      have b4 : rP σ1 8 0 4 = some i := by rw [hF.2.2.1 8 0 4 (by unfold S137; omega)]; exact hW.2.1
      have b5 : rP σ1 8 0 5 = some q := by rw [hF.2.2.1 8 0 5 (by unfold S137; omega)]; exact hW.2.2.1
      have b6 : rI σ1 8 0 6 = nI g := by rw [hF.1 8 0 6 (by unfold S137; omega)]; exact hW.2.2.2.1
      have b9 : rI σ1 9 0 t = nI (p t).1 := by rw [hF.1 9 0 t (by unfold S137; omega)]; exact a7 t (by omega)
      have bO : cOk σ1 q k f := cOk_w hW.2.2.2.2.2 hF.2.2.2.1 (xF_I hF (fun k => by unfold S137; omega))
      have hL := ldm_lt (P := xaP X) (k := k) (f := f) (been := been) hg
      have e0 : run (d + 2) (xentry (xvt 0 ((rC σ1).getD q 0)) [.inr (.inr (16, (some q))), .inl (nI g), .inl (nI been), .inl (nI (xaP X))] σ1) = some ((nI (ldm (xaP X) k f g been), 0, none), σ1) := C_loads d σ1 bO hk hf hg hb (by omega) hP6
      have e2 := C_leaves (d + 1) σ1 (r := (p t).1) (l := ldm (xaP X) k f g been) bO hk hf (by omega)
      have hP0 : rI σ1 1 i 0 = nI (xaP X) := hC.2.1
      have h16 : lvm k f (p t).1 (ldm (xaP X) k f g been) < 16 := lvm_lt hL
      have hC2 : CL (wL σ1 1 i 3 (rL σ1 1 i 3 ||| lN (lvm k f (p t).1 (ldm (xaP X) k f g been) * 2 ^ (4 * (p t).1)))) i (gX X (some (w, t + 1, p))) := by
        refine CL_or (X := gX X (some (w, t, p))) (N' := gN (xaN X) p (t + 1)) hC b.1 h16 ?_
        intro r'
        show (if r' = (p t).1 then gN (xaN X) p t r' ||| (p t).2 else gN (xaN X) p t r') = _
        by_cases e : r' = (p t).1
        · rw [if_pos e, if_pos e, hl, e]; rfl
        · rw [if_neg e, if_neg e]; rfl
      have e3 := C103 d (wL σ1 1 i 3 (rL σ1 1 i 3 ||| lN (lvm k f (p t).1 (ldm (xaP X) k f g been) * 2 ^ (4 * (p t).1)))) hC2 b.1 hpl
      have eo : oth (gX X (some (w, t + 1, p))) (p t).1 pl = some q' := ho
      rw [eo] at e3
      obtain ⟨σ', f1, f2⟩ := ih (t + 1) q' (been ||| 2 ^ q') (wL σ1 1 i 3 (rL σ1 1 i 3 ||| lN (lvm k f (p t).1 (ldm (xaP X) k f g been) * 2 ^ (4 * (p t).1)))) (by omega) hq' (Nat.or_lt_two_pow (n := 6) hb (p2_lt q' hq').1) hc (xF_wL hF _ ⟨rfl, rfl, rfl⟩) hC2
      refine ⟨σ', ?_, f2⟩
      have hmul : lvm k f (p t).1 (ldm (xaP X) k f g been) * 2 ^ (4 * (p t).1) < 2 ^ 64 := by
        have x : lvm k f (p t).1 (ldm (xaP X) k f g been) * 2 ^ (4 * (p t).1) < 2 ^ 4 * 2 ^ (4 * (p t).1) := Nat.mul_lt_mul_of_pos_right h16 (Nat.two_pow_pos _)
        rw [← Nat.pow_add] at x
        exact Nat.lt_of_lt_of_le x (Nat.pow_le_pow_right (by omega) (by omega))
      rw [B137_14]
      simp (disch := omega) only [n_cl, n_lt, n_le, n_eq, n_lt0, n_0lt, n_le0, n_eq0, n_gneq, n_ngeq, n_ng0, n_nglt, n_glt, n_gle, n_ltg, n_leg, n_gg, n_ge0, n_add, n_mul, n_rem, n_shl1, n_and, n_or, n_bit, n_not, n_not', n_B1, n_B0, n_BB, obind, xite_T, xite_F, xite_not, xite_same, oI_s, oI_n, Bool.false_eq_true, reduceCtorEq, eq_self, Classical.not_not, bI_T, bI_Fa, bI_0, bI_n0, bI_x, xb_0, xb_1, xite_bI, xite_bI', not_true_eq_false, not_false_eq_true, Nat.zero_add, Nat.add_zero, Nat.mul_zero, Nat.mul_one, Nat.one_mul, reduceIte, Nat.reduceEqDiff, Nat.reduceAdd, Nat.reduceMul, Nat.reduceSub, Nat.reduceLT, Nat.reduceLeDiff, Nat.reducePow, ite_true, ite_false, if_true, if_false, and_true, true_and, false_and, and_false, or_false, false_or, true_or, or_true, ne_eq, xite_t, xite_f, b1, b4, b5, b6, b9, xob_s, hP0, e0, e2, n_l, l_shl, w_I2, w_Is, w_In, w_IL, w_IP, w_IC, w_LI, w_LP, w_LC, w_PI, w_PL, w_PC]
      simp (disch := omega) only [n_cl, n_lt, n_le, n_eq, n_lt0, n_0lt, n_le0, n_eq0, n_gneq, n_ngeq, n_ng0, n_nglt, n_glt, n_gle, n_ltg, n_leg, n_gg, n_ge0, n_add, n_mul, n_rem, n_shl1, n_and, n_or, n_bit, n_not, n_not', n_B1, n_B0, n_BB, obind, xite_T, xite_F, xite_not, xite_same, oI_s, oI_n, Bool.false_eq_true, reduceCtorEq, eq_self, Classical.not_not, bI_T, bI_Fa, bI_0, bI_n0, bI_x, xb_0, xb_1, xite_bI, xite_bI', not_true_eq_false, not_false_eq_true, Nat.zero_add, Nat.add_zero, Nat.mul_zero, Nat.mul_one, Nat.one_mul, reduceIte, Nat.reduceEqDiff, Nat.reduceAdd, Nat.reduceMul, Nat.reduceSub, Nat.reduceLT, Nat.reduceLeDiff, Nat.reducePow, ite_true, ite_false, if_true, if_false, and_true, true_and, false_and, and_false, or_false, false_or, true_or, or_true, ne_eq, xite_t, xite_f, b4, e3, w_I2, w_Is, w_In, w_IL, w_IP, w_IC, w_LI, w_LP, w_LC, w_PI, w_PL, w_PC, xob_s]
      exact f1
  rw [B137_0, h7]
  simp (disch := omega) only [n_cl, n_lt, n_le, n_eq, n_lt0, n_0lt, n_le0, n_eq0, n_gneq, n_ngeq, n_ng0, n_nglt, n_glt, n_gle, n_ltg, n_leg, n_gg, n_ge0, n_add, n_mul, n_rem, n_shl1, n_and, n_or, n_bit, n_not, n_not', n_B1, n_B0, n_BB, obind, xite_T, xite_F, xite_not, xite_same, oI_s, oI_n, Bool.false_eq_true, reduceCtorEq, eq_self, Classical.not_not, bI_T, bI_Fa, bI_0, bI_n0, bI_x, xb_0, xb_1, xite_bI, xite_bI', not_true_eq_false, not_false_eq_true, Nat.zero_add, Nat.add_zero, Nat.mul_zero, Nat.mul_one, Nat.one_mul, reduceIte, Nat.reduceEqDiff, Nat.reduceAdd, Nat.reduceMul, Nat.reduceSub, Nat.reduceLT, Nat.reduceLeDiff, Nat.reducePow, ite_true, ite_false, if_true, if_false, and_true, true_and, false_and, and_false, or_false, false_or, true_or, or_true, ne_eq, xite_t, xite_f, ]
  obtain ⟨σ', f1, f2⟩ := loop n 0 a (2 ^ a) σ (by omega) ha (p2_lt a ha).1 hch (xF_refl σ) hW.1
  exact ⟨σ', f1, f2⟩
def S174 (i r j k : Nat) : Prop := r = 8 ∨ r = 9 ∨ r = 10 ∨ (r = 1 ∧ j = i ∧ k = 3)
/-- the miles of a way found -/
def mW_I (X : mX) : mW → Int32
  | none => -nI 4
  | some (_, n, p) => nI (smm X p n)
theorem C174 (d : Nat) (σ : xS) {X : mX} {i c g a b : Nat} (h : CL σ i X) (hc : c < xaC X) (hg : g < 4) (ha : a < 6) (hb : b < 6) (hab : ¬ a = b) :
    ∃ σ', run (d + 10) (xentry 174 [.inr (.inr (0, (some 0))), .inr (.inr (1, (some i))), .inl (nI c), .inl (nI g), .inl (nI a), .inl (nI b)] σ) = some ((mW_I X (tW X (xaK X c) (xaG X c) g a b), 0, none), σ') ∧ CL σ' i (gX X (tW X (xaK X c) (xaG X c) g a b)) ∧ xF (S174 i) σ σ' := by
  obtain ⟨q, σ1, e1, e2, e3, e4, e5⟩ := C134 d σ h hc hg ha hb hab
  have hkc := h.1.2.2.2.2.2.2 c hc
  have hch := tW_chn (X := X) (k := xaK X c) (f := xaG X c) (g := g) (a := a) (b := b)
  rw [B174_0, e1]
  simp (disch := omega) only [n_cl, n_lt, n_le, n_eq, n_lt0, n_0lt, n_le0, n_eq0, n_gneq, n_ngeq, n_ng0, n_nglt, n_glt, n_gle, n_ltg, n_leg, n_gg, n_ge0, n_add, n_mul, n_rem, n_shl1, n_and, n_or, n_bit, n_not, n_not', n_B1, n_B0, n_BB, obind, xite_T, xite_F, xite_not, xite_same, oI_s, oI_n, Bool.false_eq_true, reduceCtorEq, eq_self, Classical.not_not, bI_T, bI_Fa, bI_0, bI_n0, bI_x, xb_0, xb_1, xite_bI, xite_bI', not_true_eq_false, not_false_eq_true, Nat.zero_add, Nat.add_zero, Nat.mul_zero, Nat.mul_one, Nat.one_mul, reduceIte, Nat.reduceEqDiff, Nat.reduceAdd, Nat.reduceMul, Nat.reduceSub, Nat.reduceLT, Nat.reduceLeDiff, Nat.reducePow, ite_true, ite_false, if_true, if_false, and_true, true_and, false_and, and_false, or_false, false_or, true_or, or_true, ne_eq, ]
  revert e2 hch
  cases tW X (xaK X c) (xaG X c) g a b with
  | none =>
    intro e2 _
    refine ⟨σ1, ?_, e3.1, xF_le e5 (fun r j k s => by unfold S134 at s; unfold S174; omega)⟩
    rw [xite_t rfl]
    rfl
  | some t =>
    obtain ⟨w, n, p⟩ := t
    intro e2 hch
    obtain ⟨σ2, f1, f2, f3⟩ := C137 (d + 6) σ1 e3 hkc.1 hkc.2 hg e4 ha e2 (hch w n p rfl)
    have h4 : rP σ2 8 0 4 = some i := by rw [f3.2.2.1 8 0 4 (by unfold S137; omega)]; exact e3.2.1
    have hA2 : cA σ2 (gX X (some (w, n, p))) (some (w, n, p)) := by
      obtain ⟨a1, a2, a3, a4, a5, a6, a7⟩ := e2
      exact ⟨by rw [f3.1 8 0 2 (by unfold S137; omega)]; exact a1, by rw [f3.1 8 0 3 (by unfold S137; omega)]; exact a2, a3, a4, a5, a6, fun i hi => by rw [f3.1 9 0 i (by unfold S137; omega)]; exact a7 i hi⟩
    have g1 := C136 (d + 8) σ2 f2 h4 hA2
    rw [smm_g] at g1
    refine ⟨σ2, ?_, f2, xF_trans (xF_le e5 (fun r j k s => by unfold S134 at s; unfold S174; omega)) (xF_le f3 (fun r j k s => by unfold S137 at s; unfold S174; omega))⟩
    rw [xite_f (by simp), f1]
    simp (disch := omega) only [n_cl, n_lt, n_le, n_eq, n_lt0, n_0lt, n_le0, n_eq0, n_gneq, n_ngeq, n_ng0, n_nglt, n_glt, n_gle, n_ltg, n_leg, n_gg, n_ge0, n_add, n_mul, n_rem, n_shl1, n_and, n_or, n_bit, n_not, n_not', n_B1, n_B0, n_BB, obind, xite_T, xite_F, xite_not, xite_same, oI_s, oI_n, Bool.false_eq_true, reduceCtorEq, eq_self, Classical.not_not, bI_T, bI_Fa, bI_0, bI_n0, bI_x, xb_0, xb_1, xite_bI, xite_bI', not_true_eq_false, not_false_eq_true, Nat.zero_add, Nat.add_zero, Nat.mul_zero, Nat.mul_one, Nat.one_mul, reduceIte, Nat.reduceEqDiff, Nat.reduceAdd, Nat.reduceMul, Nat.reduceSub, Nat.reduceLT, Nat.reduceLeDiff, Nat.reducePow, ite_true, ite_false, if_true, if_false, and_true, true_and, false_and, and_false, or_false, false_or, true_or, or_true, ne_eq, g1]
    rfl
