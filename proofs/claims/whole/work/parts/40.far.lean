/-! FAR, WORTH -/
def bnd (B : Nat) (D : mD) : Prop := ∀ p x, D p = some x → x ≤ B
theorem rx_bnd {B u v m : Nat} {D : mD} (h : bnd B D) (hm : m ≤ 9) : bnd (B + 9) (rx u v m D) := by
  intro p x hx
  rcases rx_cases u v m D with ⟨_, e⟩ | ⟨y, hu, ⟨z, hv, hy, e⟩ | ⟨hv, e⟩⟩
  · rw [e] at hx; have := h p x hx; omega
  · rw [e] at hx; have := h p x hx; omega
  · rw [e] at hx
    have hx : (if p = v then some (y + m) else D p) = some x := hx
    by_cases hp : p = v
    · rw [if_pos hp] at hx; cases hx
      have := h u y hu
      omega
    · rw [if_neg hp] at hx
      have := h p x hx
      omega
theorem bnd_le {B B' : Nat} {D : mD} (h : bnd B D) (hb : B ≤ B') : bnd B' D := fun p x hx => Nat.le_trans (h p x hx) hb
def dC (σ : xS) (i : Nat) (D : mD) : Prop := ∀ p, p < 6 → rI σ 7 i p = oI 4 (D p)
def S104 (i r j _ : Nat) : Prop := r = 7 ∧ j = i
theorem C105 (d : Nat) (σ : xS) {i u v m B : Nat} {D : mD} (h : dC σ i D) (hB : bnd B D) (hB2 : B < 100000) (hu : u < 6) (hv : v < 6) (hm : m ≤ 9) : ∃ σ', run (d + 1) (xentry 105 [.inr (.inr (1, (some i))), .inl (nI u), .inl (nI v), .inl (nI m)] σ) = some ((0, 0, none), σ') ∧ dC σ' i (rx u v m D) ∧ xF (S104 i) σ σ' := by
  have e1 := h u hu
  have e2 := h v hv
  have upd : ∀ x, rx u v m D = (fun k => if k = v then some (x + m) else D k) → dC (wI σ 7 i v (nI (x + m))) i (rx u v m D) := by
    intro x e p hp
    rw [e, w_I1]
    show (if p = v then _ else _) = oI 4 (if p = v then _ else _)
    by_cases c : p = v
    · rw [if_pos c, if_pos c]; rfl
    · rw [if_neg c, if_neg c]; exact h p hp
  have hF : ∀ x, xF (S104 i) σ (wI σ 7 i v x) := fun x => xF_wI (xF_refl σ) _ ⟨rfl, rfl⟩
  rcases rx_cases u v m D with ⟨hn, e⟩ | ⟨x, hx, ⟨y, hy, hle, e⟩ | ⟨hy, e⟩⟩
  · refine ⟨σ, ?_, by rw [e]; exact h, xF_refl σ⟩
    rw [hn] at e1
    rw [B105_0]
    simp (disch := omega) only [n_cl, n_lt, n_le, n_eq, n_lt0, n_0lt, n_le0, n_eq0, n_gneq, n_ngeq, n_ng0, n_nglt, n_glt, n_gle, n_ltg, n_leg, n_gg, n_ge0, n_add, n_mul, n_rem, n_shl1, n_and, n_or, n_bit, n_not, n_not', n_B1, n_B0, n_BB, obind, xite_T, xite_F, xite_not, xite_same, oI_s, oI_n, Bool.false_eq_true, reduceCtorEq, eq_self, Classical.not_not, bI_T, bI_Fa, bI_0, bI_n0, bI_x, xb_0, xb_1, xite_bI, xite_bI', not_true_eq_false, not_false_eq_true, Nat.zero_add, Nat.add_zero, Nat.mul_zero, Nat.mul_one, Nat.one_mul, reduceIte, Nat.reduceEqDiff, Nat.reduceAdd, Nat.reduceMul, Nat.reduceSub, Nat.reduceLT, Nat.reduceLeDiff, Nat.reducePow, ite_true, ite_false, if_true, if_false, and_true, true_and, false_and, and_false, or_false, false_or, true_or, or_true, ne_eq, xite_t, xite_f, e1]
  · have b1 := hB u x hx
    have b2 := hB v y hy
    refine ⟨σ, ?_, by rw [e]; exact h, xF_refl σ⟩
    rw [hx] at e1
    rw [hy] at e2
    rw [B105_0]
    simp (disch := omega) only [n_cl, n_lt, n_le, n_eq, n_lt0, n_0lt, n_le0, n_eq0, n_gneq, n_ngeq, n_ng0, n_nglt, n_glt, n_gle, n_ltg, n_leg, n_gg, n_ge0, n_add, n_mul, n_rem, n_shl1, n_and, n_or, n_bit, n_not, n_not', n_B1, n_B0, n_BB, obind, xite_T, xite_F, xite_not, xite_same, oI_s, oI_n, Bool.false_eq_true, reduceCtorEq, eq_self, Classical.not_not, bI_T, bI_Fa, bI_0, bI_n0, bI_x, xb_0, xb_1, xite_bI, xite_bI', not_true_eq_false, not_false_eq_true, Nat.zero_add, Nat.add_zero, Nat.mul_zero, Nat.mul_one, Nat.one_mul, reduceIte, Nat.reduceEqDiff, Nat.reduceAdd, Nat.reduceMul, Nat.reduceSub, Nat.reduceLT, Nat.reduceLeDiff, Nat.reducePow, ite_true, ite_false, if_true, if_false, and_true, true_and, false_and, and_false, or_false, false_or, true_or, or_true, ne_eq, xite_t, xite_f, e1, e2]
  · have b1 := hB u x hx
    refine ⟨wI σ 7 i v (nI (x + m)), ?_, upd x e, hF _⟩
    rw [hx] at e1
    rw [B105_0]
    cases hy2 : D v with
    | none =>
      rw [hy2] at e2
      simp (disch := omega) only [n_cl, n_lt, n_le, n_eq, n_lt0, n_0lt, n_le0, n_eq0, n_gneq, n_ngeq, n_ng0, n_nglt, n_glt, n_gle, n_ltg, n_leg, n_gg, n_ge0, n_add, n_mul, n_rem, n_shl1, n_and, n_or, n_bit, n_not, n_not', n_B1, n_B0, n_BB, obind, xite_T, xite_F, xite_not, xite_same, oI_s, oI_n, Bool.false_eq_true, reduceCtorEq, eq_self, Classical.not_not, bI_T, bI_Fa, bI_0, bI_n0, bI_x, xb_0, xb_1, xite_bI, xite_bI', not_true_eq_false, not_false_eq_true, Nat.zero_add, Nat.add_zero, Nat.mul_zero, Nat.mul_one, Nat.one_mul, reduceIte, Nat.reduceEqDiff, Nat.reduceAdd, Nat.reduceMul, Nat.reduceSub, Nat.reduceLT, Nat.reduceLeDiff, Nat.reducePow, ite_true, ite_false, if_true, if_false, and_true, true_and, false_and, and_false, or_false, false_or, true_or, or_true, ne_eq, xite_t, xite_f, e1, e2]
    | some y =>
      have := hy y hy2
      have b2 := hB v y hy2
      rw [hy2] at e2
      simp (disch := omega) only [n_cl, n_lt, n_le, n_eq, n_lt0, n_0lt, n_le0, n_eq0, n_gneq, n_ngeq, n_ng0, n_nglt, n_glt, n_gle, n_ltg, n_leg, n_gg, n_ge0, n_add, n_mul, n_rem, n_shl1, n_and, n_or, n_bit, n_not, n_not', n_B1, n_B0, n_BB, obind, xite_T, xite_F, xite_not, xite_same, oI_s, oI_n, Bool.false_eq_true, reduceCtorEq, eq_self, Classical.not_not, bI_T, bI_Fa, bI_0, bI_n0, bI_x, xb_0, xb_1, xite_bI, xite_bI', not_true_eq_false, not_false_eq_true, Nat.zero_add, Nat.add_zero, Nat.mul_zero, Nat.mul_one, Nat.one_mul, reduceIte, Nat.reduceEqDiff, Nat.reduceAdd, Nat.reduceMul, Nat.reduceSub, Nat.reduceLT, Nat.reduceLeDiff, Nat.reducePow, ite_true, ite_false, if_true, if_false, and_true, true_and, false_and, and_false, or_false, false_or, true_or, or_true, ne_eq, xite_t, xite_f, e1, e2]
def Ew (X : mX) (g : Nat) : Option Nat → Nat → Bool
  | none => fre X g
  | some r0 => fun r => if r = r0 then false else fre X g r
theorem C104 (d : Nat) (σ : xS) {i g a b : Nat} {wo : Option Nat} {w : Int32} {X : mX} (h : CL σ i X) (hg : g < 4) (ha : a < xaP X) (hb : b < xaP X) (hw : w = oI 1 wo) (hwo : ∀ r, wo = some r → r < 100) :
    ∃ σ', run (d + 3) (xentry 104 [.inr (.inr (1, (some i))), .inl (nI g), .inl (nI a), .inl (nI b), .inl w] σ) = some ((oI 4 (dst X (Ew X g wo) a b), 0, none), σ') ∧ xF (S104 i) σ σ' := by
  have hP2 := h.1.1
  have hP6 := h.1.2.1
  have hR9 := h.1.2.2.1
  have cl : ∀ {σ σ'}, CL σ i X → xF (S104 i) σ σ' → CL σ' i X := fun h k => CL_F h k (fun r k hr => by unfold S104; omega) (fun j k => by unfold S104; omega)
  have inner : ∀ m r t B D σ, r + m = xaR X → CL σ i X → dC σ i D → bnd B D → B + 18 * m < 2000 → ∃ σ', run (d + 3) (104, 47, [some (.inr (.inr (1, (some i)))), some (.inl (nI (g))), none, some (.inl (nI (b))), some (.inl w), some (.inl (nI (t))), some (.inl (nI (r)))], [], σ) = run (d + 3) (104, 35, [some (.inr (.inr (1, (some i)))), some (.inl (nI (g))), none, some (.inl (nI (b))), some (.inl w), some (.inl (nI (t + 1))), none], [], σ') ∧ dC σ' i (fl (rr X (Ew X g wo)) m r D) ∧ bnd (B + 18 * m) (fl (rr X (Ew X g wo)) m r D) ∧ xF (S104 i) σ σ' := by
    intro m
    induction m with
    | zero =>
      intro r t B D σ hr h hD hB _
      have e : r = xaR X := by omega
      subst e
      refine ⟨σ, ?_, hD, hB, xF_refl σ⟩
      rw [B104_47]
      simp (disch := omega) only [n_cl, n_lt, n_le, n_eq, n_lt0, n_0lt, n_le0, n_eq0, n_gneq, n_ngeq, n_ng0, n_nglt, n_glt, n_gle, n_ltg, n_leg, n_gg, n_ge0, n_add, n_mul, n_rem, n_shl1, n_and, n_or, n_bit, n_not, n_not', n_B1, n_B0, n_BB, obind, xite_T, xite_F, xite_not, xite_same, oI_s, oI_n, Bool.false_eq_true, reduceCtorEq, eq_self, Classical.not_not, bI_T, bI_Fa, bI_0, bI_n0, bI_x, xb_0, xb_1, xite_bI, xite_bI', not_true_eq_false, not_false_eq_true, Nat.zero_add, Nat.add_zero, Nat.mul_zero, Nat.mul_one, Nat.one_mul, reduceIte, Nat.reduceEqDiff, Nat.reduceAdd, Nat.reduceMul, Nat.reduceSub, Nat.reduceLT, Nat.reduceLeDiff, Nat.reducePow, ite_true, ite_false, if_true, if_false, and_true, true_and, false_and, and_false, or_false, false_or, true_or, or_true, ne_eq, xite_t, xite_f, h.2.2.1]
    | succ m ih =>
      intro r t B D σ hr h hD hB hlt
      have hr' : r < xaR X := by omega
      have hb2 := h.1.2.2.2.2.2.1 r hr'
      show ∃ σ', _ ∧ dC σ' i (fl (rr X (Ew X g wo)) m (r + 1) (rr X (Ew X g wo) r D)) ∧ bnd (B + 18 * (m + 1)) (fl (rr X (Ew X g wo)) m (r + 1) (rr X (Ew X g wo) r D)) ∧ _
      have skip : Ew X g wo r = false → ∃ σ', run (d + 3) (104, 47, [some (.inr (.inr (1, (some i)))), some (.inl (nI (g))), none, some (.inl (nI (b))), some (.inl w), some (.inl (nI (t))), some (.inl (nI (r + 1)))], [], σ) = run (d + 3) (104, 35, [some (.inr (.inr (1, (some i)))), some (.inl (nI (g))), none, some (.inl (nI (b))), some (.inl w), some (.inl (nI (t + 1))), none], [], σ') ∧ dC σ' i (fl (rr X (Ew X g wo)) m (r + 1) (rr X (Ew X g wo) r D)) ∧ bnd (B + 18 * (m + 1)) (fl (rr X (Ew X g wo)) m (r + 1) (rr X (Ew X g wo) r D)) ∧ xF (S104 i) σ σ' := by
        intro hE
        have e : rr X (Ew X g wo) r D = D := by unfold rr; rw [hE]; rfl
        rw [e]
        obtain ⟨σ', f1, f2, f3, f4⟩ := ih (r + 1) t B D σ (by omega) h hD hB (by omega)
        exact ⟨σ', f1, f2, bnd_le f3 (by omega), f4⟩
      have use : Ew X g wo r = true → fre X g r = true → ¬ nI r = w → _ := fun hE hf hn => (by
        obtain ⟨e1, e2, e3⟩ := h.2.2.2.2.1 r hr'
        obtain ⟨σ1, f1, f2, f3⟩ := C105 (d + 1) σ (u := xaF X r) (v := xaT X r) (m := xaM X r) hD hB (by omega) (by omega) (by omega) (by omega)
        have h1 := cl h f3
        obtain ⟨e4, e5, e6⟩ := h1.2.2.2.2.1 r hr'
        obtain ⟨σ2, g1, g2, g3⟩ := C105 (d + 1) σ1 (u := xaT X r) (v := xaF X r) (m := xaM X r) f2 (rx_bnd hB (by omega)) (by omega) (by omega) (by omega) (by omega)
        have eD : rr X (Ew X g wo) r D = rx (xaT X r) (xaF X r) (xaM X r) (rx (xaF X r) (xaT X r) (xaM X r) D) := if_pos hE
        obtain ⟨σ3, k1, k2, k3, k4⟩ := ih (r + 1) t (B + 18) (rr X (Ew X g wo) r D) σ2 (by omega) (cl h1 g3) (by rw [eD]; exact g2) (by rw [eD]; exact bnd_le (rx_bnd (rx_bnd hB (by omega)) (by omega)) (by omega)) (by omega)
        refine ⟨σ3, ?_, k2, bnd_le k3 (by omega), xF_trans (xF_trans f3 g3) k4⟩
        rw [B104_47]
        simp (disch := omega) only [n_cl, n_lt, n_le, n_eq, n_lt0, n_0lt, n_le0, n_eq0, n_gneq, n_ngeq, n_ng0, n_nglt, n_glt, n_gle, n_ltg, n_leg, n_gg, n_ge0, n_add, n_mul, n_rem, n_shl1, n_and, n_or, n_bit, n_not, n_not', n_B1, n_B0, n_BB, obind, xite_T, xite_F, xite_not, xite_same, oI_s, oI_n, Bool.false_eq_true, reduceCtorEq, eq_self, Classical.not_not, bI_T, bI_Fa, bI_0, bI_n0, bI_x, xb_0, xb_1, xite_bI, xite_bI', not_true_eq_false, not_false_eq_true, Nat.zero_add, Nat.add_zero, Nat.mul_zero, Nat.mul_one, Nat.one_mul, reduceIte, Nat.reduceEqDiff, Nat.reduceAdd, Nat.reduceMul, Nat.reduceSub, Nat.reduceLT, Nat.reduceLeDiff, Nat.reducePow, ite_true, ite_false, if_true, if_false, and_true, true_and, false_and, and_false, or_false, false_or, true_or, or_true, ne_eq, xite_t, xite_f, h.2.2.1, hn, C100 _ _ h hr' hg, hf, e1, e2, e3, f1, e4, e5, e6, g1]
        exact k1 : ∃ σ', run (d + 3) (104, 47, [some (.inr (.inr (1, (some i)))), some (.inl (nI (g))), none, some (.inl (nI (b))), some (.inl w), some (.inl (nI (t))), some (.inl (nI (r)))], [], σ) = run (d + 3) (104, 35, [some (.inr (.inr (1, (some i)))), some (.inl (nI (g))), none, some (.inl (nI (b))), some (.inl w), some (.inl (nI (t + 1))), none], [], σ') ∧ dC σ' i (fl (rr X (Ew X g wo)) m (r + 1) (rr X (Ew X g wo) r D)) ∧ bnd (B + 18 * (m + 1)) (fl (rr X (Ew X g wo)) m (r + 1) (rr X (Ew X g wo) r D)) ∧ xF (S104 i) σ σ')
      have nofree : fre X g r = false → ¬ nI r = w → ∃ σ', run (d + 3) (104, 47, [some (.inr (.inr (1, (some i)))), some (.inl (nI (g))), none, some (.inl (nI (b))), some (.inl w), some (.inl (nI (t))), some (.inl (nI (r)))], [], σ) = run (d + 3) (104, 35, [some (.inr (.inr (1, (some i)))), some (.inl (nI (g))), none, some (.inl (nI (b))), some (.inl w), some (.inl (nI (t + 1))), none], [], σ') ∧ dC σ' i (fl (rr X (Ew X g wo)) m (r + 1) (rr X (Ew X g wo) r D)) ∧ bnd (B + 18 * (m + 1)) (fl (rr X (Ew X g wo)) m (r + 1) (rr X (Ew X g wo) r D)) ∧ xF (S104 i) σ σ' := by
        intro hf hn
        have hE : Ew X g wo r = false := by
          cases wo with
          | none => exact hf
          | some r0 => show (if r = r0 then false else fre X g r) = false; rw [hf]; split <;> rfl
        obtain ⟨σ', k1, k2⟩ := skip hE
        refine ⟨σ', ?_, k2⟩
        rw [B104_47]
        simp (disch := omega) only [n_cl, n_lt, n_le, n_eq, n_lt0, n_0lt, n_le0, n_eq0, n_gneq, n_ngeq, n_ng0, n_nglt, n_glt, n_gle, n_ltg, n_leg, n_gg, n_ge0, n_add, n_mul, n_rem, n_shl1, n_and, n_or, n_bit, n_not, n_not', n_B1, n_B0, n_BB, obind, xite_T, xite_F, xite_not, xite_same, oI_s, oI_n, Bool.false_eq_true, reduceCtorEq, eq_self, Classical.not_not, bI_T, bI_Fa, bI_0, bI_n0, bI_x, xb_0, xb_1, xite_bI, xite_bI', not_true_eq_false, not_false_eq_true, Nat.zero_add, Nat.add_zero, Nat.mul_zero, Nat.mul_one, Nat.one_mul, reduceIte, Nat.reduceEqDiff, Nat.reduceAdd, Nat.reduceMul, Nat.reduceSub, Nat.reduceLT, Nat.reduceLeDiff, Nat.reducePow, ite_true, ite_false, if_true, if_false, and_true, true_and, false_and, and_false, or_false, false_or, true_or, or_true, ne_eq, xite_t, xite_f, h.2.2.1, hn, C100 _ _ h hr' hg, hf]
        exact k1
      cases wo with
      | none =>
        have hw : w = -nI 1 := hw
        have hn : ¬ nI r = w := by rw [hw, n_gneq (by omega) (by omega) (by omega)]; exact fun h => h
        cases hf : fre X g r with
        | true => exact use hf hf hn
        | false => exact nofree hf hn
      | some r0 =>
        have hw : w = nI r0 := hw
        have hr0 := hwo r0 rfl
        by_cases he : r = r0
        · have hE : Ew X g (some r0) r = false := if_pos he
          obtain ⟨σ', k1, k2⟩ := skip hE
          refine ⟨σ', ?_, k2⟩
          rw [hw, ← he] at k1 ⊢
          rw [B104_47]
          simp (disch := omega) only [n_cl, n_lt, n_le, n_eq, n_lt0, n_0lt, n_le0, n_eq0, n_gneq, n_ngeq, n_ng0, n_nglt, n_glt, n_gle, n_ltg, n_leg, n_gg, n_ge0, n_add, n_mul, n_rem, n_shl1, n_and, n_or, n_bit, n_not, n_not', n_B1, n_B0, n_BB, obind, xite_T, xite_F, xite_not, xite_same, oI_s, oI_n, Bool.false_eq_true, reduceCtorEq, eq_self, Classical.not_not, bI_T, bI_Fa, bI_0, bI_n0, bI_x, xb_0, xb_1, xite_bI, xite_bI', not_true_eq_false, not_false_eq_true, Nat.zero_add, Nat.add_zero, Nat.mul_zero, Nat.mul_one, Nat.one_mul, reduceIte, Nat.reduceEqDiff, Nat.reduceAdd, Nat.reduceMul, Nat.reduceSub, Nat.reduceLT, Nat.reduceLeDiff, Nat.reducePow, ite_true, ite_false, if_true, if_false, and_true, true_and, false_and, and_false, or_false, false_or, true_or, or_true, ne_eq, xite_t, xite_f, h.2.2.1]
          exact k1
        · have hn : ¬ nI r = w := by rw [hw, n_eq (by omega) (by omega)]; exact he
          cases hf : fre X g r with
          | true => exact use (by show (if r = r0 then false else fre X g r) = true; rw [if_neg he]; exact hf) hf hn
          | false => exact nofree hf hn
  have outer : ∀ m t B D σ, t + m = xaP X → CL σ i X → dC σ i D → bnd B D → B + 162 * m < 1800 → ∃ σ', run (d + 3) (104, 35, [some (.inr (.inr (1, (some i)))), some (.inl (nI (g))), none, some (.inl (nI (b))), some (.inl w), some (.inl (nI (t))), none], [], σ) = some ((oI 4 (rk X (Ew X g wo) m D b), 0, none), σ') ∧ xF (S104 i) σ σ' := by
    intro m
    induction m with
    | zero =>
      intro t B D σ ht h hD hB _
      have e : t = xaP X := by omega
      subst e
      refine ⟨σ, ?_, xF_refl σ⟩
      rw [B104_35]
      simp (disch := omega) only [n_cl, n_lt, n_le, n_eq, n_lt0, n_0lt, n_le0, n_eq0, n_gneq, n_ngeq, n_ng0, n_nglt, n_glt, n_gle, n_ltg, n_leg, n_gg, n_ge0, n_add, n_mul, n_rem, n_shl1, n_and, n_or, n_bit, n_not, n_not', n_B1, n_B0, n_BB, obind, xite_T, xite_F, xite_not, xite_same, oI_s, oI_n, Bool.false_eq_true, reduceCtorEq, eq_self, Classical.not_not, bI_T, bI_Fa, bI_0, bI_n0, bI_x, xb_0, xb_1, xite_bI, xite_bI', not_true_eq_false, not_false_eq_true, Nat.zero_add, Nat.add_zero, Nat.mul_zero, Nat.mul_one, Nat.one_mul, reduceIte, Nat.reduceEqDiff, Nat.reduceAdd, Nat.reduceMul, Nat.reduceSub, Nat.reduceLT, Nat.reduceLeDiff, Nat.reducePow, ite_true, ite_false, if_true, if_false, and_true, true_and, false_and, and_false, or_false, false_or, true_or, or_true, ne_eq, xite_t, xite_f, h.2.1, hD b (by omega)]
      rfl
    | succ m ih =>
      intro t B D σ ht h hD hB hlt
      obtain ⟨σ1, f1, f2, f3, f4⟩ := inner (xaR X) 0 t B D σ (by omega) h hD hB (by omega)
      obtain ⟨σ2, g1, g2⟩ := ih (t + 1) (B + 162) (rn X (Ew X g wo) D) σ1 (by omega) (cl h f4) f2 (bnd_le f3 (by omega)) (by omega)
      refine ⟨σ2, ?_, xF_trans f4 g2⟩
      rw [B104_35]
      simp (disch := omega) only [n_cl, n_lt, n_le, n_eq, n_lt0, n_0lt, n_le0, n_eq0, n_gneq, n_ngeq, n_ng0, n_nglt, n_glt, n_gle, n_ltg, n_leg, n_gg, n_ge0, n_add, n_mul, n_rem, n_shl1, n_and, n_or, n_bit, n_not, n_not', n_B1, n_B0, n_BB, obind, xite_T, xite_F, xite_not, xite_same, oI_s, oI_n, Bool.false_eq_true, reduceCtorEq, eq_self, Classical.not_not, bI_T, bI_Fa, bI_0, bI_n0, bI_x, xb_0, xb_1, xite_bI, xite_bI', not_true_eq_false, not_false_eq_true, Nat.zero_add, Nat.add_zero, Nat.mul_zero, Nat.mul_one, Nat.one_mul, reduceIte, Nat.reduceEqDiff, Nat.reduceAdd, Nat.reduceMul, Nat.reduceSub, Nat.reduceLT, Nat.reduceLeDiff, Nat.reducePow, ite_true, ite_false, if_true, if_false, and_true, true_and, false_and, and_false, or_false, false_or, true_or, or_true, ne_eq, xite_t, xite_f, h.2.1]
      exact f1.trans g1
  have init : ∀ m p σ, p + m = 6 → CL σ i X → (∀ q, q < p → rI σ 7 i q = -nI 4) → ∃ σ', run (d + 3) (104, 3, [some (.inr (.inr (1, (some i)))), some (.inl (nI (g))), some (.inl (nI (a))), some (.inl (nI (b))), some (.inl w), some (.inl (nI (p))), none], [], σ) = run (d + 3) (104, 35, [some (.inr (.inr (1, (some i)))), some (.inl (nI (g))), none, some (.inl (nI (b))), some (.inl w), some (.inl (nI (1))), none], [], σ') ∧ dC σ' i (d0 a) ∧ xF (S104 i) σ σ' := by
    intro m
    induction m with
    | zero =>
      intro p σ hp h hv
      have e : p = 6 := by omega
      subst e
      refine ⟨wI σ 7 i a (nI 0), ?_, fun q hq => ?_, xF_wI (xF_refl σ) _ ⟨rfl, rfl⟩⟩
      · rw [B104_3]
        simp (disch := omega) only [n_cl, n_lt, n_le, n_eq, n_lt0, n_0lt, n_le0, n_eq0, n_gneq, n_ngeq, n_ng0, n_nglt, n_glt, n_gle, n_ltg, n_leg, n_gg, n_ge0, n_add, n_mul, n_rem, n_shl1, n_and, n_or, n_bit, n_not, n_not', n_B1, n_B0, n_BB, obind, xite_T, xite_F, xite_not, xite_same, oI_s, oI_n, Bool.false_eq_true, reduceCtorEq, eq_self, Classical.not_not, bI_T, bI_Fa, bI_0, bI_n0, bI_x, xb_0, xb_1, xite_bI, xite_bI', not_true_eq_false, not_false_eq_true, Nat.zero_add, Nat.add_zero, Nat.mul_zero, Nat.mul_one, Nat.one_mul, reduceIte, Nat.reduceEqDiff, Nat.reduceAdd, Nat.reduceMul, Nat.reduceSub, Nat.reduceLT, Nat.reduceLeDiff, Nat.reducePow, ite_true, ite_false, if_true, if_false, and_true, true_and, false_and, and_false, or_false, false_or, true_or, or_true, ne_eq, xite_t, xite_f, ]
      · rw [w_I1]
        unfold d0
        show (if q = a then _ else _) = oI 4 (if q = a then _ else _)
        by_cases c : q = a
        · rw [if_pos c, if_pos c]; rfl
        · rw [if_neg c, if_neg c]; exact hv q hq
    | succ m ih =>
      intro p σ hp h hv
      have hF : xF (S104 i) σ (wI σ 7 i p (-nI 4)) := xF_wI (xF_refl σ) _ ⟨rfl, rfl⟩
      obtain ⟨σ', f1, f2, f3⟩ := ih (p + 1) (wI σ 7 i p (-nI 4)) (by omega) (cl h hF) (fun q hq => by
        rw [w_I1]
        show (if q = p then _ else _) = _
        by_cases c : q = p
        · rw [if_pos c]
        · rw [if_neg c]; exact hv q (by omega))
      refine ⟨σ', ?_, f2, xF_trans hF f3⟩
      rw [B104_3]
      simp (disch := omega) only [n_cl, n_lt, n_le, n_eq, n_lt0, n_0lt, n_le0, n_eq0, n_gneq, n_ngeq, n_ng0, n_nglt, n_glt, n_gle, n_ltg, n_leg, n_gg, n_ge0, n_add, n_mul, n_rem, n_shl1, n_and, n_or, n_bit, n_not, n_not', n_B1, n_B0, n_BB, obind, xite_T, xite_F, xite_not, xite_same, oI_s, oI_n, Bool.false_eq_true, reduceCtorEq, eq_self, Classical.not_not, bI_T, bI_Fa, bI_0, bI_n0, bI_x, xb_0, xb_1, xite_bI, xite_bI', not_true_eq_false, not_false_eq_true, Nat.zero_add, Nat.add_zero, Nat.mul_zero, Nat.mul_one, Nat.one_mul, reduceIte, Nat.reduceEqDiff, Nat.reduceAdd, Nat.reduceMul, Nat.reduceSub, Nat.reduceLT, Nat.reduceLeDiff, Nat.reducePow, ite_true, ite_false, if_true, if_false, and_true, true_and, false_and, and_false, or_false, false_or, true_or, or_true, ne_eq, xite_t, xite_f, ]
      exact f1
  obtain ⟨σ1, f1, f2, f3⟩ := init 6 0 σ (by omega) h (fun q hq => by omega)
  obtain ⟨σ2, g1, g2⟩ := outer (xaP X - 1) 1 0 (d0 a) σ1 (by omega) (cl h f3) f2 (fun p x hx => by
    unfold d0 at hx
    by_cases c : p = a
    · rw [if_pos c] at hx; cases hx; omega
    · rw [if_neg c] at hx; cases hx) (by omega)
  refine ⟨σ2, ?_, xF_trans f3 g2⟩
  rw [B104_0, f1, g1]
  unfold dst
  rw [rk_same h.1 ha hb (by omega) (by omega : xaP X ≤ 6 + 1)]
def vI : Option Nat → Nat
  | none => 1000
  | some x => x
def dM (σ : xS) (D : mD) : Prop := ∀ p, p < 6 → rI σ 33 0 p = nI (vI (D p))
theorem vI_le {B : Nat} {D : mD} (h : bnd B D) (hB : B < 1000) (p : Nat) : vI (D p) ≤ 1000 := by
  cases e : D p with
  | none => exact Nat.le_refl _
  | some x => have := h p x e; show x ≤ 1000; omega
/-- the reference's bettering -/
theorem rx_v {B u v m : Nat} {D : mD} (h : bnd B D) (hB : B + 9 < 1000) (hm : m ≤ 9) : (vI (D v) ≤ vI (D u) + m ∧ rx u v m D = D) ∨ (¬ vI (D v) ≤ vI (D u) + m ∧ ∀ p, vI (rx u v m D p) = if p = v then vI (D u) + m else vI (D p)) := by
  rcases rx_cases u v m D with ⟨hu, e⟩ | ⟨x, hu, ⟨y, hv, hy, e⟩ | ⟨hv, e⟩⟩
  · refine Or.inl ⟨?_, e⟩
    rw [hu]
    have := vI_le h (by omega) v
    show vI (D v) ≤ 1000 + m
    omega
  · refine Or.inl ⟨?_, e⟩
    rw [hu, hv]
    exact hy
  · refine Or.inr ⟨?_, fun p => ?_⟩
    · rw [hu]
      have b := h u x hu
      cases e2 : D v with
      | none => show ¬ 1000 ≤ x + m; omega
      | some y => have := hv y e2; show ¬ y ≤ x + m; omega
    · rw [e, hu]
      show vI (if p = v then some (x + m) else D p) = if p = v then x + m else vI (D p)
      split <;> rfl
def S40 (r _ _ : Nat) : Prop := r = 33
theorem M40 (d : Nat) (σ : xS) {g a b : Nat} {X : mX} (h : ML (rI σ 18 0) (xaR X) X) (hg : g < 4) (ha : a < 6) (hb : b < 6) :
    ∃ σ', run (d + 4) (xentry 40 [.inr (.inr (17, (some 0))), .inl (nI g), .inl (nI a), .inl (nI b)] σ) = some ((oI 4 (dst X (fre X g) a b), 0, none), σ') ∧ xF S40 σ σ' := by
  have hR9 := h.1.2.2.1
  have hP6 := h.1.2.1
  have ml : ∀ {σ σ'}, ML (rI σ 18 0) (xaR X) X → xF S40 σ σ' → ML (rI σ' 18 0) (xaR X) X := fun h k => by
    rw [xF_I k (fun k => by unfold S40; omega)]; exact h
  have upd : ∀ {σ : xS} {D : mD} {u v m B : Nat}, dM σ D → bnd B D → (∀ p, vI (rx u v m D p) = if p = v then vI (D u) + m else vI (D p)) → dM (wI σ 33 0 v (nI (vI (D u) + m))) (rx u v m D) := by
    intro σ D u v m B hD hB hv p hp
    rw [hv p, w_I1]
    show (if p = v then _ else _) = _
    by_cases c : p = v
    · rw [if_pos c, if_pos c]
    · rw [if_neg c, if_neg c]; exact hD p hp
  have inner : ∀ m r t B D σ, r + m = xaR X → ML (rI σ 18 0) (xaR X) X → dM σ D → bnd B D → B + 18 * m < 990 → t < 10 → ∃ σ', run (d + 4) (40, 49, [some (.inr (.inr (17, (some 0)))), some (.inl (nI (g))), none, some (.inl (nI (b))), some (.inl (nI (t))), some (.inl (nI (r))), none, none, none], [], σ) = run (d + 4) (40, 39, [some (.inr (.inr (17, (some 0)))), some (.inl (nI (g))), none, some (.inl (nI (b))), some (.inl (nI (t + 1))), none, none, none, none], [], σ') ∧ dM σ' (fl (rr X (fre X g)) m r D) ∧ bnd (B + 18 * m) (fl (rr X (fre X g)) m r D) ∧ xF S40 σ σ' := by
    intro m
    induction m with
    | zero =>
      intro r t B D σ hr h hD hB _ _
      have e : r = xaR X := by omega
      subst e
      refine ⟨σ, ?_, hD, hB, xF_refl σ⟩
      rw [B40_49]
      simp (disch := omega) only [n_cl, n_lt, n_le, n_eq, n_lt0, n_0lt, n_le0, n_eq0, n_gneq, n_ngeq, n_ng0, n_nglt, n_glt, n_gle, n_ltg, n_leg, n_gg, n_ge0, n_add, n_mul, n_rem, n_shl1, n_and, n_or, n_bit, n_not, n_not', n_B1, n_B0, n_BB, obind, xite_T, xite_F, xite_not, xite_same, oI_s, oI_n, Bool.false_eq_true, reduceCtorEq, eq_self, Classical.not_not, bI_T, bI_Fa, bI_0, bI_n0, bI_x, xb_0, xb_1, xite_bI, xite_bI', not_true_eq_false, not_false_eq_true, Nat.zero_add, Nat.add_zero, Nat.mul_zero, Nat.mul_one, Nat.one_mul, reduceIte, Nat.reduceEqDiff, Nat.reduceAdd, Nat.reduceMul, Nat.reduceSub, Nat.reduceLT, Nat.reduceLeDiff, Nat.reducePow, ite_true, ite_false, if_true, if_false, and_true, true_and, false_and, and_false, or_false, false_or, true_or, or_true, ne_eq, xite_t, xite_f, h.2.2.1]
    | succ m ih =>
      intro r t B D σ hr h hD hB hlt ht
      have hr' : r < xaR X := by omega
      have hb2 := h.1.2.2.2.2.2.1 r hr'
      show ∃ σ', _ ∧ dM σ' (fl (rr X (fre X g)) m (r + 1) (rr X (fre X g) r D)) ∧ bnd (B + 18 * (m + 1)) (fl (rr X (fre X g)) m (r + 1) (rr X (fre X g) r D)) ∧ _
      by_cases hf : fre X g r = true
      · have eD : rr X (fre X g) r D = rx (xaT X r) (xaF X r) (xaM X r) (rx (xaF X r) (xaT X r) (xaM X r) D) := if_pos hf
        have hB1 : bnd (B + 9) (rx (xaF X r) (xaT X r) (xaM X r) D) := rx_bnd hB (by omega)
        have second : ∀ σ1, ML (rI σ1 18 0) (xaR X) X → dM σ1 (rx (xaF X r) (xaT X r) (xaM X r) D) → xF S40 σ σ1 → ∃ σ', run (d + 4) (40, 137, [some (.inr (.inr (17, (some 0)))), some (.inl (nI (g))), none, some (.inl (nI (b))), some (.inl (nI (t))), some (.inl (nI (r))), some (.inl (nI (xaF X r))), some (.inl (nI (xaT X r))), some (.inl (nI (xaM X r)))], [], σ1) = run (d + 4) (40, 39, [some (.inr (.inr (17, (some 0)))), some (.inl (nI (g))), none, some (.inl (nI (b))), some (.inl (nI (t + 1))), none, none, none, none], [], σ') ∧ dM σ' (fl (rr X (fre X g)) m (r + 1) (rr X (fre X g) r D)) ∧ bnd (B + 18 * (m + 1)) (fl (rr X (fre X g)) m (r + 1) (rr X (fre X g) r D)) ∧ xF S40 σ σ' := by
          intro σ1 h1 hD1 hF1
          have q1 := hD1 (xaF X r) (by omega)
          have q2 := hD1 (xaT X r) (by omega)
          have z1 := vI_le hB1 (by omega) (xaF X r)
          have z2 := vI_le hB1 (by omega) (xaT X r)
          rcases rx_v (u := xaT X r) (v := xaF X r) (m := xaM X r) hB1 (by omega) (by omega) with ⟨c1, c2⟩ | ⟨c1, c2⟩
          · obtain ⟨σ3, k1, k2, k3, k4⟩ := ih (r + 1) t (B + 18) (rr X (fre X g) r D) σ1 (by omega) h1 (by rw [eD, c2]; exact hD1) (by rw [eD]; exact bnd_le (rx_bnd hB1 (by omega)) (by omega)) (by omega) ht
            refine ⟨σ3, ?_, k2, bnd_le k3 (by omega), xF_trans hF1 k4⟩
            rw [B40_137]
            simp (disch := omega) only [n_cl, n_lt, n_le, n_eq, n_lt0, n_0lt, n_le0, n_eq0, n_gneq, n_ngeq, n_ng0, n_nglt, n_glt, n_gle, n_ltg, n_leg, n_gg, n_ge0, n_add, n_mul, n_rem, n_shl1, n_and, n_or, n_bit, n_not, n_not', n_B1, n_B0, n_BB, obind, xite_T, xite_F, xite_not, xite_same, oI_s, oI_n, Bool.false_eq_true, reduceCtorEq, eq_self, Classical.not_not, bI_T, bI_Fa, bI_0, bI_n0, bI_x, xb_0, xb_1, xite_bI, xite_bI', not_true_eq_false, not_false_eq_true, Nat.zero_add, Nat.add_zero, Nat.mul_zero, Nat.mul_one, Nat.one_mul, reduceIte, Nat.reduceEqDiff, Nat.reduceAdd, Nat.reduceMul, Nat.reduceSub, Nat.reduceLT, Nat.reduceLeDiff, Nat.reducePow, ite_true, ite_false, if_true, if_false, and_true, true_and, false_and, and_false, or_false, false_or, true_or, or_true, ne_eq, xite_t, xite_f, q1, q2]
            exact k1
          · have hw : xF S40 σ1 (wI σ1 33 0 (xaF X r) (nI (vI (rx (xaF X r) (xaT X r) (xaM X r) D (xaT X r)) + xaM X r))) := xF_wI (xF_refl σ1) _ rfl
            obtain ⟨σ3, k1, k2, k3, k4⟩ := ih (r + 1) t (B + 18) (rr X (fre X g) r D) _ (by omega) (ml h1 hw) (by rw [eD]; exact upd hD1 hB1 c2) (by rw [eD]; exact bnd_le (rx_bnd hB1 (by omega)) (by omega)) (by omega) ht
            refine ⟨σ3, ?_, k2, bnd_le k3 (by omega), xF_trans (xF_trans hF1 hw) k4⟩
            rw [B40_137]
            simp (disch := omega) only [n_cl, n_lt, n_le, n_eq, n_lt0, n_0lt, n_le0, n_eq0, n_gneq, n_ngeq, n_ng0, n_nglt, n_glt, n_gle, n_ltg, n_leg, n_gg, n_ge0, n_add, n_mul, n_rem, n_shl1, n_and, n_or, n_bit, n_not, n_not', n_B1, n_B0, n_BB, obind, xite_T, xite_F, xite_not, xite_same, oI_s, oI_n, Bool.false_eq_true, reduceCtorEq, eq_self, Classical.not_not, bI_T, bI_Fa, bI_0, bI_n0, bI_x, xb_0, xb_1, xite_bI, xite_bI', not_true_eq_false, not_false_eq_true, Nat.zero_add, Nat.add_zero, Nat.mul_zero, Nat.mul_one, Nat.one_mul, reduceIte, Nat.reduceEqDiff, Nat.reduceAdd, Nat.reduceMul, Nat.reduceSub, Nat.reduceLT, Nat.reduceLeDiff, Nat.reducePow, ite_true, ite_false, if_true, if_false, and_true, true_and, false_and, and_false, or_false, false_or, true_or, or_true, ne_eq, xite_t, xite_f, q1, q2]
            exact k1
        have q1 := hD (xaF X r) (by omega)
        have q2 := hD (xaT X r) (by omega)
        have z1 := vI_le hB (by omega) (xaF X r)
        have z2 := vI_le hB (by omega) (xaT X r)
        rcases rx_v (u := xaF X r) (v := xaT X r) (m := xaM X r) hB (by omega) (by omega) with ⟨c1, c2⟩ | ⟨c1, c2⟩
        · obtain ⟨σ3, k1, k2⟩ := second σ h (by rw [c2]; exact hD) (xF_refl σ)
          refine ⟨σ3, ?_, k2⟩
          rw [B40_49]
          simp (disch := omega) only [n_cl, n_lt, n_le, n_eq, n_lt0, n_0lt, n_le0, n_eq0, n_gneq, n_ngeq, n_ng0, n_nglt, n_glt, n_gle, n_ltg, n_leg, n_gg, n_ge0, n_add, n_mul, n_rem, n_shl1, n_and, n_or, n_bit, n_not, n_not', n_B1, n_B0, n_BB, obind, xite_T, xite_F, xite_not, xite_same, oI_s, oI_n, Bool.false_eq_true, reduceCtorEq, eq_self, Classical.not_not, bI_T, bI_Fa, bI_0, bI_n0, bI_x, xb_0, xb_1, xite_bI, xite_bI', not_true_eq_false, not_false_eq_true, Nat.zero_add, Nat.add_zero, Nat.mul_zero, Nat.mul_one, Nat.one_mul, reduceIte, Nat.reduceEqDiff, Nat.reduceAdd, Nat.reduceMul, Nat.reduceSub, Nat.reduceLT, Nat.reduceLeDiff, Nat.reducePow, ite_true, ite_false, if_true, if_false, and_true, true_and, false_and, and_false, or_false, false_or, true_or, or_true, ne_eq, xite_t, xite_f, h.2.2.1, M17 _ _ h hr' hg, hf, M8_0 _ _ h hr', M8_1 _ _ h hr', M8_2 _ _ h hr', q1, q2]
          exact k1
        · have hw : xF S40 σ (wI σ 33 0 (xaT X r) (nI (vI (D (xaF X r)) + xaM X r))) := xF_wI (xF_refl σ) _ rfl
          obtain ⟨σ3, k1, k2⟩ := second _ (ml h hw) (upd hD hB c2) hw
          refine ⟨σ3, ?_, k2⟩
          rw [B40_49]
          simp (disch := omega) only [n_cl, n_lt, n_le, n_eq, n_lt0, n_0lt, n_le0, n_eq0, n_gneq, n_ngeq, n_ng0, n_nglt, n_glt, n_gle, n_ltg, n_leg, n_gg, n_ge0, n_add, n_mul, n_rem, n_shl1, n_and, n_or, n_bit, n_not, n_not', n_B1, n_B0, n_BB, obind, xite_T, xite_F, xite_not, xite_same, oI_s, oI_n, Bool.false_eq_true, reduceCtorEq, eq_self, Classical.not_not, bI_T, bI_Fa, bI_0, bI_n0, bI_x, xb_0, xb_1, xite_bI, xite_bI', not_true_eq_false, not_false_eq_true, Nat.zero_add, Nat.add_zero, Nat.mul_zero, Nat.mul_one, Nat.one_mul, reduceIte, Nat.reduceEqDiff, Nat.reduceAdd, Nat.reduceMul, Nat.reduceSub, Nat.reduceLT, Nat.reduceLeDiff, Nat.reducePow, ite_true, ite_false, if_true, if_false, and_true, true_and, false_and, and_false, or_false, false_or, true_or, or_true, ne_eq, xite_t, xite_f, h.2.2.1, M17 _ _ h hr' hg, hf, M8_0 _ _ h hr', M8_1 _ _ h hr', M8_2 _ _ h hr', q1, q2]
          exact k1
      · have e : rr X (fre X g) r D = D := if_neg hf
        rw [e]
        obtain ⟨σ', f1, f2, f3, f4⟩ := ih (r + 1) t B D σ (by omega) h hD hB (by omega) ht
        refine ⟨σ', ?_, f2, bnd_le f3 (by omega), f4⟩
        rw [B40_49]
        simp (disch := omega) only [n_cl, n_lt, n_le, n_eq, n_lt0, n_0lt, n_le0, n_eq0, n_gneq, n_ngeq, n_ng0, n_nglt, n_glt, n_gle, n_ltg, n_leg, n_gg, n_ge0, n_add, n_mul, n_rem, n_shl1, n_and, n_or, n_bit, n_not, n_not', n_B1, n_B0, n_BB, obind, xite_T, xite_F, xite_not, xite_same, oI_s, oI_n, Bool.false_eq_true, reduceCtorEq, eq_self, Classical.not_not, bI_T, bI_Fa, bI_0, bI_n0, bI_x, xb_0, xb_1, xite_bI, xite_bI', not_true_eq_false, not_false_eq_true, Nat.zero_add, Nat.add_zero, Nat.mul_zero, Nat.mul_one, Nat.one_mul, reduceIte, Nat.reduceEqDiff, Nat.reduceAdd, Nat.reduceMul, Nat.reduceSub, Nat.reduceLT, Nat.reduceLeDiff, Nat.reducePow, ite_true, ite_false, if_true, if_false, and_true, true_and, false_and, and_false, or_false, false_or, true_or, or_true, ne_eq, xite_t, xite_f, h.2.2.1, M17 _ _ h hr' hg, hf]
        exact f1
  have outer : ∀ m t B D σ, t + m = 6 → ML (rI σ 18 0) (xaR X) X → dM σ D → bnd B D → B + 162 * m < 980 → ∃ σ', run (d + 4) (40, 39, [some (.inr (.inr (17, (some 0)))), some (.inl (nI (g))), none, some (.inl (nI (b))), some (.inl (nI (t))), none, none, none, none], [], σ) = some ((oI 4 (rk X (fre X g) m D b), 0, none), σ') ∧ xF S40 σ σ' := by
    intro m
    induction m with
    | zero =>
      intro t B D σ ht h hD hB _
      have e : t = 6 := by omega
      subst e
      refine ⟨σ, ?_, xF_refl σ⟩
      have q := hD b hb
      rw [B40_39]
      show _ = some ((oI 4 (D b), 0, none), σ)
      cases e : D b with
      | none =>
        rw [e] at q
        have q : rI σ 33 0 b = nI 1000 := q
        simp (disch := omega) only [n_cl, n_lt, n_le, n_eq, n_lt0, n_0lt, n_le0, n_eq0, n_gneq, n_ngeq, n_ng0, n_nglt, n_glt, n_gle, n_ltg, n_leg, n_gg, n_ge0, n_add, n_mul, n_rem, n_shl1, n_and, n_or, n_bit, n_not, n_not', n_B1, n_B0, n_BB, obind, xite_T, xite_F, xite_not, xite_same, oI_s, oI_n, Bool.false_eq_true, reduceCtorEq, eq_self, Classical.not_not, bI_T, bI_Fa, bI_0, bI_n0, bI_x, xb_0, xb_1, xite_bI, xite_bI', not_true_eq_false, not_false_eq_true, Nat.zero_add, Nat.add_zero, Nat.mul_zero, Nat.mul_one, Nat.one_mul, reduceIte, Nat.reduceEqDiff, Nat.reduceAdd, Nat.reduceMul, Nat.reduceSub, Nat.reduceLT, Nat.reduceLeDiff, Nat.reducePow, ite_true, ite_false, if_true, if_false, and_true, true_and, false_and, and_false, or_false, false_or, true_or, or_true, ne_eq, xite_t, xite_f, q]
      | some x =>
        have := hB b x e
        rw [e] at q
        have q : rI σ 33 0 b = nI x := q
        simp (disch := omega) only [n_cl, n_lt, n_le, n_eq, n_lt0, n_0lt, n_le0, n_eq0, n_gneq, n_ngeq, n_ng0, n_nglt, n_glt, n_gle, n_ltg, n_leg, n_gg, n_ge0, n_add, n_mul, n_rem, n_shl1, n_and, n_or, n_bit, n_not, n_not', n_B1, n_B0, n_BB, obind, xite_T, xite_F, xite_not, xite_same, oI_s, oI_n, Bool.false_eq_true, reduceCtorEq, eq_self, Classical.not_not, bI_T, bI_Fa, bI_0, bI_n0, bI_x, xb_0, xb_1, xite_bI, xite_bI', not_true_eq_false, not_false_eq_true, Nat.zero_add, Nat.add_zero, Nat.mul_zero, Nat.mul_one, Nat.one_mul, reduceIte, Nat.reduceEqDiff, Nat.reduceAdd, Nat.reduceMul, Nat.reduceSub, Nat.reduceLT, Nat.reduceLeDiff, Nat.reducePow, ite_true, ite_false, if_true, if_false, and_true, true_and, false_and, and_false, or_false, false_or, true_or, or_true, ne_eq, xite_t, xite_f, q]
    | succ m ih =>
      intro t B D σ ht h hD hB hlt
      obtain ⟨σ1, f1, f2, f3, f4⟩ := inner (xaR X) 0 t B D σ (by omega) h hD hB (by omega) (by omega)
      obtain ⟨σ2, g1, g2⟩ := ih (t + 1) (B + 162) (rn X (fre X g) D) σ1 (by omega) (ml h f4) f2 (bnd_le f3 (by omega)) (by omega)
      refine ⟨σ2, ?_, xF_trans f4 g2⟩
      rw [B40_39]
      simp (disch := omega) only [n_cl, n_lt, n_le, n_eq, n_lt0, n_0lt, n_le0, n_eq0, n_gneq, n_ngeq, n_ng0, n_nglt, n_glt, n_gle, n_ltg, n_leg, n_gg, n_ge0, n_add, n_mul, n_rem, n_shl1, n_and, n_or, n_bit, n_not, n_not', n_B1, n_B0, n_BB, obind, xite_T, xite_F, xite_not, xite_same, oI_s, oI_n, Bool.false_eq_true, reduceCtorEq, eq_self, Classical.not_not, bI_T, bI_Fa, bI_0, bI_n0, bI_x, xb_0, xb_1, xite_bI, xite_bI', not_true_eq_false, not_false_eq_true, Nat.zero_add, Nat.add_zero, Nat.mul_zero, Nat.mul_one, Nat.one_mul, reduceIte, Nat.reduceEqDiff, Nat.reduceAdd, Nat.reduceMul, Nat.reduceSub, Nat.reduceLT, Nat.reduceLeDiff, Nat.reducePow, ite_true, ite_false, if_true, if_false, and_true, true_and, false_and, and_false, or_false, false_or, true_or, or_true, ne_eq, xite_t, xite_f, ]
      exact f1.trans g1
  have init : ∀ m p σ, p + m = 6 → ML (rI σ 18 0) (xaR X) X → (∀ q, q < p → rI σ 33 0 q = nI (vI (d0 a q))) → ∃ σ', run (d + 4) (40, 3, [some (.inr (.inr (17, (some 0)))), some (.inl (nI (g))), some (.inl (nI (a))), some (.inl (nI (b))), some (.inl (nI (p))), none, none, none, none], [], σ) = run (d + 4) (40, 39, [some (.inr (.inr (17, (some 0)))), some (.inl (nI (g))), none, some (.inl (nI (b))), some (.inl (nI (0))), none, none, none, none], [], σ') ∧ dM σ' (d0 a) ∧ xF S40 σ σ' := by
    intro m
    induction m with
    | zero =>
      intro p σ hp h hv
      have e : p = 6 := by omega
      subst e
      refine ⟨σ, ?_, hv, xF_refl σ⟩
      rw [B40_3]
      simp (disch := omega) only [n_cl, n_lt, n_le, n_eq, n_lt0, n_0lt, n_le0, n_eq0, n_gneq, n_ngeq, n_ng0, n_nglt, n_glt, n_gle, n_ltg, n_leg, n_gg, n_ge0, n_add, n_mul, n_rem, n_shl1, n_and, n_or, n_bit, n_not, n_not', n_B1, n_B0, n_BB, obind, xite_T, xite_F, xite_not, xite_same, oI_s, oI_n, Bool.false_eq_true, reduceCtorEq, eq_self, Classical.not_not, bI_T, bI_Fa, bI_0, bI_n0, bI_x, xb_0, xb_1, xite_bI, xite_bI', not_true_eq_false, not_false_eq_true, Nat.zero_add, Nat.add_zero, Nat.mul_zero, Nat.mul_one, Nat.one_mul, reduceIte, Nat.reduceEqDiff, Nat.reduceAdd, Nat.reduceMul, Nat.reduceSub, Nat.reduceLT, Nat.reduceLeDiff, Nat.reducePow, ite_true, ite_false, if_true, if_false, and_true, true_and, false_and, and_false, or_false, false_or, true_or, or_true, ne_eq, xite_t, xite_f, ]
    | succ m ih =>
      intro p σ hp h hv
      have hF : ∀ x, xF S40 σ (wI σ 33 0 p x) := fun x => xF_wI (xF_refl σ) _ rfl
      by_cases c : p = a
      · obtain ⟨σ', f1, f2, f3⟩ := ih (p + 1) (wI σ 33 0 p (nI 0)) (by omega) (ml h (hF _)) (fun q hq => by
          rw [w_I1]
          show (if q = p then _ else _) = _
          by_cases c2 : q = p
          · rw [if_pos c2]
            have : d0 a q = some 0 := if_pos (by omega)
            rw [this]; rfl
          · rw [if_neg c2]; exact hv q (by omega))
        refine ⟨σ', ?_, f2, xF_trans (hF _) f3⟩
        rw [B40_3]
        simp (disch := omega) only [n_cl, n_lt, n_le, n_eq, n_lt0, n_0lt, n_le0, n_eq0, n_gneq, n_ngeq, n_ng0, n_nglt, n_glt, n_gle, n_ltg, n_leg, n_gg, n_ge0, n_add, n_mul, n_rem, n_shl1, n_and, n_or, n_bit, n_not, n_not', n_B1, n_B0, n_BB, obind, xite_T, xite_F, xite_not, xite_same, oI_s, oI_n, Bool.false_eq_true, reduceCtorEq, eq_self, Classical.not_not, bI_T, bI_Fa, bI_0, bI_n0, bI_x, xb_0, xb_1, xite_bI, xite_bI', not_true_eq_false, not_false_eq_true, Nat.zero_add, Nat.add_zero, Nat.mul_zero, Nat.mul_one, Nat.one_mul, reduceIte, Nat.reduceEqDiff, Nat.reduceAdd, Nat.reduceMul, Nat.reduceSub, Nat.reduceLT, Nat.reduceLeDiff, Nat.reducePow, ite_true, ite_false, if_true, if_false, and_true, true_and, false_and, and_false, or_false, false_or, true_or, or_true, ne_eq, xite_t, xite_f, c]
        rw [c] at f1
        exact f1
      · obtain ⟨σ', f1, f2, f3⟩ := ih (p + 1) (wI σ 33 0 p (nI 1000)) (by omega) (ml h (hF _)) (fun q hq => by
          rw [w_I1]
          show (if q = p then _ else _) = _
          by_cases c2 : q = p
          · rw [if_pos c2]
            have : d0 a q = none := if_neg (by omega)
            rw [this]; rfl
          · rw [if_neg c2]; exact hv q (by omega))
        refine ⟨σ', ?_, f2, xF_trans (hF _) f3⟩
        rw [B40_3]
        simp (disch := omega) only [n_cl, n_lt, n_le, n_eq, n_lt0, n_0lt, n_le0, n_eq0, n_gneq, n_ngeq, n_ng0, n_nglt, n_glt, n_gle, n_ltg, n_leg, n_gg, n_ge0, n_add, n_mul, n_rem, n_shl1, n_and, n_or, n_bit, n_not, n_not', n_B1, n_B0, n_BB, obind, xite_T, xite_F, xite_not, xite_same, oI_s, oI_n, Bool.false_eq_true, reduceCtorEq, eq_self, Classical.not_not, bI_T, bI_Fa, bI_0, bI_n0, bI_x, xb_0, xb_1, xite_bI, xite_bI', not_true_eq_false, not_false_eq_true, Nat.zero_add, Nat.add_zero, Nat.mul_zero, Nat.mul_one, Nat.one_mul, reduceIte, Nat.reduceEqDiff, Nat.reduceAdd, Nat.reduceMul, Nat.reduceSub, Nat.reduceLT, Nat.reduceLeDiff, Nat.reducePow, ite_true, ite_false, if_true, if_false, and_true, true_and, false_and, and_false, or_false, false_or, true_or, or_true, ne_eq, xite_t, xite_f, c]
        exact f1
  obtain ⟨σ1, f1, f2, f3⟩ := init 6 0 σ (by omega) h (fun q hq => by omega)
  obtain ⟨σ2, g1, g2⟩ := outer 6 0 0 (d0 a) σ1 (by omega) (ml h f3) f2 (fun p x hx => by
    unfold d0 at hx
    by_cases c : p = a
    · rw [if_pos c] at hx; cases hx; omega
    · rw [if_neg c] at hx; cases hx) (by omega)
  refine ⟨σ2, ?_, xF_trans f3 g2⟩
  rw [B40_0, f1, g1]
  rfl
theorem S104_S (r j k : Nat) (h : S104 0 r j k) : Scr r j k := by unfold S104 at h; unfold Scr; omega
theorem CL_7 {σ σ' : xS} {i : Nat} {X : mX} (h : CL σ i X) (k : xF (S104 i) σ σ') : CL σ' i X := CL_F h k (fun r k hr => by unfold S104; omega) (fun j k => by unfold S104; omega)
theorem S40_X (r j k : Nat) (h : S40 r j k) : SmX r j k := by unfold S40 at h; unfold SmX; omega
theorem dst_bnd {X : mX} {E : Nat → Bool} {a b x : Nat} (hX : WX (xaR X) X) (h : dst X E a b = some x) : x ≤ 972 := by
  have hR9 := hX.2.2.1
  have f1 : ∀ n r B D, r + n ≤ xaR X → bnd B D → bnd (B + 18 * n) (fl (rr X E) n r D) := by
    intro n
    induction n with
    | zero => intro r B D _ h; exact h
    | succ n ih =>
      intro r B D hr h
      have hb := hX.2.2.2.2.2.1 r (by omega)
      refine bnd_le (ih (r + 1) (B + 18) (rr X E r D) (by omega) ?_) (by omega)
      unfold rr
      split
      · exact rx_bnd (rx_bnd h (by omega)) (by omega)
      · exact bnd_le h (by omega)
  have f2 : ∀ k B D, bnd B D → bnd (B + 162 * k) (rk X E k D) := by
    intro k
    induction k with
    | zero => intro B D h; exact h
    | succ k ih => intro B D h; exact bnd_le (ih (B + 162) (rn X E D) (bnd_le (f1 (xaR X) 0 B D (by omega) h) (by omega))) (by omega)
  have := f2 6 0 (d0 a) (fun p x hx => by
    unfold d0 at hx
    by_cases c : p = a
    · rw [if_pos c] at hx; cases hx; omega
    · rw [if_neg c] at hx; cases hx) b x h
  omega
theorem duo_far (d : Nat) (S : mG) (hX : WX (xaR S.1) S.1) (g a b : Int32) : Duo (d + 60) (fun σ => xentry 146 [.inr (.inr (0, (some 0))), .inl g, .inl a, .inl b] σ) (fun σ => xentry 42 [.inr (.inr (17, (some 0))), .inl g, .inl a, .inl b] σ) S := by
  have hP6 := hX.2.1
  by_cases h1 : errand S.1 g a b
  · obtain ⟨g', a', b', e1, e2, e3, hg, ha, hb, hab⟩ := errand_of hX h1
    subst e1 e2 e3
    refine ⟨oI 4 (dst S.1 (fre S.1 g') a' b'), S, fun σ h => ?_, fun σ h => ?_⟩
    · obtain ⟨σ1, f1, f2⟩ := C104 (d + 56) σ (wo := none) (w := -nI 1) h.1 hg ha hb rfl (fun r h => by cases h)
      refine ⟨σ1, ?_, CI_Scr h (xF_le f2 S104_S), kC_F f2 (fun r j k s => Scr_16 _ _ _ (S104_S _ _ _ s))⟩
      show run (d + 60) (xentry 146 _ σ) = _
      rw [B146_0, C169 _ _ _ _ _ h.1]
      simp (disch := omega) only [n_cl, n_lt, n_le, n_eq, n_lt0, n_0lt, n_le0, n_eq0, n_gneq, n_ngeq, n_ng0, n_nglt, n_glt, n_gle, n_ltg, n_leg, n_gg, n_ge0, n_add, n_mul, n_rem, n_shl1, n_and, n_or, n_bit, n_not, n_not', n_B1, n_B0, n_BB, obind, xite_T, xite_F, xite_not, xite_same, oI_s, oI_n, Bool.false_eq_true, reduceCtorEq, eq_self, Classical.not_not, bI_T, bI_Fa, bI_0, bI_n0, bI_x, xb_0, xb_1, xite_bI, xite_bI', not_true_eq_false, not_false_eq_true, Nat.zero_add, Nat.add_zero, Nat.mul_zero, Nat.mul_one, Nat.one_mul, reduceIte, Nat.reduceEqDiff, Nat.reduceAdd, Nat.reduceMul, Nat.reduceSub, Nat.reduceLT, Nat.reduceLeDiff, Nat.reducePow, ite_true, ite_false, if_true, if_false, and_true, true_and, false_and, and_false, or_false, false_or, true_or, or_true, ne_eq, xite_t, xite_f, h1, f1]
      rfl
    · obtain ⟨σ1, f1, f2⟩ := M40 (d + 55) σ (a := a') (b := b') h.1 hg (by omega) (by omega)
      obtain ⟨m1, m2⟩ := MI_Z h (xF_le f2 S40_X) (by rw [xF_I f2 (fun k => by unfold S40; omega)]; exact h.1)
      refine ⟨σ1, ?_, m1, m2⟩
      show run (d + 60) (xentry 42 _ σ) = _
      rw [B42_0, M41 _ _ _ _ _ h.1]
      simp (disch := omega) only [n_cl, n_lt, n_le, n_eq, n_lt0, n_0lt, n_le0, n_eq0, n_gneq, n_ngeq, n_ng0, n_nglt, n_glt, n_gle, n_ltg, n_leg, n_gg, n_ge0, n_add, n_mul, n_rem, n_shl1, n_and, n_or, n_bit, n_not, n_not', n_B1, n_B0, n_BB, obind, xite_T, xite_F, xite_not, xite_same, oI_s, oI_n, Bool.false_eq_true, reduceCtorEq, eq_self, Classical.not_not, bI_T, bI_Fa, bI_0, bI_n0, bI_x, xb_0, xb_1, xite_bI, xite_bI', not_true_eq_false, not_false_eq_true, Nat.zero_add, Nat.add_zero, Nat.mul_zero, Nat.mul_one, Nat.one_mul, reduceIte, Nat.reduceEqDiff, Nat.reduceAdd, Nat.reduceMul, Nat.reduceSub, Nat.reduceLT, Nat.reduceLeDiff, Nat.reducePow, ite_true, ite_false, if_true, if_false, and_true, true_and, false_and, and_false, or_false, false_or, true_or, or_true, ne_eq, xite_t, xite_f, h1, f1]
  · refine duo_bad (-nI 1) (fun σ h => ?_) (fun σ h => ?_)
    · rw [B146_0, C169 _ _ _ _ _ h.1]
      simp (disch := omega) only [n_cl, n_lt, n_le, n_eq, n_lt0, n_0lt, n_le0, n_eq0, n_gneq, n_ngeq, n_ng0, n_nglt, n_glt, n_gle, n_ltg, n_leg, n_gg, n_ge0, n_add, n_mul, n_rem, n_shl1, n_and, n_or, n_bit, n_not, n_not', n_B1, n_B0, n_BB, obind, xite_T, xite_F, xite_not, xite_same, oI_s, oI_n, Bool.false_eq_true, reduceCtorEq, eq_self, Classical.not_not, bI_T, bI_Fa, bI_0, bI_n0, bI_x, xb_0, xb_1, xite_bI, xite_bI', not_true_eq_false, not_false_eq_true, Nat.zero_add, Nat.add_zero, Nat.mul_zero, Nat.mul_one, Nat.one_mul, reduceIte, Nat.reduceEqDiff, Nat.reduceAdd, Nat.reduceMul, Nat.reduceSub, Nat.reduceLT, Nat.reduceLeDiff, Nat.reducePow, ite_true, ite_false, if_true, if_false, and_true, true_and, false_and, and_false, or_false, false_or, true_or, or_true, ne_eq, h1]
    · rw [B42_0, M41 _ _ _ _ _ h.1]
      simp (disch := omega) only [n_cl, n_lt, n_le, n_eq, n_lt0, n_0lt, n_le0, n_eq0, n_gneq, n_ngeq, n_ng0, n_nglt, n_glt, n_gle, n_ltg, n_leg, n_gg, n_ge0, n_add, n_mul, n_rem, n_shl1, n_and, n_or, n_bit, n_not, n_not', n_B1, n_B0, n_BB, obind, xite_T, xite_F, xite_not, xite_same, oI_s, oI_n, Bool.false_eq_true, reduceCtorEq, eq_self, Classical.not_not, bI_T, bI_Fa, bI_0, bI_n0, bI_x, xb_0, xb_1, xite_bI, xite_bI', not_true_eq_false, not_false_eq_true, Nat.zero_add, Nat.add_zero, Nat.mul_zero, Nat.mul_one, Nat.one_mul, reduceIte, Nat.reduceEqDiff, Nat.reduceAdd, Nat.reduceMul, Nat.reduceSub, Nat.reduceLT, Nat.reduceLeDiff, Nat.reducePow, ite_true, ite_false, if_true, if_false, and_true, true_and, false_and, and_false, or_false, false_or, true_or, or_true, ne_eq, h1]
theorem oI_lt0 {o : Option Nat} (h : ∀ x, o = some x → x < 2147483648) : (oI 4 o < 0) = (o = none) := by
  cases o with
  | none => show (-nI 4 < 0) = _; rw [n_nglt (by omega) (by omega)]; simp
  | some x => show (nI x < 0) = _; rw [n_lt0 (h x rfl)]; simp
theorem oI_n4 {o : Option Nat} (h : ∀ x, o = some x → x < 2147483648) : (oI 4 o = -nI 4) = (o = none) := by
  cases o with
  | none => show (-nI 4 = -nI 4) = _; simp
  | some x => show (nI x = -nI 4) = _; rw [n_gneq (h x rfl) (by omega) (by omega)]; simp
theorem duo_worth (d : Nat) (S : mG) (hX : WX (xaR S.1) S.1) (r g a b : Int32) : Duo (d + 60) (fun σ => xentry 150 [.inr (.inr (0, (some 0))), .inl r, .inl g, .inl a, .inl b] σ) (fun σ => xentry 49 [.inr (.inr (17, (some 0))), .inl r, .inl g, .inl a, .inl b] σ) S := by
  have hP6 := hX.2.1
  have hR9 := hX.2.2.1
  by_cases h0 : inb r (xaR S.1)
  · by_cases h1 : errand S.1 g a b
    · obtain ⟨r', hr, er⟩ := inb_of h0 (by omega)
      obtain ⟨g', a', b', e1, e2, e3, hg, ha, hb, hab⟩ := errand_of hX h1
      subst er e1 e2 e3
      have hb2 := hX.2.2.2.2.2.1 r' hr
      have bd : ∀ E x, dst S.1 E a' b' = some x → x < 2147483648 := fun E x h => by have := dst_bnd hX h; omega
      cases hd : dst S.1 (fre S.1 g') a' b' with
      | none =>
        refine ⟨nI 0, S, fun σ h => ?_, fun σ h => ?_⟩
        · obtain ⟨σ1, f1, f2⟩ := C104 (d + 56) σ (wo := none) (w := -nI 1) h.1 hg ha hb rfl (fun r h => by cases h)
          refine ⟨σ1, ?_, CI_Scr h (xF_le f2 S104_S), kC_F f2 (fun r j k s => Scr_16 _ _ _ (S104_S _ _ _ s))⟩
          have f1 : run (d + 56 + 3) _ = some ((oI 4 (dst S.1 (fre S.1 g') a' b'), 0, none), σ1) := f1
          rw [hd] at f1
          show run (d + 60) (xentry 150 _ σ) = _
          rw [B150_0, C94 _ _ _ h.1]
          simp (disch := omega) only [n_cl, n_lt, n_le, n_eq, n_lt0, n_0lt, n_le0, n_eq0, n_gneq, n_ngeq, n_ng0, n_nglt, n_glt, n_gle, n_ltg, n_leg, n_gg, n_ge0, n_add, n_mul, n_rem, n_shl1, n_and, n_or, n_bit, n_not, n_not', n_B1, n_B0, n_BB, obind, xite_T, xite_F, xite_not, xite_same, oI_s, oI_n, Bool.false_eq_true, reduceCtorEq, eq_self, Classical.not_not, bI_T, bI_Fa, bI_0, bI_n0, bI_x, xb_0, xb_1, xite_bI, xite_bI', not_true_eq_false, not_false_eq_true, Nat.zero_add, Nat.add_zero, Nat.mul_zero, Nat.mul_one, Nat.one_mul, reduceIte, Nat.reduceEqDiff, Nat.reduceAdd, Nat.reduceMul, Nat.reduceSub, Nat.reduceLT, Nat.reduceLeDiff, Nat.reducePow, ite_true, ite_false, if_true, if_false, and_true, true_and, false_and, and_false, or_false, false_or, true_or, or_true, ne_eq, xite_t, xite_f, h0, C169 _ _ _ _ _ h.1, h1, f1]
        · obtain ⟨σ1, f1, f2⟩ := M40 (d + 55) σ (a := a') (b := b') h.1 hg (by omega) (by omega)
          obtain ⟨m1, m2⟩ := MI_Z h (xF_le f2 S40_X) (by rw [xF_I f2 (fun k => by unfold S40; omega)]; exact h.1)
          refine ⟨σ1, ?_, m1, m2⟩
          rw [hd] at f1
          show run (d + 60) (xentry 49 _ σ) = _
          rw [B49_0, M4 _ _ _ h.1]
          simp (disch := omega) only [n_cl, n_lt, n_le, n_eq, n_lt0, n_0lt, n_le0, n_eq0, n_gneq, n_ngeq, n_ng0, n_nglt, n_glt, n_gle, n_ltg, n_leg, n_gg, n_ge0, n_add, n_mul, n_rem, n_shl1, n_and, n_or, n_bit, n_not, n_not', n_B1, n_B0, n_BB, obind, xite_T, xite_F, xite_not, xite_same, oI_s, oI_n, Bool.false_eq_true, reduceCtorEq, eq_self, Classical.not_not, bI_T, bI_Fa, bI_0, bI_n0, bI_x, xb_0, xb_1, xite_bI, xite_bI', not_true_eq_false, not_false_eq_true, Nat.zero_add, Nat.add_zero, Nat.mul_zero, Nat.mul_one, Nat.one_mul, reduceIte, Nat.reduceEqDiff, Nat.reduceAdd, Nat.reduceMul, Nat.reduceSub, Nat.reduceLT, Nat.reduceLeDiff, Nat.reducePow, ite_true, ite_false, if_true, if_false, and_true, true_and, false_and, and_false, or_false, false_or, true_or, or_true, ne_eq, xite_t, xite_f, h0, M41 _ _ _ _ _ h.1, h1, f1]
      | some x =>
        have hx := dst_bnd hX hd
        refine ⟨match dst S.1 (Ew S.1 g' (some r')) a' b' with
          | none => nI 99
          | some y => nI y - nI x, S, fun σ h => ?_, fun σ h => ?_⟩
        · obtain ⟨σ1, f1, f2⟩ := C104 (d + 56) σ (wo := none) (w := -nI 1) h.1 hg ha hb rfl (fun r h => by cases h)
          have f1 : run (d + 56 + 3) _ = some ((oI 4 (dst S.1 (fre S.1 g') a' b'), 0, none), σ1) := f1
          rw [hd] at f1
          have h2 := CL_7 h.1 f2
          obtain ⟨σ2, g1, g2⟩ := C104 (d + 56) σ1 (wo := some r') (w := nI r') h2 hg ha hb rfl (fun r h => by cases h; omega)
          have hF := xF_trans f2 g2
          refine ⟨σ2, ?_, CI_Scr h (xF_le hF S104_S), kC_F hF (fun r j k s => Scr_16 _ _ _ (S104_S _ _ _ s))⟩
          show run (d + 60) (xentry 150 _ σ) = _
          rw [B150_0, C94 _ _ _ h.1]
          simp (disch := omega) only [n_cl, n_lt, n_le, n_eq, n_lt0, n_0lt, n_le0, n_eq0, n_gneq, n_ngeq, n_ng0, n_nglt, n_glt, n_gle, n_ltg, n_leg, n_gg, n_ge0, n_add, n_mul, n_rem, n_shl1, n_and, n_or, n_bit, n_not, n_not', n_B1, n_B0, n_BB, obind, xite_T, xite_F, xite_not, xite_same, oI_s, oI_n, Bool.false_eq_true, reduceCtorEq, eq_self, Classical.not_not, bI_T, bI_Fa, bI_0, bI_n0, bI_x, xb_0, xb_1, xite_bI, xite_bI', not_true_eq_false, not_false_eq_true, Nat.zero_add, Nat.add_zero, Nat.mul_zero, Nat.mul_one, Nat.one_mul, reduceIte, Nat.reduceEqDiff, Nat.reduceAdd, Nat.reduceMul, Nat.reduceSub, Nat.reduceLT, Nat.reduceLeDiff, Nat.reducePow, ite_true, ite_false, if_true, if_false, and_true, true_and, false_and, and_false, or_false, false_or, true_or, or_true, ne_eq, xite_t, xite_f, h0, C169 _ _ _ _ _ h.1, h1, f1, g1]
          cases hd2 : dst S.1 (Ew S.1 g' (some r')) a' b' with
          | none => simp (disch := omega) only [n_cl, n_lt, n_le, n_eq, n_lt0, n_0lt, n_le0, n_eq0, n_gneq, n_ngeq, n_ng0, n_nglt, n_glt, n_gle, n_ltg, n_leg, n_gg, n_ge0, n_add, n_mul, n_rem, n_shl1, n_and, n_or, n_bit, n_not, n_not', n_B1, n_B0, n_BB, obind, xite_T, xite_F, xite_not, xite_same, oI_s, oI_n, Bool.false_eq_true, reduceCtorEq, eq_self, Classical.not_not, bI_T, bI_Fa, bI_0, bI_n0, bI_x, xb_0, xb_1, xite_bI, xite_bI', not_true_eq_false, not_false_eq_true, Nat.zero_add, Nat.add_zero, Nat.mul_zero, Nat.mul_one, Nat.one_mul, reduceIte, Nat.reduceEqDiff, Nat.reduceAdd, Nat.reduceMul, Nat.reduceSub, Nat.reduceLT, Nat.reduceLeDiff, Nat.reducePow, ite_true, ite_false, if_true, if_false, and_true, true_and, false_and, and_false, or_false, false_or, true_or, or_true, ne_eq, xite_t, xite_f, ]
          | some y =>
            have := dst_bnd hX hd2
            simp (disch := omega) only [n_cl, n_lt, n_le, n_eq, n_lt0, n_0lt, n_le0, n_eq0, n_gneq, n_ngeq, n_ng0, n_nglt, n_glt, n_gle, n_ltg, n_leg, n_gg, n_ge0, n_add, n_mul, n_rem, n_shl1, n_and, n_or, n_bit, n_not, n_not', n_B1, n_B0, n_BB, obind, xite_T, xite_F, xite_not, xite_same, oI_s, oI_n, Bool.false_eq_true, reduceCtorEq, eq_self, Classical.not_not, bI_T, bI_Fa, bI_0, bI_n0, bI_x, xb_0, xb_1, xite_bI, xite_bI', not_true_eq_false, not_false_eq_true, Nat.zero_add, Nat.add_zero, Nat.mul_zero, Nat.mul_one, Nat.one_mul, reduceIte, Nat.reduceEqDiff, Nat.reduceAdd, Nat.reduceMul, Nat.reduceSub, Nat.reduceLT, Nat.reduceLeDiff, Nat.reducePow, ite_true, ite_false, if_true, if_false, and_true, true_and, false_and, and_false, or_false, false_or, true_or, or_true, ne_eq, xite_t, xite_f, ]
        · obtain ⟨σ1, f1, f2⟩ := M40 (d + 55) σ (a := a') (b := b') h.1 hg (by omega) (by omega)
          rw [hd] at f1
          have h1M : ML (rI σ1 18 0) (xaR S.1) S.1 := by rw [xF_I f2 (fun k => by unfold S40; omega)]; exact h.1
          cases hf : fre S.1 g' r' with
          | false =>
            obtain ⟨m1, m2⟩ := MI_Z h (xF_le f2 S40_X) h1M
            have eE : Ew S.1 g' (some r') = fre S.1 g' := by
              funext q
              show (if q = r' then false else fre S.1 g' q) = _
              by_cases c : q = r'
              · rw [if_pos c, c, hf]
              · rw [if_neg c]
            refine ⟨σ1, ?_, m1, m2⟩
            rw [eE, hd]
            show run (d + 60) (xentry 49 _ σ) = some ((nI x - nI x, 0, none), σ1)
            rw [B49_0, M4 _ _ _ h.1]
            simp (disch := omega) only [n_cl, n_lt, n_le, n_eq, n_lt0, n_0lt, n_le0, n_eq0, n_gneq, n_ngeq, n_ng0, n_nglt, n_glt, n_gle, n_ltg, n_leg, n_gg, n_ge0, n_add, n_mul, n_rem, n_shl1, n_and, n_or, n_bit, n_not, n_not', n_B1, n_B0, n_BB, obind, xite_T, xite_F, xite_not, xite_same, oI_s, oI_n, Bool.false_eq_true, reduceCtorEq, eq_self, Classical.not_not, bI_T, bI_Fa, bI_0, bI_n0, bI_x, xb_0, xb_1, xite_bI, xite_bI', not_true_eq_false, not_false_eq_true, Nat.zero_add, Nat.add_zero, Nat.mul_zero, Nat.mul_one, Nat.one_mul, reduceIte, Nat.reduceEqDiff, Nat.reduceAdd, Nat.reduceMul, Nat.reduceSub, Nat.reduceLT, Nat.reduceLeDiff, Nat.reducePow, ite_true, ite_false, if_true, if_false, and_true, true_and, false_and, and_false, or_false, false_or, true_or, or_true, ne_eq, xite_t, xite_f, h0, M41 _ _ _ _ _ h.1, h1, f1, M17 _ _ h1M hr hg, hf]
            rw [n_sub (Nat.le_refl x), Nat.sub_self]
          | true =>
            have hf0 : (xaN S.1 r').testBit g' = false := by rw [fre_t] at hf; exact hf
            obtain ⟨n1, n2⟩ := nk_back _ hb2.2.2.2.2.2 _ hg hf0
            have hw1 : xF SmX σ (wI σ1 18 0 (3 + 4 * r' + 3) (nI (xaN S.1 r' ||| 2 ^ g'))) := xF_wI (xF_le f2 S40_X) _ (by unfold SmX; omega)
            have hM1 : ML (rI (wI σ1 18 0 (3 + 4 * r' + 3) (nI (xaN S.1 r' ||| 2 ^ g'))) 18 0) (xaR S.1) (nkX S.1 g' r') := by
              rw [w_I1]; exact ML_nk h1M hr n2
            obtain ⟨σ2, k1, k2⟩ := M40 (d + 55) (wI σ1 18 0 (3 + 4 * r' + 3) (nI (xaN S.1 r' ||| 2 ^ g'))) (X := nkX S.1 g' r') (a := a') (b := b') hM1 hg (by omega) (by omega)
            have eE : fre (nkX S.1 g' r') g' = Ew S.1 g' (some r') := funext fun q => nkX_fre
            rw [eE] at k1
            have k1 : run (d + 55 + 4) _ = some ((oI 4 (dst S.1 (Ew S.1 g' (some r')) a' b'), 0, none), σ2) := k1
            have hM2 : ML (rI σ2 18 0) (xaR S.1) (nkX S.1 g' r') := by rw [xF_I k2 (fun k => by unfold S40; omega)]; exact hM1
            have hw2 : xF SmX σ (wI σ2 18 0 (3 + 4 * r' + 3) (nI (xaN S.1 r'))) := xF_wI (xF_trans hw1 (xF_le k2 S40_X)) _ (by unfold SmX; omega)
            have hM3 : ML (rI (wI σ2 18 0 (3 + 4 * r' + 3) (nI (xaN S.1 r'))) 18 0) (xaR S.1) S.1 := by
              rw [w_I1]; exact ML_bk hM2 hr hb2.2.2.2.2.2
            obtain ⟨m1, m2⟩ := MI_Z h hw2 hM3
            have e8 := M8_3 (d + 58) σ2 hM2 hr
            have exn : xaN (nkX S.1 g' r') r' = xaN S.1 r' ||| 2 ^ g' := if_pos rfl
            rw [exn] at e8
            refine ⟨_, ?_, m1, m2⟩
            show run (d + 60) (xentry 49 _ σ) = _
            rw [B49_0, M4 _ _ _ h.1]
            simp (disch := omega) only [n_cl, n_lt, n_le, n_eq, n_lt0, n_0lt, n_le0, n_eq0, n_gneq, n_ngeq, n_ng0, n_nglt, n_glt, n_gle, n_ltg, n_leg, n_gg, n_ge0, n_add, n_mul, n_rem, n_shl1, n_and, n_or, n_bit, n_not, n_not', n_B1, n_B0, n_BB, obind, xite_T, xite_F, xite_not, xite_same, oI_s, oI_n, Bool.false_eq_true, reduceCtorEq, eq_self, Classical.not_not, bI_T, bI_Fa, bI_0, bI_n0, bI_x, xb_0, xb_1, xite_bI, xite_bI', not_true_eq_false, not_false_eq_true, Nat.zero_add, Nat.add_zero, Nat.mul_zero, Nat.mul_one, Nat.one_mul, reduceIte, Nat.reduceEqDiff, Nat.reduceAdd, Nat.reduceMul, Nat.reduceSub, Nat.reduceLT, Nat.reduceLeDiff, Nat.reducePow, ite_true, ite_false, if_true, if_false, and_true, true_and, false_and, and_false, or_false, false_or, true_or, or_true, ne_eq, xite_t, xite_f, h0, M41 _ _ _ _ _ h.1, h1, f1, M17 _ _ h1M hr hg, hf, M8_3 _ _ h1M hr, M9, k1, e8, n1]
            cases hd2 : dst S.1 (Ew S.1 g' (some r')) a' b' with
            | none =>
              show xite (0 ≤ -nI 4) _ _ = _
              rw [xite_f (by decide)]
            | some y =>
              have := dst_bnd hX hd2
              simp (disch := omega) only [n_cl, n_lt, n_le, n_eq, n_lt0, n_0lt, n_le0, n_eq0, n_gneq, n_ngeq, n_ng0, n_nglt, n_glt, n_gle, n_ltg, n_leg, n_gg, n_ge0, n_add, n_mul, n_rem, n_shl1, n_and, n_or, n_bit, n_not, n_not', n_B1, n_B0, n_BB, obind, xite_T, xite_F, xite_not, xite_same, oI_s, oI_n, Bool.false_eq_true, reduceCtorEq, eq_self, Classical.not_not, bI_T, bI_Fa, bI_0, bI_n0, bI_x, xb_0, xb_1, xite_bI, xite_bI', not_true_eq_false, not_false_eq_true, Nat.zero_add, Nat.add_zero, Nat.mul_zero, Nat.mul_one, Nat.one_mul, reduceIte, Nat.reduceEqDiff, Nat.reduceAdd, Nat.reduceMul, Nat.reduceSub, Nat.reduceLT, Nat.reduceLeDiff, Nat.reducePow, ite_true, ite_false, if_true, if_false, and_true, true_and, false_and, and_false, or_false, false_or, true_or, or_true, ne_eq, xite_t, xite_f, ]
    · refine duo_bad (-nI 1) (fun σ h => ?_) (fun σ h => ?_)
      · rw [B150_0, C94 _ _ _ h.1]
        simp (disch := omega) only [n_cl, n_lt, n_le, n_eq, n_lt0, n_0lt, n_le0, n_eq0, n_gneq, n_ngeq, n_ng0, n_nglt, n_glt, n_gle, n_ltg, n_leg, n_gg, n_ge0, n_add, n_mul, n_rem, n_shl1, n_and, n_or, n_bit, n_not, n_not', n_B1, n_B0, n_BB, obind, xite_T, xite_F, xite_not, xite_same, oI_s, oI_n, Bool.false_eq_true, reduceCtorEq, eq_self, Classical.not_not, bI_T, bI_Fa, bI_0, bI_n0, bI_x, xb_0, xb_1, xite_bI, xite_bI', not_true_eq_false, not_false_eq_true, Nat.zero_add, Nat.add_zero, Nat.mul_zero, Nat.mul_one, Nat.one_mul, reduceIte, Nat.reduceEqDiff, Nat.reduceAdd, Nat.reduceMul, Nat.reduceSub, Nat.reduceLT, Nat.reduceLeDiff, Nat.reducePow, ite_true, ite_false, if_true, if_false, and_true, true_and, false_and, and_false, or_false, false_or, true_or, or_true, ne_eq, h0, C169 _ _ _ _ _ h.1, h1]
      · rw [B49_0, M4 _ _ _ h.1]
        simp (disch := omega) only [n_cl, n_lt, n_le, n_eq, n_lt0, n_0lt, n_le0, n_eq0, n_gneq, n_ngeq, n_ng0, n_nglt, n_glt, n_gle, n_ltg, n_leg, n_gg, n_ge0, n_add, n_mul, n_rem, n_shl1, n_and, n_or, n_bit, n_not, n_not', n_B1, n_B0, n_BB, obind, xite_T, xite_F, xite_not, xite_same, oI_s, oI_n, Bool.false_eq_true, reduceCtorEq, eq_self, Classical.not_not, bI_T, bI_Fa, bI_0, bI_n0, bI_x, xb_0, xb_1, xite_bI, xite_bI', not_true_eq_false, not_false_eq_true, Nat.zero_add, Nat.add_zero, Nat.mul_zero, Nat.mul_one, Nat.one_mul, reduceIte, Nat.reduceEqDiff, Nat.reduceAdd, Nat.reduceMul, Nat.reduceSub, Nat.reduceLT, Nat.reduceLeDiff, Nat.reducePow, ite_true, ite_false, if_true, if_false, and_true, true_and, false_and, and_false, or_false, false_or, true_or, or_true, ne_eq, h0, M41 _ _ _ _ _ h.1, h1]
  · refine duo_bad (-nI 1) (fun σ h => ?_) (fun σ h => ?_)
    · rw [B150_0, C94 _ _ _ h.1]
      simp (disch := omega) only [n_cl, n_lt, n_le, n_eq, n_lt0, n_0lt, n_le0, n_eq0, n_gneq, n_ngeq, n_ng0, n_nglt, n_glt, n_gle, n_ltg, n_leg, n_gg, n_ge0, n_add, n_mul, n_rem, n_shl1, n_and, n_or, n_bit, n_not, n_not', n_B1, n_B0, n_BB, obind, xite_T, xite_F, xite_not, xite_same, oI_s, oI_n, Bool.false_eq_true, reduceCtorEq, eq_self, Classical.not_not, bI_T, bI_Fa, bI_0, bI_n0, bI_x, xb_0, xb_1, xite_bI, xite_bI', not_true_eq_false, not_false_eq_true, Nat.zero_add, Nat.add_zero, Nat.mul_zero, Nat.mul_one, Nat.one_mul, reduceIte, Nat.reduceEqDiff, Nat.reduceAdd, Nat.reduceMul, Nat.reduceSub, Nat.reduceLT, Nat.reduceLeDiff, Nat.reducePow, ite_true, ite_false, if_true, if_false, and_true, true_and, false_and, and_false, or_false, false_or, true_or, or_true, ne_eq, h0]
    · rw [B49_0, M4 _ _ _ h.1]
      simp (disch := omega) only [n_cl, n_lt, n_le, n_eq, n_lt0, n_0lt, n_le0, n_eq0, n_gneq, n_ngeq, n_ng0, n_nglt, n_glt, n_gle, n_ltg, n_leg, n_gg, n_ge0, n_add, n_mul, n_rem, n_shl1, n_and, n_or, n_bit, n_not, n_not', n_B1, n_B0, n_BB, obind, xite_T, xite_F, xite_not, xite_same, oI_s, oI_n, Bool.false_eq_true, reduceCtorEq, eq_self, Classical.not_not, bI_T, bI_Fa, bI_0, bI_n0, bI_x, xb_0, xb_1, xite_bI, xite_bI', not_true_eq_false, not_false_eq_true, Nat.zero_add, Nat.add_zero, Nat.mul_zero, Nat.mul_one, Nat.one_mul, reduceIte, Nat.reduceEqDiff, Nat.reduceAdd, Nat.reduceMul, Nat.reduceSub, Nat.reduceLT, Nat.reduceLeDiff, Nat.reducePow, ite_true, ite_false, if_true, if_false, and_true, true_and, false_and, and_false, or_false, false_or, true_or, or_true, ne_eq, h0]
