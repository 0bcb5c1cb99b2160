/-! THE LOOP'S END -/
def Pl (a b : Nat) (o : Option xR) : Prop := ∃ σ', o = some ((nI 1, 0, none), σ') ∧ cN σ' ≤ a ∧ cS σ' ≤ b
theorem xite_Pl {a b : Nat} {p : Prop} {x y : Option xR} (hx : Pl a b x) (hy : Pl a b y) : Pl a b (xite p x y) := by
  by_cases h : p
  · rw [xite_t h]; exact hx
  · rw [xite_f h]; exact hy
theorem law_loop (d : Nat) {f : Nat → Int32} {L : Nat} (hL : f 3072 = nI L) (hL2 : L ≤ 3072) : ∀ m i σ S, L < i + 6 + 6 * m → i ≤ 4000 → LI f σ S → Pl (cN σ + 200 * m) (cS σ + 1600 * m) (run (d + 61) (79, 23, [some (.inr (.inr (36, (some 0)))), some (.inr (.inr (0, (some 0)))), some (.inr (.inr (17, (some 0)))), some (.inr (.inr (35, (some 0)))), some (.inl (nI (i))), none, none, none], [], σ)) := by
  have stop : ∀ m i σ S, L < i + 6 → i ≤ 4000 → LI f σ S → Pl (cN σ + 200 * m) (cS σ + 1600 * m) (run (d + 61) (79, 23, [some (.inr (.inr (36, (some 0)))), some (.inr (.inr (0, (some 0)))), some (.inr (.inr (17, (some 0)))), some (.inr (.inr (35, (some 0)))), some (.inl (nI (i))), none, none, none], [], σ)) := by
    intro m i σ S h1 h2 h
    have c : rI σ 36 0 3072 - nI 6 < nI i := by
      rw [h.2.2, hL, n_ltx, pk_sub_toInt (by omega) (by omega), n_toInt (by omega)]
      omega
    refine ⟨σ, ?_, by omega, by omega⟩
    rw [B79_23, xite_t c, xb_1]
  intro m
  induction m with
  | zero =>
    intro i σ S h1 h2 h
    exact stop 0 i σ S (by omega) h2 h
  | succ m ih =>
    intro i σ S h1 h2 h
    by_cases h3 : L < i + 6
    · exact stop (m + 1) i σ S h3 h2 h
    · have f36 := h.2.2
      have c : ¬ rI σ 36 0 3072 - nI 6 < nI i := by
        rw [h.2.2, hL, n_ltx, pk_sub_toInt (by omega) (by omega), n_toInt (by omega)]
        omega
      have go : ∀ pc, K_to d pc f i σ → Pl (cN σ + 200 * (m + 1)) (cS σ + 1600 * (m + 1)) (run (d + 61) (79, pc, [some (.inr (.inr (36, (some 0)))), some (.inr (.inr (0, (some 0)))), some (.inr (.inr (17, (some 0)))), some (.inr (.inr (35, (some 0)))), some (.inl (nI (i))), none, none, none], [], σ)) := by
        intro pc hk
        obtain ⟨σ2, S', e1, e2, e3, e4⟩ := hk
        rw [e1]
        obtain ⟨σ3, g1, g2, g3⟩ := ih (i + 6) σ2 S' (by omega) (by omega) e2
        exact ⟨σ3, g1, by omega, by omega⟩
      have gd : Pl (cN σ + 200 * (m + 1)) (cS σ + 1600 * (m + 1)) (run (d + 61) (79, 1544, [some (.inr (.inr (36, (some 0)))), some (.inr (.inr (0, (some 0)))), some (.inr (.inr (17, (some 0)))), some (.inr (.inr (35, (some 0)))), some (.inl (nI (i))), none, none, none], [], σ)) := by
        refine go 1544 ⟨σ, S, ?_, h, by omega, by omega⟩
        rw [B79_1544]
        simp (disch := omega) only [n_cl, n_lt, n_le, n_eq, n_lt0, n_0lt, n_le0, n_eq0, n_gneq, n_ngeq, n_ng0, n_nglt, n_glt, n_gle, n_ltg, n_leg, n_gg, n_ge0, n_add, n_mul, n_rem, n_shl1, n_and, n_or, n_bit, n_not, n_not', n_B1, n_B0, n_BB, obind, xite_T, xite_F, xite_not, xite_same, oI_s, oI_n, Bool.false_eq_true, reduceCtorEq, eq_self, Classical.not_not, bI_T, bI_Fa, bI_0, bI_n0, bI_x, xb_0, xb_1, xite_bI, xite_bI', not_true_eq_false, not_false_eq_true, Nat.zero_add, Nat.add_zero, Nat.mul_zero, Nat.mul_one, Nat.one_mul, reduceIte, Nat.reduceEqDiff, Nat.reduceAdd, Nat.reduceMul, Nat.reduceSub, Nat.reduceLT, Nat.reduceLeDiff, Nat.reducePow, ite_true, ite_false, if_true, if_false, and_true, true_and, false_and, and_false, or_false, false_or, true_or, or_true, ne_eq, xite_t, xite_f, ]
      have g176 := go 176 (K_176 d h hL hL2 (by omega))
      have g201 := go 201 (K_201 d h hL hL2 (by omega))
      have g238 := go 238 (K_238 d h hL hL2 (by omega))
      have g275 := go 275 (K_275 d h hL hL2 (by omega))
      have g300 := go 300 (K_300 d h hL hL2 (by omega))
      have g349 := go 349 (K_349 d h hL hL2 (by omega))
      have g422 := go 422 (K_422 d h hL hL2 (by omega))
      have g495 := go 495 (K_495 d h hL hL2 (by omega))
      have g556 := go 556 (K_556 d h hL hL2 (by omega))
      have g605 := go 605 (K_605 d h hL hL2 (by omega))
      have g666 := go 666 (K_666 d h hL hL2 (by omega))
      have g727 := go 727 (K_727 d h hL hL2 (by omega))
      have g788 := go 788 (K_788 d h hL hL2 (by omega))
      have g849 := go 849 (K_849 d h hL hL2 (by omega))
      have g910 := go 910 (K_910 d h hL hL2 (by omega))
      have g947 := go 947 (K_947 d h hL hL2 (by omega))
      have g1008 := go 1008 (K_1008 d h hL hL2 (by omega))
      have g1045 := go 1045 (K_1045 d h hL hL2 (by omega))
      have g1082 := go 1082 (K_1082 d h hL hL2 (by omega))
      have g1119 := go 1119 (K_1119 d h hL hL2 (by omega))
      have g1144 := go 1144 (K_1144 d h hL hL2 (by omega))
      have g1157 := go 1157 (K_1157 d h hL hL2 (by omega))
      have g1170 := go 1170 (K_1170 d h hL hL2 (by omega))
      have g1195 := go 1195 (K_1195 d h hL hL2 (by omega))
      have g1256 := go 1256 (K_1256 d h hL hL2 (by omega))
      have g1305 := go 1305 (K_1305 d h hL hL2 (by omega))
      have g1354 := go 1354 (K_1354 d h hL hL2 (by omega))
      have g1421 := go 1421 (K_1421 d h hL hL2 (by omega))
      have g1494 := go 1494 (K_1494 d h hL hL2 (by omega))
      have g1519 := go 1519 (K_1519 d h hL hL2 (by omega))
      have c2 : ¬ nI i < 0 ∧ nI i < rI σ 36 0 3072 := by
        rw [f36, hL, n_lt (by omega) (by omega), n_lt0 (by omega)]
        exact ⟨fun h => h, by omega⟩
      rw [B79_23, xite_f c, xite_t c2]
      refine xite_Pl g176 (xite_Pl g201 (xite_Pl g238 (xite_Pl g275 (xite_Pl g300 (xite_Pl g349 (xite_Pl g422 (xite_Pl g495 (xite_Pl g556 (xite_Pl g605 (xite_Pl g666 (xite_Pl g727 (xite_Pl g788 (xite_Pl g849 (xite_Pl g910 (xite_Pl g947 (xite_Pl g1008 (xite_Pl g1045 (xite_Pl g1082 (xite_Pl g1119 (xite_Pl g1144 (xite_Pl g1157 (xite_Pl g1170 (xite_Pl g1195 (xite_Pl g1256 (xite_Pl g1305 (xite_Pl g1354 (xite_Pl g1421 (xite_Pl g1494 (xite_Pl g1519 (gd))))))))))))))))))))))))))))))
/-- at the start -/
def sg0 (f : Nat → Int32) : xS := (fun r _ k => if (r = 1 ∨ r = 18) ∧ k = 0 then nI 2 else if r = 36 then f k else 0, fun _ _ _ => 0, fun _ _ _ => none, [], 63, 2345)
def S0 : mG := (((2, 0, 0), (fun _ => 0, fun _ => 0, fun _ => 0, fun _ => 0), fun _ => 0, fun _ => 0), none, fun _ => (0, 0, 0, 0, 0, fun _ => 0))
theorem S0_W (n : Nat) (h : n = 0) : WX n S0.1 := ⟨by show 2 ≤ 2; omega, by show 2 ≤ 6; omega, by show 0 ≤ 9; omega, by show 0 ≤ 6; omega, by omega, fun r hr => by omega, fun c hc => absurd hc (Nat.not_lt_zero c)⟩
theorem LI_0 (f : Nat → Int32) : LI f (sg0 f) S0 := by
  have cl : ∀ i, CL (sg0 f) i S0.1 := fun i => ⟨S0_W _ rfl, rfl, rfl, rfl, fun r hr => absurd hr (Nat.not_lt_zero r), ⟨0, rfl, Nat.two_pow_pos _, fun r hr => absurd hr (Nat.not_lt_zero r)⟩, fun c hc => absurd hc (Nat.not_lt_zero c)⟩
  have ok : shOk (0, 0, 0, 0, 0, fun _ => 0) := ⟨by show 0 ≤ 2; omega, fun h => absurd h (by show ¬ 0 = 1; omega), by show 0 ≤ 2; omega, by show 0 ≤ 100; omega⟩
  refine ⟨⟨cl 0, rfl, fun Y h => (by cases h), fun d hd => ⟨ok, rfl, fun h => absurd h (by show ¬ 0 = 1; omega), rfl, rfl, fun j hj => rfl⟩⟩, ⟨⟨S0_W _ rfl, rfl, rfl, rfl, fun r hr => absurd hr (Nat.not_lt_zero r), fun c hc => absurd hc (Nat.not_lt_zero c)⟩, rfl, fun Y h => (by cases h), fun d hd => ⟨ok, rfl, fun h => absurd h (by show ¬ 0 = 1; omega), rfl, rfl, fun j hj => rfl⟩⟩, rfl⟩
/-- the law's loop, from the start -/
theorem law_run (f : Nat → Int32) (L : Nat) (hL : f 3072 = nI L) (hL2 : L ≤ 3072) (d : Nat) : ∃ σ', run (d + 61) (79, 23, [some (.inr (.inr (36, (some 0)))), some (.inr (.inr (0, (some 0)))), some (.inr (.inr (17, (some 0)))), some (.inr (.inr (35, (some 0)))), some (.inl (nI (0))), none, none, none], [], sg0 f) = some ((nI 1, 0, none), σ') ∧ cN σ' ≤ 103000 ∧ cS σ' ≤ 824000 := by
  obtain ⟨σ', h1, h2, h3⟩ := law_loop d hL hL2 512 0 (sg0 f) S0 (by omega) (by omega) (LI_0 f)
  have e1 : cN (sg0 f) = 63 := rfl
  have e2 : cS (sg0 f) = 2345 := rfl
  exact ⟨σ', h1, by omega, by omega⟩
