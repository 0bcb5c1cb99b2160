/-! ROUNDS -/
abbrev mO : Type := Option Nat
def mn (v : Nat) : mO → mO
  | none => some v
  | some u => if u ≤ v then some u else some v
def ole (a' a : mO) : Prop := ∀ v, a = some v → ∃ u, u ≤ v ∧ a' = some u
theorem ole_r (a : mO) : ole a a := fun v h => ⟨v, Nat.le_refl _, h⟩
theorem ole_t {a b c : mO} (h : ole a b) (g : ole b c) : ole a c := fun v hv => by
  obtain ⟨u, h1, h2⟩ := g v hv
  obtain ⟨w, h3, h4⟩ := h u h2
  exact ⟨w, Nat.le_trans h3 h1, h4⟩
theorem mn_le (v : Nat) (a : mO) : ole (mn v a) a := by
  intro u h
  subst h
  show ∃ w, w ≤ u ∧ (if u ≤ v then some u else some v) = some w
  split
  · exact ⟨u, Nat.le_refl _, rfl⟩
  · exact ⟨v, by omega, rfl⟩
theorem mn_v (v : Nat) (a : mO) : ∃ u, u ≤ v ∧ mn v a = some u := by
  cases a with
  | none => exact ⟨v, Nat.le_refl _, rfl⟩
  | some u =>
    show ∃ w, w ≤ v ∧ (if u ≤ v then some u else some v) = some w
    split
    · exact ⟨u, by omega, rfl⟩
    · exact ⟨v, Nat.le_refl _, rfl⟩
theorem mn_or (v : Nat) (a : mO) : mn v a = a ∨ mn v a = some v := by
  cases a with
  | none => exact Or.inr rfl
  | some u =>
    show (if u ≤ v then some u else some v) = some u ∨ (if u ≤ v then some u else some v) = some v
    split
    · exact Or.inl rfl
    · exact Or.inr rfl
/-- a round: a road away, and back without it -/
def Cnd (X : mX) (g a v : Nat) : Prop := ∃ r x n L, r < xaR X ∧ fre X g r = true ∧ oth X r a = some x ∧ wk X (Ew X g (some r)) x n a L ∧ v = xaM X r + L
def LC (X : mX) (g a : Nat) (acc : mO) : Prop := (∀ v, acc = some v → Cnd X g a v) ∧ (∀ v, Cnd X g a v → ∃ u, u ≤ v ∧ acc = some u)
theorem LC_u {X : mX} {g a : Nat} {p q : mO} (h : LC X g a p) (k : LC X g a q) : p = q := by
  cases p with
  | none =>
    cases q with
    | none => rfl
    | some v =>
      obtain ⟨u, _, e⟩ := h.2 v (k.1 v rfl)
      cases e
  | some u =>
    obtain ⟨v, hv, e⟩ := k.2 u (h.1 u rfl)
    obtain ⟨w, hw, e2⟩ := h.2 v (k.1 v e)
    cases e2
    rw [e]
    congr 1
    omega
theorem oth_ne {X : mX} {r u v n : Nat} (hX : WX n X) (hr : r < n) (h : oth X r u = some v) : u ≠ v ∧ u < xaP X ∧ v < xaP X ∧ oth X r v = some u ∧ ((xaF X r = u ∧ xaT X r = v) ∨ (xaF X r = v ∧ xaT X r = u)) := by
  have hb := hX.2.2.2.2.2.1 r hr
  unfold oth at h ⊢
  by_cases c1 : xaF X r = u
  · rw [if_pos c1] at h
    cases h
    rw [← c1]
    refine ⟨hb.2.2.1, hb.1, hb.2.1, ?_, Or.inl ⟨rfl, rfl⟩⟩
    rw [if_neg hb.2.2.1, if_pos rfl]
  · rw [if_neg c1] at h
    by_cases c2 : xaT X r = u
    · rw [if_pos c2] at h
      cases h
      rw [← c2]
      refine ⟨fun e => hb.2.2.1 e.symm, hb.2.1, hb.1, ?_, Or.inr ⟨rfl, rfl⟩⟩
      rw [if_pos rfl]
    · rw [if_neg c2] at h
      cases h
theorem wk_front {X : mX} {E : Nat → Bool} {r u v : Nat} (hr : r < xaR X) (hE : E r = true) (ho : oth X r v = some u) : ∀ n s L, wk X E u n s L → wk X E v (n + 1) s (L + xaM X r) := by
  intro n
  induction n with
  | zero =>
    intro s L h
    obtain ⟨e1, e2⟩ := h
    subst e1 e2
    exact ⟨r, v, 0, hr, hE, ho, ⟨rfl, rfl⟩, rfl⟩
  | succ n ih =>
    intro s L h
    obtain ⟨r2, w, L2, h1, h2, h3, h4, h5⟩ := h
    exact ⟨r2, w, L2 + xaM X r, h1, h2, h3, ih w L2 h4, by omega⟩
theorem wk_sym {X : mX} {E : Nat → Bool} (hX : WX (xaR X) X) : ∀ n s v L, wk X E s n v L → wk X E v n s L := by
  intro n
  induction n with
  | zero => intro s v L h; exact ⟨h.1.symm, h.2⟩
  | succ n ih =>
    intro s v L h
    obtain ⟨r, u, L', h1, h2, h3, h4, h5⟩ := h
    rw [h5]
    exact wk_front h1 h2 (oth_ne hX h1 h3).2.2.2.1 n s L' (ih s u L' h4)
/-- the class's -/
def crS (X : mX) (g a r : Nat) (acc : mO) : mO := match oth X r a with
  | none => acc
  | some x => if fre X g r = true then (match dst X (Ew X g (some r)) x a with
    | none => acc
    | some L => mn (xaM X r + L) acc) else acc
theorem crS_le {X : mX} {g a r : Nat} {acc : mO} : ole (crS X g a r acc) acc := by
  unfold crS
  cases oth X r a with
  | none => exact ole_r _
  | some x =>
    show ole (if _ then _ else _) acc
    split
    · cases dst X (Ew X g (some r)) x a with
      | none => exact ole_r _
      | some L => exact mn_le _ _
    · exact ole_r _
theorem fl_ole {f : Nat → mO → mO} (h : ∀ r a, ole (f r a) a) : ∀ n r a, ole (fl f n r a) a := by
  intro n
  induction n with
  | zero => intro r a; exact ole_r _
  | succ n ih => intro r a; exact ole_t (ih (r + 1) _) (h r a)
/-- what a step brings stays -/
theorem fl_at {f : Nat → mO → mO} {N r v : Nat} (h : ∀ r a, ole (f r a) a) (hr : r < N) (hv : ∀ a, ∃ u, u ≤ v ∧ f r a = some u) (a : mO) : ∃ u, u ≤ v ∧ fl f N 0 a = some u := by
  rw [show N = r + (1 + (N - r - 1)) by omega, fl_split, fl_split]
  obtain ⟨u, h1, h2⟩ := hv (fl f r 0 a)
  obtain ⟨w, h3, h4⟩ := fl_ole h (N - r - 1) (0 + r + 1) _ u (show fl f 1 (0 + r) (fl f r 0 a) = some u by rw [Nat.zero_add]; exact h2)
  exact ⟨w, by omega, h4⟩
theorem fl_invR {A : Type} {f : Nat → A → A} {I : A → Prop} : ∀ n r a, (∀ k a, r ≤ k → k < r + n → I a → I (f k a)) → I a → I (fl f n r a) := by
  intro n
  induction n with
  | zero => intro r a _ ha; exact ha
  | succ n ih => intro r a h ha; exact ih (r + 1) (f r a) (fun k a h1 h2 => h k a (by omega) (by omega)) (h r a (by omega) (by omega) ha)
theorem cr_LC {X : mX} {g a : Nat} (hX : WX (xaR X) X) : LC X g a (fl (crS X g a) (xaR X) 0 none) := by
  constructor
  · have : ∀ acc, (∀ v, acc = some v → Cnd X g a v) → ∀ v, fl (crS X g a) (xaR X) 0 acc = some v → Cnd X g a v := by
      intro acc h
      refine fl_invR (I := fun acc => ∀ v, acc = some v → Cnd X g a v) (xaR X) 0 acc (fun r acc _ hr h v hv => ?_) h
      unfold crS at hv
      cases ho : oth X r a with
      | none => rw [ho] at hv; exact h v hv
      | some x =>
        rw [ho] at hv
        have hv : (if fre X g r = true then (match dst X (Ew X g (some r)) x a with
          | none => acc
          | some L => mn (xaM X r + L) acc) else acc) = some v := hv
        by_cases hf : fre X g r = true
        · rw [if_pos hf] at hv
          cases hd : dst X (Ew X g (some r)) x a with
          | none => rw [hd] at hv; exact h v hv
          | some L =>
            rw [hd] at hv
            have hv : mn (xaM X r + L) acc = some v := hv
            rcases mn_or (xaM X r + L) acc with e | e
            · rw [e] at hv; exact h v hv
            · rw [e] at hv
              cases hv
              obtain ⟨n, hn⟩ := dst_wk hX hd
              exact ⟨r, x, n, L, by omega, hf, ho, hn, rfl⟩
        · rw [if_neg hf] at hv
          exact h v hv
    exact this none (fun v h => by cases h)
  · intro v ⟨r, x, n, L, hr, hf, ho, hw, hv⟩
    have hx := oth_ne hX hr ho
    obtain ⟨l, hl, hd⟩ := dst_le hX hx.2.2.1 hx.2.1 hw
    obtain ⟨u, hu, e⟩ := fl_at (f := crS X g a) (v := xaM X r + l) (fun r a => crS_le) hr (fun acc => by
      unfold crS
      rw [ho]
      show ∃ u, u ≤ xaM X r + l ∧ (if fre X g r = true then _ else _) = some u
      rw [if_pos hf, hd]
      exact mn_v _ _) none
    exact ⟨u, by omega, e⟩
/-- the reference's -/
def rF (X : mX) (g home : Nat) : Nat → Nat → Nat → Nat → Nat → mO → mO
  | 0, _, _, _, _, acc => acc
  | m + 1, pl, been, roads, mil, acc => fl (fun r acc => match oth X r pl with
    | none => acc
    | some q => if roads.testBit r = true ∨ fre X g r = false then acc else
      if been.testBit q = true then (if q = home then mn (mil + xaM X r) acc else acc) else
      rF X g home m q (been ||| 2 ^ q) (roads ||| 2 ^ r) (mil + xaM X r) (if q = home then mn (mil + xaM X r) acc else acc)) (xaR X) 0 acc
def rS (X : mX) (g home m pl been roads mil r : Nat) (acc : mO) : mO := match oth X r pl with
  | none => acc
  | some q => if roads.testBit r = true ∨ fre X g r = false then acc else
    if been.testBit q = true then (if q = home then mn (mil + xaM X r) acc else acc) else
    rF X g home m q (been ||| 2 ^ q) (roads ||| 2 ^ r) (mil + xaM X r) (if q = home then mn (mil + xaM X r) acc else acc)
theorem rF_s {X : mX} {g home m pl been roads mil : Nat} {acc : mO} : rF X g home (m + 1) pl been roads mil acc = fl (rS X g home m pl been roads mil) (xaR X) 0 acc := rfl
theorem rF_le {X : mX} {g home : Nat} : ∀ m pl been roads mil acc, ole (rF X g home m pl been roads mil acc) acc := by
  intro m
  induction m with
  | zero => intro pl been roads mil acc; exact ole_r _
  | succ m ih =>
    intro pl been roads mil acc
    rw [rF_s]
    refine fl_ole (fun r acc => ?_) _ _ _
    have hm : ∀ q, ole (if q = home then mn (mil + xaM X r) acc else acc) acc := by
      intro q
      split
      · exact mn_le _ _
      · exact ole_r _
    unfold rS
    cases oth X r pl with
    | none => exact ole_r _
    | some q =>
      show ole (if _ then _ else _) acc
      split
      · exact ole_r _
      · split
        · exact hm q
        · exact ole_t (ih _ _ _ _ _) (hm q)
theorem rS_le {X : mX} {g home m pl been roads mil r : Nat} {acc : mO} : ole (rS X g home m pl been roads mil r acc) acc := by
  have hm : ∀ q, ole (if q = home then mn (mil + xaM X r) acc else acc) acc := by
    intro q
    split
    · exact mn_le _ _
    · exact ole_r _
  unfold rS
  cases oth X r pl with
  | none => exact ole_r _
  | some q =>
    show ole (if _ then _ else _) acc
    split
    · exact ole_r _
    · split
      · exact hm q
      · exact ole_t (rF_le _ _ _ _ _ _) (hm q)
theorem rF_snd {X : mX} {g home : Nat} (hX : WX (xaR X) X) : ∀ m pl been roads mil acc, (∀ v, acc = some v → Cnd X g home v) →
    ((pl = home ∧ mil = 0) ∨ ∃ r1 x n L, r1 < xaR X ∧ fre X g r1 = true ∧ roads.testBit r1 = true ∧ oth X r1 home = some x ∧ wk X (Ew X g (some r1)) x n pl L ∧ mil = xaM X r1 + L) →
    ∀ v, rF X g home m pl been roads mil acc = some v → Cnd X g home v := by
  intro m
  induction m with
  | zero => intro pl been roads mil acc h _; exact h
  | succ m ih =>
    intro pl been roads mil acc h hs
    rw [rF_s]
    refine fl_invR (I := fun acc => ∀ v, acc = some v → Cnd X g home v) (xaR X) 0 acc (fun r acc _ hr h v hv => ?_) h
    unfold rS at hv
    cases ho : oth X r pl with
    | none => rw [ho] at hv; exact h v hv
    | some q =>
      rw [ho] at hv
      have hv : (if roads.testBit r = true ∨ fre X g r = false then acc else
        if been.testBit q = true then (if q = home then mn (mil + xaM X r) acc else acc) else
        rF X g home m q (been ||| 2 ^ q) (roads ||| 2 ^ r) (mil + xaM X r) (if q = home then mn (mil + xaM X r) acc else acc)) = some v := hv
      by_cases hx : roads.testBit r = true ∨ fre X g r = false
      · rw [if_pos hx] at hv; exact h v hv
      · rw [if_neg hx] at hv
        have hr' : r < xaR X := by omega
        have hb : ¬ roads.testBit r = true := fun e => hx (Or.inl e)
        have hf : fre X g r = true := by cases hf : fre X g r with | true => rfl | false => exact absurd (Or.inr hf) hx
        have hon := oth_ne hX hr' ho
        have nxt : ∃ r1 x n L, r1 < xaR X ∧ fre X g r1 = true ∧ (roads ||| 2 ^ r).testBit r1 = true ∧ oth X r1 home = some x ∧ wk X (Ew X g (some r1)) x n q L ∧ mil + xaM X r = xaM X r1 + L := by
          rcases hs with ⟨e1, e2⟩ | ⟨r1, x, n, L, a1, a2, a3, a4, a5, a6⟩
          · refine ⟨r, q, 0, 0, hr', hf, ?_, by rw [← e1]; exact ho, ⟨rfl, rfl⟩, by omega⟩
            rw [Nat.testBit_or, Nat.testBit_two_pow_self, Bool.or_true]
          · refine ⟨r1, x, n + 1, L + xaM X r, a1, a2, ?_, a4, ⟨r, pl, L, hr', ?_, ho, a5, rfl⟩, by omega⟩
            · rw [Nat.testBit_or, a3, Bool.true_or]
            · show (if r = r1 then false else fre X g r) = true
              rw [if_neg (fun e => hb (by rw [e]; exact a3))]
              exact hf
        have hacc : ∀ v, (if q = home then mn (mil + xaM X r) acc else acc) = some v → Cnd X g home v := by
          intro v hv
          by_cases hq : q = home
          · rw [if_pos hq] at hv
            rcases mn_or (mil + xaM X r) acc with e | e
            · rw [e] at hv; exact h v hv
            · rw [e] at hv
              cases hv
              obtain ⟨r1, x, n, L, b1, b2, b3, b4, b5, b6⟩ := nxt
              exact ⟨r1, x, n, L, b1, b2, b4, by rw [hq] at b5; exact b5, b6⟩
          · rw [if_neg hq] at hv; exact h v hv
        by_cases hbq : been.testBit q = true
        · rw [if_pos hbq] at hv; exact hacc v hv
        · rw [if_neg hbq] at hv
          exact ih q _ _ _ _ hacc (Or.inr nxt) v hv
theorem tb_or {a q w : Nat} : (a ||| 2 ^ q).testBit w = true ↔ a.testBit w = true ∨ w = q := by
  rw [Nat.testBit_or, Nat.testBit_two_pow]
  constructor
  · intro h
    cases h1 : a.testBit w with
    | true => exact Or.inl rfl
    | false =>
      rw [h1, Bool.false_or] at h
      exact Or.inr (of_decide_eq_true h).symm
  · intro h
    rcases h with h | h
    · rw [h, Bool.true_or]
    · rw [h]; simp
theorem rF_cmp {X : mX} {g home r1 : Nat} (hX : WX (xaR X) X) (hh : home < xaP X) : ∀ m n pl been roads mil l acc, m + n = 6 → popf 6 been = n + 1 → been < 64 → been.testBit home = true → been.testBit pl = true → ¬ pl = home → pl < xaP X → dst X (Ew X g (some r1)) home pl = some l →
    (∀ w, been.testBit w = true → ¬ w = home → ∃ lw, l ≤ lw ∧ dst X (Ew X g (some r1)) home w = some lw) → (∀ r, r < xaR X → roads.testBit r = true → ¬ r = r1 → (been.testBit (xaF X r) = true ∧ ¬ xaF X r = home) ∧ (been.testBit (xaT X r) = true ∧ ¬ xaT X r = home)) →
    roads.testBit r1 = true → ∃ v, v ≤ mil + l ∧ rF X g home m pl been roads mil acc = some v := by
  intro m
  induction m with
  | zero =>
    intro n pl been roads mil l acc hm hp hb
    have := popf_7 been hb
    omega
  | succ m ih =>
    intro n pl been roads mil l acc hm hp hb hbh hbp hpl hplP hd hv hroads hr1
    obtain ⟨k, hk⟩ := dst_wk hX hd
    cases k with
    | zero => exact absurd hk.1 hpl
    | succ k =>
      obtain ⟨r, w, L', hr, hE, ho, hw, hl⟩ := hk
      have hon := oth_ne hX hr ho
      have hbM := hX.2.2.2.2.2.1 r hr
      have hP6 := hX.2.1
      obtain ⟨lw, hlw, hdw⟩ := dst_le hX hh hon.2.1 hw
      have hE' : (if r = r1 then false else fre X g r) = true := hE
      have hne : ¬ r = r1 := by
        intro e
        rw [if_pos e] at hE'
        cases hE'
      rw [if_neg hne] at hE'
      have hnb : ¬ w = home → ¬ been.testBit w = true := by
        intro h1 h2
        obtain ⟨l2, h3, h4⟩ := hv w h2 h1
        rw [hdw] at h4
        cases h4
        omega
      have hnr : ¬ roads.testBit r = true := by
        intro h
        obtain ⟨⟨f1, f2⟩, ⟨t1, t2⟩⟩ := hroads r hr h hne
        rcases hon.2.2.2.2 with ⟨e1, e2⟩ | ⟨e1, e2⟩
        · exact hnb (by rw [← e1]; exact f2) (by rw [← e1]; exact f1)
        · exact hnb (by rw [← e2]; exact t2) (by rw [← e2]; exact t1)
      rw [rF_s]
      refine fl_at (fun r a => rS_le) hr (fun acc => ?_) acc
      unfold rS
      rw [hon.2.2.2.1]
      show ∃ u, u ≤ mil + l ∧ (if roads.testBit r = true ∨ fre X g r = false then acc else _) = some u
      rw [if_neg (fun h => h.elim hnr (fun h => by rw [hE'] at h; cases h))]
      by_cases hwh : w = home
      · rw [if_pos (by rw [hwh]; exact hbh), if_pos hwh]
        obtain ⟨u, hu, e⟩ := mn_v (mil + xaM X r) acc
        exact ⟨u, by omega, e⟩
      · have hnw := hnb hwh
        rw [if_neg hnw]
        have hnw' : been.testBit w = false := by cases h : been.testBit w with | true => exact absurd h hnw | false => rfl
        have hpa := popf_add been hb w (by omega) hnw'
        obtain ⟨u, hu, e⟩ := ih (n + 1) w (been ||| 2 ^ w) (roads ||| 2 ^ r) (mil + xaM X r) lw (if w = home then mn (mil + xaM X r) acc else acc) (by omega) (by omega) hpa.2 (tb_or.mpr (Or.inl hbh)) (tb_or.mpr (Or.inr rfl)) hwh hon.2.1 hdw (fun y hy hyh => by
          rcases tb_or.mp hy with h | h
          · obtain ⟨l2, h3, h4⟩ := hv y h hyh
            exact ⟨l2, by omega, h4⟩
          · exact ⟨lw, Nat.le_refl _, by rw [h]; exact hdw⟩) (fun y hy hyb hyn => by
          rcases tb_or.mp hyb with h | h
          · obtain ⟨⟨f1, f2⟩, ⟨t1, t2⟩⟩ := hroads y hy h hyn
            exact ⟨⟨tb_or.mpr (Or.inl f1), f2⟩, ⟨tb_or.mpr (Or.inl t1), t2⟩⟩
          · subst h
            rcases hon.2.2.2.2 with ⟨e1, e2⟩ | ⟨e1, e2⟩
            · rw [e1, e2]
              exact ⟨⟨tb_or.mpr (Or.inr rfl), hwh⟩, ⟨tb_or.mpr (Or.inl hbp), hpl⟩⟩
            · rw [e1, e2]
              exact ⟨⟨tb_or.mpr (Or.inl hbp), hpl⟩, ⟨tb_or.mpr (Or.inr rfl), hwh⟩⟩) (tb_or.mpr (Or.inl hr1))
        exact ⟨u, by omega, e⟩
theorem rF_LC {X : mX} {g a : Nat} (hX : WX (xaR X) X) (ha : a < xaP X) : LC X g a (rF X g a 6 a (2 ^ a) 0 0 none) := by
  have hP6 := hX.2.1
  refine ⟨rF_snd hX 6 a (2 ^ a) 0 0 none (fun v h => by cases h) (Or.inl ⟨rfl, rfl⟩), ?_⟩
  intro v ⟨r1, x, n, L, hr, hf, ho, hw, hv⟩
  have hon := oth_ne hX hr ho
  obtain ⟨l, hl, hd⟩ := dst_le hX ha hon.2.2.1 (wk_sym hX n x a L hw)
  have hxa : ¬ x = a := fun e => hon.1 e.symm
  have hp := p2_lt a (by omega)
  have hnx : (2 ^ a).testBit x = false := by
    rw [Nat.testBit_two_pow]
    exact decide_eq_false (fun e => hxa e.symm)
  have hpa := popf_add (2 ^ a) hp.1 x (by omega) hnx
  rw [rF_s]
  obtain ⟨u, hu, e⟩ := fl_at (f := rS X g a 5 a (2 ^ a) 0 0) (v := xaM X r1 + l) (fun r a => rS_le) hr (fun acc => by
    unfold rS
    rw [ho]
    show ∃ u, u ≤ xaM X r1 + l ∧ (if (0 : Nat).testBit r1 = true ∨ fre X g r1 = false then acc else _) = some u
    rw [if_neg (fun h => h.elim (fun h => by rw [Nat.zero_testBit] at h; cases h) (fun h => by rw [hf] at h; cases h)), if_neg (by rw [hnx]; simp)]
    have := rF_cmp (r1 := r1) hX ha 5 1 x (2 ^ a ||| 2 ^ x) (0 ||| 2 ^ r1) (0 + xaM X r1) l (if x = a then mn (0 + xaM X r1) acc else acc) (by omega) (by omega) hpa.2 (tb_or.mpr (Or.inl Nat.testBit_two_pow_self)) (tb_or.mpr (Or.inr rfl)) hxa hon.2.2.1 hd (fun w hw hwa => by
      rcases tb_or.mp hw with h | h
      · rw [Nat.testBit_two_pow] at h
        exact absurd (of_decide_eq_true h).symm hwa
      · exact ⟨l, Nat.le_refl _, by rw [h]; exact hd⟩) (fun r hr hrb hrn => by
      rcases tb_or.mp hrb with h | h
      · rw [Nat.zero_testBit] at h; cases h
      · exact absurd h hrn) (tb_or.mpr (Or.inr rfl))
    rw [Nat.zero_add] at this ⊢
    exact this) none
  exact ⟨u, by omega, e⟩
def S51 (r _ k : Nat) : Prop := r = 17 ∧ k = 25
theorem S51_X (r j k : Nat) (h : S51 r j k) : SmX r j k := by unfold S51 at h; unfold SmX; omega
def bO (B : Nat) (acc : mO) : Prop := ∀ v, acc = some v → v ≤ B
theorem mn_bO {B v : Nat} {acc : mO} (h : bO B acc) (hv : v ≤ B) : bO B (mn v acc) := by
  intro u hu
  rcases mn_or v acc with e | e
  · rw [e] at hu; exact h u hu
  · rw [e] at hu; cases hu; exact hv
theorem rF_bO {X : mX} {g home B : Nat} (hX : WX (xaR X) X) : ∀ m pl been roads mil acc, mil + 9 * m ≤ B → bO B acc → bO B (rF X g home m pl been roads mil acc) := by
  intro m
  induction m with
  | zero => intro pl been roads mil acc _ h; exact h
  | succ m ih =>
    intro pl been roads mil acc hB h
    rw [rF_s]
    refine fl_invR (I := bO B) (xaR X) 0 acc (fun r acc _ hr h => ?_) h
    have hb2 := hX.2.2.2.2.2.1 r (by omega)
    have hm : ∀ q, bO B (if q = home then mn (mil + xaM X r) acc else acc) := by
      intro q
      split
      · exact mn_bO h (by omega)
      · exact h
    unfold rS
    cases oth X r pl with
    | none => exact h
    | some q =>
      show bO B (if _ then _ else _)
      split
      · exact h
      · split
        · exact hm q
        · exact ih _ _ _ _ _ (by omega) (hm q)
theorem M51 (X : mX) (g home : Nat) (hg : g < 4) (hh : home < 6) : ∀ (m d n pl been roads mil : Nat) (acc : mO) (σ : xS), m + n = 6 → ML (rI σ 18 0) (xaR X) X → pl < 6 → been < 64 → popf 6 been = n + 1 → roads < 512 → mil ≤ 9 * n → rI σ 17 0 25 = oI 4 acc → bO 100 acc →
    ∃ σ', run (d + m + 3) (xentry 51 [.inr (.inr (17, (some 0))), .inl (nI g), .inl (nI pl), .inl (nI home), .inl (nI been), .inl (nI roads), .inl (nI mil)] σ) = some ((0, 0, none), σ') ∧ rI σ' 17 0 25 = oI 4 (rF X g home m pl been roads mil acc) ∧ xF S51 σ σ' := by
  intro m
  induction m with
  | zero =>
    intro d n pl been roads mil acc σ hm h hpl hb hpop
    have := popf_7 been hb
    omega
  | succ m ih =>
    intro d n pl been roads mil acc σ hm h hpl hb hpop hro hmil he hbo
    have hX := h.1
    have hR9 := hX.2.2.1
    have loop : ∀ (j r : Nat) (acc : mO) (σ : xS), r + j = xaR X → ML (rI σ 18 0) (xaR X) X → rI σ 17 0 25 = oI 4 acc → bO 100 acc → ∃ σ', run (d + m + 4) (51, 3, [some (.inr (.inr (17, (some 0)))), some (.inl (nI (g))), some (.inl (nI (pl))), some (.inl (nI (home))), some (.inl (nI (been))), some (.inl (nI (roads))), some (.inl (nI (mil))), some (.inl (nI (r))), none, none], [], σ) = some ((0, 0, none), σ') ∧ rI σ' 17 0 25 = oI 4 (fl (rS X g home m pl been roads mil) j r acc) ∧ xF S51 σ σ' := by
      intro j
      induction j with
      | zero =>
        intro r acc σ hr h he _
        have e : r = xaR X := by omega
        subst e
        refine ⟨σ, ?_, he, xF_refl σ⟩
        rw [B51_3]
        simp (disch := omega) only [n_cl, n_lt, n_le, n_eq, n_lt0, n_0lt, n_le0, n_eq0, n_gneq, n_ngeq, n_ng0, n_nglt, n_glt, n_gle, n_ltg, n_leg, n_gg, n_ge0, n_add, n_mul, n_rem, n_shl1, n_and, n_or, n_bit, n_not, n_not', n_B1, n_B0, n_BB, obind, xite_T, xite_F, xite_not, xite_same, oI_s, oI_n, Bool.false_eq_true, reduceCtorEq, eq_self, Classical.not_not, bI_T, bI_Fa, bI_0, bI_n0, bI_x, xb_0, xb_1, xite_bI, xite_bI', not_true_eq_false, not_false_eq_true, Nat.zero_add, Nat.add_zero, Nat.mul_zero, Nat.mul_one, Nat.one_mul, reduceIte, Nat.reduceEqDiff, Nat.reduceAdd, Nat.reduceMul, Nat.reduceSub, Nat.reduceLT, Nat.reduceLeDiff, Nat.reducePow, ite_true, ite_false, if_true, if_false, and_true, true_and, false_and, and_false, or_false, false_or, true_or, or_true, ne_eq, xite_t, xite_f, h.2.2.1]
      | succ j ij =>
        intro r acc σ hr h he hbo
        have hr' : r < xaR X := by omega
        have hb2 := hX.2.2.2.2.2.1 r hr'
        show ∃ σ', _ ∧ rI σ' 17 0 25 = oI 4 (fl (rS X g home m pl been roads mil) j (r + 1) (rS X g home m pl been roads mil r acc)) ∧ _
        have pass := ij (r + 1) acc σ (by omega) h he hbo
        rw [B51_3]
        cases ho : oth X r pl with
        | none =>
          have e : rS X g home m pl been roads mil r acc = acc := by unfold rS; rw [ho]
          rw [e]
          obtain ⟨σ', f1, f2⟩ := pass
          refine ⟨σ', ?_, f2⟩
          simp (disch := omega) only [n_cl, n_lt, n_le, n_eq, n_lt0, n_0lt, n_le0, n_eq0, n_gneq, n_ngeq, n_ng0, n_nglt, n_glt, n_gle, n_ltg, n_leg, n_gg, n_ge0, n_add, n_mul, n_rem, n_shl1, n_and, n_or, n_bit, n_not, n_not', n_B1, n_B0, n_BB, obind, xite_T, xite_F, xite_not, xite_same, oI_s, oI_n, Bool.false_eq_true, reduceCtorEq, eq_self, Classical.not_not, bI_T, bI_Fa, bI_0, bI_n0, bI_x, xb_0, xb_1, xite_bI, xite_bI', not_true_eq_false, not_false_eq_true, Nat.zero_add, Nat.add_zero, Nat.mul_zero, Nat.mul_one, Nat.one_mul, reduceIte, Nat.reduceEqDiff, Nat.reduceAdd, Nat.reduceMul, Nat.reduceSub, Nat.reduceLT, Nat.reduceLeDiff, Nat.reducePow, ite_true, ite_false, if_true, if_false, and_true, true_and, false_and, and_false, or_false, false_or, true_or, or_true, ne_eq, xite_t, xite_f, h.2.2.1, M16 _ _ h hr' hpl, ho]
          exact f1
        | some q =>
          have hq := oth_lt hX hr' ho
          by_cases hx : roads.testBit r = true ∨ fre X g r = false
          · have e : rS X g home m pl been roads mil r acc = acc := by unfold rS; rw [ho]; exact if_pos hx
            rw [e]
            obtain ⟨σ', f1, f2⟩ := pass
            refine ⟨σ', ?_, f2⟩
            by_cases hrb : roads.testBit r = true
            · simp (disch := omega) only [n_cl, n_lt, n_le, n_eq, n_lt0, n_0lt, n_le0, n_eq0, n_gneq, n_ngeq, n_ng0, n_nglt, n_glt, n_gle, n_ltg, n_leg, n_gg, n_ge0, n_add, n_mul, n_rem, n_shl1, n_and, n_or, n_bit, n_not, n_not', n_B1, n_B0, n_BB, obind, xite_T, xite_F, xite_not, xite_same, oI_s, oI_n, Bool.false_eq_true, reduceCtorEq, eq_self, Classical.not_not, bI_T, bI_Fa, bI_0, bI_n0, bI_x, xb_0, xb_1, xite_bI, xite_bI', not_true_eq_false, not_false_eq_true, Nat.zero_add, Nat.add_zero, Nat.mul_zero, Nat.mul_one, Nat.one_mul, reduceIte, Nat.reduceEqDiff, Nat.reduceAdd, Nat.reduceMul, Nat.reduceSub, Nat.reduceLT, Nat.reduceLeDiff, Nat.reducePow, ite_true, ite_false, if_true, if_false, and_true, true_and, false_and, and_false, or_false, false_or, true_or, or_true, ne_eq, xite_t, xite_f, h.2.2.1, M16 _ _ h hr' hpl, ho, hrb]
              exact f1
            · have hrb' : roads.testBit r = false := by cases c : roads.testBit r with | true => exact absurd c hrb | false => rfl
              have hf := hx.resolve_left hrb
              simp (disch := omega) only [n_cl, n_lt, n_le, n_eq, n_lt0, n_0lt, n_le0, n_eq0, n_gneq, n_ngeq, n_ng0, n_nglt, n_glt, n_gle, n_ltg, n_leg, n_gg, n_ge0, n_add, n_mul, n_rem, n_shl1, n_and, n_or, n_bit, n_not, n_not', n_B1, n_B0, n_BB, obind, xite_T, xite_F, xite_not, xite_same, oI_s, oI_n, Bool.false_eq_true, reduceCtorEq, eq_self, Classical.not_not, bI_T, bI_Fa, bI_0, bI_n0, bI_x, xb_0, xb_1, xite_bI, xite_bI', not_true_eq_false, not_false_eq_true, Nat.zero_add, Nat.add_zero, Nat.mul_zero, Nat.mul_one, Nat.one_mul, reduceIte, Nat.reduceEqDiff, Nat.reduceAdd, Nat.reduceMul, Nat.reduceSub, Nat.reduceLT, Nat.reduceLeDiff, Nat.reducePow, ite_true, ite_false, if_true, if_false, and_true, true_and, false_and, and_false, or_false, false_or, true_or, or_true, ne_eq, xite_t, xite_f, h.2.2.1, M16 _ _ h hr' hpl, ho, hrb', M17 _ _ h hr' hg, hf]
              exact f1
          · have hrb' : roads.testBit r = false := by cases c : roads.testBit r with | true => exact absurd (Or.inl c) hx | false => rfl
            have hf : fre X g r = true := by cases c : fre X g r with | false => exact absurd (Or.inr c) hx | true => rfl
            have eS : rS X g home m pl been roads mil r acc = (if been.testBit q = true then (if q = home then mn (mil + xaM X r) acc else acc) else rF X g home m q (been ||| 2 ^ q) (roads ||| 2 ^ r) (mil + xaM X r) (if q = home then mn (mil + xaM X r) acc else acc)) := by
              unfold rS
              rw [ho]
              exact if_neg hx
            rw [eS]
            have second : ∀ acc1 σ1, ML (rI σ1 18 0) (xaR X) X → rI σ1 17 0 25 = oI 4 acc1 → bO 100 acc1 → xF S51 σ σ1 → ∃ σ', run (d + m + 4) (51, 92, [some (.inr (.inr (17, (some 0)))), some (.inl (nI (g))), some (.inl (nI (pl))), some (.inl (nI (home))), some (.inl (nI (been))), some (.inl (nI (roads))), some (.inl (nI (mil))), some (.inl (nI (r))), some (.inl (nI (q))), some (.inl (nI (mil + xaM X r)))], [], σ1) = some ((0, 0, none), σ') ∧ rI σ' 17 0 25 = oI 4 (fl (rS X g home m pl been roads mil) j (r + 1) (if been.testBit q = true then acc1 else rF X g home m q (been ||| 2 ^ q) (roads ||| 2 ^ r) (mil + xaM X r) acc1)) ∧ xF S51 σ σ' := by
              intro acc1 σ1 h1 he1 hb1 hF1
              rw [B51_92]
              cases hbq : been.testBit q with
              | true =>
                obtain ⟨σ', f1, f2, f3⟩ := ij (r + 1) acc1 σ1 (by omega) h1 he1 hb1
                refine ⟨σ', ?_, f2, xF_trans hF1 f3⟩
                simp (disch := omega) only [n_cl, n_lt, n_le, n_eq, n_lt0, n_0lt, n_le0, n_eq0, n_gneq, n_ngeq, n_ng0, n_nglt, n_glt, n_gle, n_ltg, n_leg, n_gg, n_ge0, n_add, n_mul, n_rem, n_shl1, n_and, n_or, n_bit, n_not, n_not', n_B1, n_B0, n_BB, obind, xite_T, xite_F, xite_not, xite_same, oI_s, oI_n, Bool.false_eq_true, reduceCtorEq, eq_self, Classical.not_not, bI_T, bI_Fa, bI_0, bI_n0, bI_x, xb_0, xb_1, xite_bI, xite_bI', not_true_eq_false, not_false_eq_true, Nat.zero_add, Nat.add_zero, Nat.mul_zero, Nat.mul_one, Nat.one_mul, reduceIte, Nat.reduceEqDiff, Nat.reduceAdd, Nat.reduceMul, Nat.reduceSub, Nat.reduceLT, Nat.reduceLeDiff, Nat.reducePow, ite_true, ite_false, if_true, if_false, and_true, true_and, false_and, and_false, or_false, false_or, true_or, or_true, ne_eq, xite_t, xite_f, hbq]
                exact f1
              | false =>
                have hpa := popf_add been hb q hq hbq
                have hro2 : roads ||| 2 ^ r < 512 := Nat.or_lt_two_pow (n := 9) hro (Nat.pow_lt_pow_right (by omega) (by omega))
                obtain ⟨σ2, g1, g2, g3⟩ := ih d (n + 1) q (been ||| 2 ^ q) (roads ||| 2 ^ r) (mil + xaM X r) acc1 σ1 (by omega) h1 hq hpa.2 (by omega) hro2 (by omega) he1 hb1
                obtain ⟨σ', f1, f2, f3⟩ := ij (r + 1) (rF X g home m q (been ||| 2 ^ q) (roads ||| 2 ^ r) (mil + xaM X r) acc1) σ2 (by omega) (by rw [xF_I g3 (fun k => by unfold S51; omega)]; exact h1) g2 (rF_bO hX _ _ _ _ _ _ (by omega) hb1)
                refine ⟨σ', ?_, f2, xF_trans (xF_trans hF1 g3) f3⟩
                simp (disch := omega) only [n_cl, n_lt, n_le, n_eq, n_lt0, n_0lt, n_le0, n_eq0, n_gneq, n_ngeq, n_ng0, n_nglt, n_glt, n_gle, n_ltg, n_leg, n_gg, n_ge0, n_add, n_mul, n_rem, n_shl1, n_and, n_or, n_bit, n_not, n_not', n_B1, n_B0, n_BB, obind, xite_T, xite_F, xite_not, xite_same, oI_s, oI_n, Bool.false_eq_true, reduceCtorEq, eq_self, Classical.not_not, bI_T, bI_Fa, bI_0, bI_n0, bI_x, xb_0, xb_1, xite_bI, xite_bI', not_true_eq_false, not_false_eq_true, Nat.zero_add, Nat.add_zero, Nat.mul_zero, Nat.mul_one, Nat.one_mul, reduceIte, Nat.reduceEqDiff, Nat.reduceAdd, Nat.reduceMul, Nat.reduceSub, Nat.reduceLT, Nat.reduceLeDiff, Nat.reducePow, ite_true, ite_false, if_true, if_false, and_true, true_and, false_and, and_false, or_false, false_or, true_or, or_true, ne_eq, xite_t, xite_f, hbq]
                rw [g1]
                exact f1
            by_cases hqh : q = home
            · subst hqh
              have hw : xF S51 σ (wI σ 17 0 25 (nI (mil + xaM X r))) := xF_wI (xF_refl σ) _ ⟨rfl, rfl⟩
              have hMw : ML (rI (wI σ 17 0 25 (nI (mil + xaM X r))) 18 0) (xaR X) X := by simp (disch := omega) only [n_cl, n_lt, n_le, n_eq, n_lt0, n_0lt, n_le0, n_eq0, n_gneq, n_ngeq, n_ng0, n_nglt, n_glt, n_gle, n_ltg, n_leg, n_gg, n_ge0, n_add, n_mul, n_rem, n_shl1, n_and, n_or, n_bit, n_not, n_not', n_B1, n_B0, n_BB, obind, xite_T, xite_F, xite_not, xite_same, oI_s, oI_n, Bool.false_eq_true, reduceCtorEq, eq_self, Classical.not_not, bI_T, bI_Fa, bI_0, bI_n0, bI_x, xb_0, xb_1, xite_bI, xite_bI', not_true_eq_false, not_false_eq_true, Nat.zero_add, Nat.add_zero, Nat.mul_zero, Nat.mul_one, Nat.one_mul, reduceIte, Nat.reduceEqDiff, Nat.reduceAdd, Nat.reduceMul, Nat.reduceSub, Nat.reduceLT, Nat.reduceLeDiff, Nat.reducePow, ite_true, ite_false, if_true, if_false, and_true, true_and, false_and, and_false, or_false, false_or, true_or, or_true, ne_eq, xite_t, xite_f, w_I2, w_Is, w_In, w_IL, w_IP, w_IC, w_LI, w_LP, w_LC, w_PI, w_PL, w_PC]; exact h
              rw [if_pos rfl]
              cases acc with
              | none =>
                obtain ⟨σ', f1, f2⟩ := second (mn (mil + xaM X r) none) _ hMw (by simp (disch := omega) only [n_cl, n_lt, n_le, n_eq, n_lt0, n_0lt, n_le0, n_eq0, n_gneq, n_ngeq, n_ng0, n_nglt, n_glt, n_gle, n_ltg, n_leg, n_gg, n_ge0, n_add, n_mul, n_rem, n_shl1, n_and, n_or, n_bit, n_not, n_not', n_B1, n_B0, n_BB, obind, xite_T, xite_F, xite_not, xite_same, oI_s, oI_n, Bool.false_eq_true, reduceCtorEq, eq_self, Classical.not_not, bI_T, bI_Fa, bI_0, bI_n0, bI_x, xb_0, xb_1, xite_bI, xite_bI', not_true_eq_false, not_false_eq_true, Nat.zero_add, Nat.add_zero, Nat.mul_zero, Nat.mul_one, Nat.one_mul, reduceIte, Nat.reduceEqDiff, Nat.reduceAdd, Nat.reduceMul, Nat.reduceSub, Nat.reduceLT, Nat.reduceLeDiff, Nat.reducePow, ite_true, ite_false, if_true, if_false, and_true, true_and, false_and, and_false, or_false, false_or, true_or, or_true, ne_eq, xite_t, xite_f, w_I2, w_Is, w_In, w_IL, w_IP, w_IC, w_LI, w_LP, w_LC, w_PI, w_PL, w_PC]; rfl) (mn_bO hbo (by omega)) hw
                refine ⟨σ', ?_, f2⟩
                simp (disch := omega) only [n_cl, n_lt, n_le, n_eq, n_lt0, n_0lt, n_le0, n_eq0, n_gneq, n_ngeq, n_ng0, n_nglt, n_glt, n_gle, n_ltg, n_leg, n_gg, n_ge0, n_add, n_mul, n_rem, n_shl1, n_and, n_or, n_bit, n_not, n_not', n_B1, n_B0, n_BB, obind, xite_T, xite_F, xite_not, xite_same, oI_s, oI_n, Bool.false_eq_true, reduceCtorEq, eq_self, Classical.not_not, bI_T, bI_Fa, bI_0, bI_n0, bI_x, xb_0, xb_1, xite_bI, xite_bI', not_true_eq_false, not_false_eq_true, Nat.zero_add, Nat.add_zero, Nat.mul_zero, Nat.mul_one, Nat.one_mul, reduceIte, Nat.reduceEqDiff, Nat.reduceAdd, Nat.reduceMul, Nat.reduceSub, Nat.reduceLT, Nat.reduceLeDiff, Nat.reducePow, ite_true, ite_false, if_true, if_false, and_true, true_and, false_and, and_false, or_false, false_or, true_or, or_true, ne_eq, xite_t, xite_f, h.2.2.1, M16 _ _ h hr' hpl, ho, hrb', M17 _ _ h hr' hg, hf, M8_2 _ _ h hr', he]
                exact f1
              | some v0 =>
                have hv0 := hbo v0 rfl
                by_cases hle : v0 ≤ mil + xaM X r
                · have e : mn (mil + xaM X r) (some v0) = some v0 := if_pos hle
                  obtain ⟨σ', f1, f2⟩ := second (some v0) σ h he hbo (xF_refl σ)
                  rw [e]
                  refine ⟨σ', ?_, f2⟩
                  simp (disch := omega) only [n_cl, n_lt, n_le, n_eq, n_lt0, n_0lt, n_le0, n_eq0, n_gneq, n_ngeq, n_ng0, n_nglt, n_glt, n_gle, n_ltg, n_leg, n_gg, n_ge0, n_add, n_mul, n_rem, n_shl1, n_and, n_or, n_bit, n_not, n_not', n_B1, n_B0, n_BB, obind, xite_T, xite_F, xite_not, xite_same, oI_s, oI_n, Bool.false_eq_true, reduceCtorEq, eq_self, Classical.not_not, bI_T, bI_Fa, bI_0, bI_n0, bI_x, xb_0, xb_1, xite_bI, xite_bI', not_true_eq_false, not_false_eq_true, Nat.zero_add, Nat.add_zero, Nat.mul_zero, Nat.mul_one, Nat.one_mul, reduceIte, Nat.reduceEqDiff, Nat.reduceAdd, Nat.reduceMul, Nat.reduceSub, Nat.reduceLT, Nat.reduceLeDiff, Nat.reducePow, ite_true, ite_false, if_true, if_false, and_true, true_and, false_and, and_false, or_false, false_or, true_or, or_true, ne_eq, xite_t, xite_f, h.2.2.1, M16 _ _ h hr' hpl, ho, hrb', M17 _ _ h hr' hg, hf, M8_2 _ _ h hr', he]
                  exact f1
                · have e : mn (mil + xaM X r) (some v0) = some (mil + xaM X r) := if_neg hle
                  obtain ⟨σ', f1, f2⟩ := second (some (mil + xaM X r)) _ hMw (by simp (disch := omega) only [n_cl, n_lt, n_le, n_eq, n_lt0, n_0lt, n_le0, n_eq0, n_gneq, n_ngeq, n_ng0, n_nglt, n_glt, n_gle, n_ltg, n_leg, n_gg, n_ge0, n_add, n_mul, n_rem, n_shl1, n_and, n_or, n_bit, n_not, n_not', n_B1, n_B0, n_BB, obind, xite_T, xite_F, xite_not, xite_same, oI_s, oI_n, Bool.false_eq_true, reduceCtorEq, eq_self, Classical.not_not, bI_T, bI_Fa, bI_0, bI_n0, bI_x, xb_0, xb_1, xite_bI, xite_bI', not_true_eq_false, not_false_eq_true, Nat.zero_add, Nat.add_zero, Nat.mul_zero, Nat.mul_one, Nat.one_mul, reduceIte, Nat.reduceEqDiff, Nat.reduceAdd, Nat.reduceMul, Nat.reduceSub, Nat.reduceLT, Nat.reduceLeDiff, Nat.reducePow, ite_true, ite_false, if_true, if_false, and_true, true_and, false_and, and_false, or_false, false_or, true_or, or_true, ne_eq, xite_t, xite_f, w_I2, w_Is, w_In, w_IL, w_IP, w_IC, w_LI, w_LP, w_LC, w_PI, w_PL, w_PC]) (fun v hv => by cases hv; omega) hw
                  rw [e]
                  refine ⟨σ', ?_, f2⟩
                  simp (disch := omega) only [n_cl, n_lt, n_le, n_eq, n_lt0, n_0lt, n_le0, n_eq0, n_gneq, n_ngeq, n_ng0, n_nglt, n_glt, n_gle, n_ltg, n_leg, n_gg, n_ge0, n_add, n_mul, n_rem, n_shl1, n_and, n_or, n_bit, n_not, n_not', n_B1, n_B0, n_BB, obind, xite_T, xite_F, xite_not, xite_same, oI_s, oI_n, Bool.false_eq_true, reduceCtorEq, eq_self, Classical.not_not, bI_T, bI_Fa, bI_0, bI_n0, bI_x, xb_0, xb_1, xite_bI, xite_bI', not_true_eq_false, not_false_eq_true, Nat.zero_add, Nat.add_zero, Nat.mul_zero, Nat.mul_one, Nat.one_mul, reduceIte, Nat.reduceEqDiff, Nat.reduceAdd, Nat.reduceMul, Nat.reduceSub, Nat.reduceLT, Nat.reduceLeDiff, Nat.reducePow, ite_true, ite_false, if_true, if_false, and_true, true_and, false_and, and_false, or_false, false_or, true_or, or_true, ne_eq, xite_t, xite_f, h.2.2.1, M16 _ _ h hr' hpl, ho, hrb', M17 _ _ h hr' hg, hf, M8_2 _ _ h hr', he]
                  exact f1
            · rw [if_neg hqh]
              obtain ⟨σ', f1, f2⟩ := second acc σ h he hbo (xF_refl σ)
              refine ⟨σ', ?_, f2⟩
              simp (disch := omega) only [n_cl, n_lt, n_le, n_eq, n_lt0, n_0lt, n_le0, n_eq0, n_gneq, n_ngeq, n_ng0, n_nglt, n_glt, n_gle, n_ltg, n_leg, n_gg, n_ge0, n_add, n_mul, n_rem, n_shl1, n_and, n_or, n_bit, n_not, n_not', n_B1, n_B0, n_BB, obind, xite_T, xite_F, xite_not, xite_same, oI_s, oI_n, Bool.false_eq_true, reduceCtorEq, eq_self, Classical.not_not, bI_T, bI_Fa, bI_0, bI_n0, bI_x, xb_0, xb_1, xite_bI, xite_bI', not_true_eq_false, not_false_eq_true, Nat.zero_add, Nat.add_zero, Nat.mul_zero, Nat.mul_one, Nat.one_mul, reduceIte, Nat.reduceEqDiff, Nat.reduceAdd, Nat.reduceMul, Nat.reduceSub, Nat.reduceLT, Nat.reduceLeDiff, Nat.reducePow, ite_true, ite_false, if_true, if_false, and_true, true_and, false_and, and_false, or_false, false_or, true_or, or_true, ne_eq, xite_t, xite_f, h.2.2.1, M16 _ _ h hr' hpl, ho, hrb', M17 _ _ h hr' hg, hf, M8_2 _ _ h hr', hqh]
              exact f1
    obtain ⟨σ', f1, f2, f3⟩ := loop (xaR X) 0 acc σ (by omega) h he hbo
    refine ⟨σ', ?_, by rw [rF_s]; exact f2, f3⟩
    show run (d + m + 3 + 1) _ = _
    rw [B51_0]
    exact f1
theorem C152 (d : Nat) {g a : Nat} {X : mX} (hg : g < 4) (ha : a < xaP X) : ∀ m r acc σ, r + m = xaR X → CL σ 0 X → bO 2000 acc → ∃ σ', run (d + 4) (152, 27, [some (.inr (.inr (0, (some 0)))), some (.inl (nI (g))), some (.inl (nI (a))), some (.inl (oI 4 acc)), some (.inl (nI (r))), none, none], [], σ) = some ((oI 4 (fl (crS X g a) m r acc), 0, none), σ') ∧ xF (S104 0) σ σ' := by
  intro m
  induction m with
  | zero =>
    intro r acc σ hr h _
    have hR9 := h.1.2.2.1
    have e : r = xaR X := by omega
    subst e
    refine ⟨σ, ?_, xF_refl σ⟩
    rw [B152_27]
    simp (disch := omega) only [n_cl, n_lt, n_le, n_eq, n_lt0, n_0lt, n_le0, n_eq0, n_gneq, n_ngeq, n_ng0, n_nglt, n_glt, n_gle, n_ltg, n_leg, n_gg, n_ge0, n_add, n_mul, n_rem, n_shl1, n_and, n_or, n_bit, n_not, n_not', n_B1, n_B0, n_BB, obind, xite_T, xite_F, xite_not, xite_same, oI_s, oI_n, Bool.false_eq_true, reduceCtorEq, eq_self, Classical.not_not, bI_T, bI_Fa, bI_0, bI_n0, bI_x, xb_0, xb_1, xite_bI, xite_bI', not_true_eq_false, not_false_eq_true, Nat.zero_add, Nat.add_zero, Nat.mul_zero, Nat.mul_one, Nat.one_mul, reduceIte, Nat.reduceEqDiff, Nat.reduceAdd, Nat.reduceMul, Nat.reduceSub, Nat.reduceLT, Nat.reduceLeDiff, Nat.reducePow, ite_true, ite_false, if_true, if_false, and_true, true_and, false_and, and_false, or_false, false_or, true_or, or_true, ne_eq, xite_t, xite_f, h.2.2.1]
    rfl
  | succ m ih =>
    intro r acc σ hr h hbo
    have hX := h.1
    have hR9 := hX.2.2.1
    have hP6 := hX.2.1
    have hr' : r < xaR X := by omega
    have hb2 := hX.2.2.2.2.2.1 r hr'
    have hM := (h.2.2.2.2.1 r hr').2.2
    show ∃ σ', _ = some ((oI 4 (fl (crS X g a) m (r + 1) (crS X g a r acc)), 0, none), σ') ∧ _
    rw [B152_27]
    cases ho : oth X r a with
    | none =>
      have e : crS X g a r acc = acc := by unfold crS; rw [ho]
      rw [e]
      obtain ⟨σ', f1, f2⟩ := ih (r + 1) acc σ (by omega) h hbo
      refine ⟨σ', ?_, f2⟩
      simp (disch := omega) only [n_cl, n_lt, n_le, n_eq, n_lt0, n_0lt, n_le0, n_eq0, n_gneq, n_ngeq, n_ng0, n_nglt, n_glt, n_gle, n_ltg, n_leg, n_gg, n_ge0, n_add, n_mul, n_rem, n_shl1, n_and, n_or, n_bit, n_not, n_not', n_B1, n_B0, n_BB, obind, xite_T, xite_F, xite_not, xite_same, oI_s, oI_n, Bool.false_eq_true, reduceCtorEq, eq_self, Classical.not_not, bI_T, bI_Fa, bI_0, bI_n0, bI_x, xb_0, xb_1, xite_bI, xite_bI', not_true_eq_false, not_false_eq_true, Nat.zero_add, Nat.add_zero, Nat.mul_zero, Nat.mul_one, Nat.one_mul, reduceIte, Nat.reduceEqDiff, Nat.reduceAdd, Nat.reduceMul, Nat.reduceSub, Nat.reduceLT, Nat.reduceLeDiff, Nat.reducePow, ite_true, ite_false, if_true, if_false, and_true, true_and, false_and, and_false, or_false, false_or, true_or, or_true, ne_eq, xite_t, xite_f, h.2.2.1, C103 _ _ h hr' (show a < 6 by omega), ho]
      exact f1
    | some x =>
      have hq := oth_lt hX hr' ho
      have hon := oth_ne hX hr' ho
      by_cases hf : fre X g r = true
      · obtain ⟨σ1, k1, k2⟩ := C104 d σ (a := x) (b := a) (wo := some r) (w := nI r) h hg hon.2.2.1 ha rfl (fun r h => by cases h; omega)
        have h1 := CL_7 h k2
        have hM1 := (h1.2.2.2.2.1 r hr').2.2
        cases hd : dst X (Ew X g (some r)) x a with
        | none =>
          have e : crS X g a r acc = acc := by unfold crS; rw [ho]; show (if _ then _ else _) = _; rw [if_pos hf, hd]
          rw [e]
          rw [hd] at k1
          obtain ⟨σ', f1, f2⟩ := ih (r + 1) acc σ1 (by omega) h1 hbo
          refine ⟨σ', ?_, xF_trans k2 f2⟩
          simp (disch := omega) only [n_cl, n_lt, n_le, n_eq, n_lt0, n_0lt, n_le0, n_eq0, n_gneq, n_ngeq, n_ng0, n_nglt, n_glt, n_gle, n_ltg, n_leg, n_gg, n_ge0, n_add, n_mul, n_rem, n_shl1, n_and, n_or, n_bit, n_not, n_not', n_B1, n_B0, n_BB, obind, xite_T, xite_F, xite_not, xite_same, oI_s, oI_n, Bool.false_eq_true, reduceCtorEq, eq_self, Classical.not_not, bI_T, bI_Fa, bI_0, bI_n0, bI_x, xb_0, xb_1, xite_bI, xite_bI', not_true_eq_false, not_false_eq_true, Nat.zero_add, Nat.add_zero, Nat.mul_zero, Nat.mul_one, Nat.one_mul, reduceIte, Nat.reduceEqDiff, Nat.reduceAdd, Nat.reduceMul, Nat.reduceSub, Nat.reduceLT, Nat.reduceLeDiff, Nat.reducePow, ite_true, ite_false, if_true, if_false, and_true, true_and, false_and, and_false, or_false, false_or, true_or, or_true, ne_eq, xite_t, xite_f, h.2.2.1, C103 _ _ h hr' (show a < 6 by omega), ho, C100 _ _ h hr' hg, hf, k1]
          exact f1
        | some L =>
          have hL := dst_bnd hX hd
          have e : crS X g a r acc = mn (xaM X r + L) acc := by unfold crS; rw [ho]; show (if _ then _ else _) = _; rw [if_pos hf, hd]
          rw [e]
          rw [hd] at k1
          obtain ⟨σ', f1, f2⟩ := ih (r + 1) (mn (xaM X r + L) acc) σ1 (by omega) h1 (mn_bO hbo (by omega))
          refine ⟨σ', ?_, xF_trans k2 f2⟩
          cases acc with
          | none =>
            simp (disch := omega) only [n_cl, n_lt, n_le, n_eq, n_lt0, n_0lt, n_le0, n_eq0, n_gneq, n_ngeq, n_ng0, n_nglt, n_glt, n_gle, n_ltg, n_leg, n_gg, n_ge0, n_add, n_mul, n_rem, n_shl1, n_and, n_or, n_bit, n_not, n_not', n_B1, n_B0, n_BB, obind, xite_T, xite_F, xite_not, xite_same, oI_s, oI_n, Bool.false_eq_true, reduceCtorEq, eq_self, Classical.not_not, bI_T, bI_Fa, bI_0, bI_n0, bI_x, xb_0, xb_1, xite_bI, xite_bI', not_true_eq_false, not_false_eq_true, Nat.zero_add, Nat.add_zero, Nat.mul_zero, Nat.mul_one, Nat.one_mul, reduceIte, Nat.reduceEqDiff, Nat.reduceAdd, Nat.reduceMul, Nat.reduceSub, Nat.reduceLT, Nat.reduceLeDiff, Nat.reducePow, ite_true, ite_false, if_true, if_false, and_true, true_and, false_and, and_false, or_false, false_or, true_or, or_true, ne_eq, xite_t, xite_f, h.2.2.1, C103 _ _ h hr' (show a < 6 by omega), ho, C100 _ _ h hr' hg, hf, k1, hM1]
            exact f1
          | some v0 =>
            have hv0 := hbo v0 rfl
            by_cases hle : v0 ≤ xaM X r + L
            · have e : mn (xaM X r + L) (some v0) = some v0 := if_pos hle
              rw [e] at f1
              rw [e]
              simp (disch := omega) only [n_cl, n_lt, n_le, n_eq, n_lt0, n_0lt, n_le0, n_eq0, n_gneq, n_ngeq, n_ng0, n_nglt, n_glt, n_gle, n_ltg, n_leg, n_gg, n_ge0, n_add, n_mul, n_rem, n_shl1, n_and, n_or, n_bit, n_not, n_not', n_B1, n_B0, n_BB, obind, xite_T, xite_F, xite_not, xite_same, oI_s, oI_n, Bool.false_eq_true, reduceCtorEq, eq_self, Classical.not_not, bI_T, bI_Fa, bI_0, bI_n0, bI_x, xb_0, xb_1, xite_bI, xite_bI', not_true_eq_false, not_false_eq_true, Nat.zero_add, Nat.add_zero, Nat.mul_zero, Nat.mul_one, Nat.one_mul, reduceIte, Nat.reduceEqDiff, Nat.reduceAdd, Nat.reduceMul, Nat.reduceSub, Nat.reduceLT, Nat.reduceLeDiff, Nat.reducePow, ite_true, ite_false, if_true, if_false, and_true, true_and, false_and, and_false, or_false, false_or, true_or, or_true, ne_eq, xite_t, xite_f, h.2.2.1, C103 _ _ h hr' (show a < 6 by omega), ho, C100 _ _ h hr' hg, hf, k1, hM1]
              exact f1
            · have e : mn (xaM X r + L) (some v0) = some (xaM X r + L) := if_neg hle
              rw [e] at f1
              rw [e]
              simp (disch := omega) only [n_cl, n_lt, n_le, n_eq, n_lt0, n_0lt, n_le0, n_eq0, n_gneq, n_ngeq, n_ng0, n_nglt, n_glt, n_gle, n_ltg, n_leg, n_gg, n_ge0, n_add, n_mul, n_rem, n_shl1, n_and, n_or, n_bit, n_not, n_not', n_B1, n_B0, n_BB, obind, xite_T, xite_F, xite_not, xite_same, oI_s, oI_n, Bool.false_eq_true, reduceCtorEq, eq_self, Classical.not_not, bI_T, bI_Fa, bI_0, bI_n0, bI_x, xb_0, xb_1, xite_bI, xite_bI', not_true_eq_false, not_false_eq_true, Nat.zero_add, Nat.add_zero, Nat.mul_zero, Nat.mul_one, Nat.one_mul, reduceIte, Nat.reduceEqDiff, Nat.reduceAdd, Nat.reduceMul, Nat.reduceSub, Nat.reduceLT, Nat.reduceLeDiff, Nat.reducePow, ite_true, ite_false, if_true, if_false, and_true, true_and, false_and, and_false, or_false, false_or, true_or, or_true, ne_eq, xite_t, xite_f, h.2.2.1, C103 _ _ h hr' (show a < 6 by omega), ho, C100 _ _ h hr' hg, hf, k1, hM1]
              exact f1
      · have e : crS X g a r acc = acc := by unfold crS; rw [ho]; exact if_neg hf
        rw [e]
        obtain ⟨σ', f1, f2⟩ := ih (r + 1) acc σ (by omega) h hbo
        refine ⟨σ', ?_, f2⟩
        simp (disch := omega) only [n_cl, n_lt, n_le, n_eq, n_lt0, n_0lt, n_le0, n_eq0, n_gneq, n_ngeq, n_ng0, n_nglt, n_glt, n_gle, n_ltg, n_leg, n_gg, n_ge0, n_add, n_mul, n_rem, n_shl1, n_and, n_or, n_bit, n_not, n_not', n_B1, n_B0, n_BB, obind, xite_T, xite_F, xite_not, xite_same, oI_s, oI_n, Bool.false_eq_true, reduceCtorEq, eq_self, Classical.not_not, bI_T, bI_Fa, bI_0, bI_n0, bI_x, xb_0, xb_1, xite_bI, xite_bI', not_true_eq_false, not_false_eq_true, Nat.zero_add, Nat.add_zero, Nat.mul_zero, Nat.mul_one, Nat.one_mul, reduceIte, Nat.reduceEqDiff, Nat.reduceAdd, Nat.reduceMul, Nat.reduceSub, Nat.reduceLT, Nat.reduceLeDiff, Nat.reducePow, ite_true, ite_false, if_true, if_false, and_true, true_and, false_and, and_false, or_false, false_or, true_or, or_true, ne_eq, xite_t, xite_f, h.2.2.1, C103 _ _ h hr' (show a < 6 by omega), ho, C100 _ _ h hr' hg, hf]
        exact f1
theorem duo_round (d : Nat) (S : mG) (hX : WX (xaR S.1) S.1) (g a : Int32) : Duo (d + 60) (fun σ => xentry 152 [.inr (.inr (0, (some 0))), .inl g, .inl a] σ) (fun σ => xentry 52 [.inr (.inr (17, (some 0))), .inl g, .inl a] σ) S := by
  have hP6 := hX.2.1
  by_cases h1 : inb g 4
  · by_cases h2 : inb a (xaP S.1)
    · obtain ⟨g', hg, eg⟩ := inb_of h1 (by omega)
      obtain ⟨a', ha, ea⟩ := inb_of h2 (by omega)
      subst eg ea
      have hp := p2_lt a' (by omega)
      have key : rF S.1 g' a' 6 a' (2 ^ a') 0 0 none = fl (crS S.1 g' a') (xaR S.1) 0 none := LC_u (rF_LC hX ha) (cr_LC hX)
      refine ⟨oI 4 (fl (crS S.1 g' a') (xaR S.1) 0 none), S, fun σ h => ?_, fun σ h => ?_⟩
      · obtain ⟨σ1, f1, f2⟩ := C152 (d + 56) hg ha (xaR S.1) 0 none σ (by omega) h.1 (fun v h => by cases h)
        refine ⟨σ1, ?_, CI_Scr h (xF_le f2 S104_S), kC_F f2 (fun r j k s => Scr_16 _ _ _ (S104_S _ _ _ s))⟩
        show run (d + 60) (xentry 152 _ σ) = _
        rw [B152_0, C166 _ _ _ (by omega)]
        simp (disch := omega) only [n_cl, n_lt, n_le, n_eq, n_lt0, n_0lt, n_le0, n_eq0, n_gneq, n_ngeq, n_ng0, n_nglt, n_glt, n_gle, n_ltg, n_leg, n_gg, n_ge0, n_add, n_mul, n_rem, n_shl1, n_and, n_or, n_bit, n_not, n_not', n_B1, n_B0, n_BB, obind, xite_T, xite_F, xite_not, xite_same, oI_s, oI_n, Bool.false_eq_true, reduceCtorEq, eq_self, Classical.not_not, bI_T, bI_Fa, bI_0, bI_n0, bI_x, xb_0, xb_1, xite_bI, xite_bI', not_true_eq_false, not_false_eq_true, Nat.zero_add, Nat.add_zero, Nat.mul_zero, Nat.mul_one, Nat.one_mul, reduceIte, Nat.reduceEqDiff, Nat.reduceAdd, Nat.reduceMul, Nat.reduceSub, Nat.reduceLT, Nat.reduceLeDiff, Nat.reducePow, ite_true, ite_false, if_true, if_false, and_true, true_and, false_and, and_false, or_false, false_or, true_or, or_true, ne_eq, xite_t, xite_f, h1, h2, C92 _ _ _ h.1]
        exact f1
      · obtain ⟨σ1, f1, f2, f3⟩ := M51 S.1 g' a' hg (by omega) 6 (d + 50) 0 a' (2 ^ a') 0 0 none (wI σ 17 0 25 (-nI 4)) rfl (by simp (disch := omega) only [n_cl, n_lt, n_le, n_eq, n_lt0, n_0lt, n_le0, n_eq0, n_gneq, n_ngeq, n_ng0, n_nglt, n_glt, n_gle, n_ltg, n_leg, n_gg, n_ge0, n_add, n_mul, n_rem, n_shl1, n_and, n_or, n_bit, n_not, n_not', n_B1, n_B0, n_BB, obind, xite_T, xite_F, xite_not, xite_same, oI_s, oI_n, Bool.false_eq_true, reduceCtorEq, eq_self, Classical.not_not, bI_T, bI_Fa, bI_0, bI_n0, bI_x, xb_0, xb_1, xite_bI, xite_bI', not_true_eq_false, not_false_eq_true, Nat.zero_add, Nat.add_zero, Nat.mul_zero, Nat.mul_one, Nat.one_mul, reduceIte, Nat.reduceEqDiff, Nat.reduceAdd, Nat.reduceMul, Nat.reduceSub, Nat.reduceLT, Nat.reduceLeDiff, Nat.reducePow, ite_true, ite_false, if_true, if_false, and_true, true_and, false_and, and_false, or_false, false_or, true_or, or_true, ne_eq, xite_t, xite_f, w_I2, w_Is, w_In, w_IL, w_IP, w_IC, w_LI, w_LP, w_LC, w_PI, w_PL, w_PC]; exact h.1) (by omega) hp.1 hp.2 (by omega) (by omega) (by simp (disch := omega) only [n_cl, n_lt, n_le, n_eq, n_lt0, n_0lt, n_le0, n_eq0, n_gneq, n_ngeq, n_ng0, n_nglt, n_glt, n_gle, n_ltg, n_leg, n_gg, n_ge0, n_add, n_mul, n_rem, n_shl1, n_and, n_or, n_bit, n_not, n_not', n_B1, n_B0, n_BB, obind, xite_T, xite_F, xite_not, xite_same, oI_s, oI_n, Bool.false_eq_true, reduceCtorEq, eq_self, Classical.not_not, bI_T, bI_Fa, bI_0, bI_n0, bI_x, xb_0, xb_1, xite_bI, xite_bI', not_true_eq_false, not_false_eq_true, Nat.zero_add, Nat.add_zero, Nat.mul_zero, Nat.mul_one, Nat.one_mul, reduceIte, Nat.reduceEqDiff, Nat.reduceAdd, Nat.reduceMul, Nat.reduceSub, Nat.reduceLT, Nat.reduceLeDiff, Nat.reducePow, ite_true, ite_false, if_true, if_false, and_true, true_and, false_and, and_false, or_false, false_or, true_or, or_true, ne_eq, xite_t, xite_f, w_I2, w_Is, w_In, w_IL, w_IP, w_IC, w_LI, w_LP, w_LC, w_PI, w_PL, w_PC]) (fun v h => by cases h)
        have hF : xF S51 σ σ1 := xF_trans (xF_wI (xF_refl σ) _ ⟨rfl, rfl⟩) f3
        obtain ⟨m1, m2⟩ := MI_Z h (xF_le hF S51_X) (by rw [xF_I hF (fun k => by unfold S51; omega)]; exact h.1)
        refine ⟨σ1, ?_, m1, m2⟩
        have f1 : run (d + 59) (xentry 51 [.inr (.inr (17, (some 0))), .inl (nI g'), .inl (nI a'), .inl (nI a'), .inl (nI (2 ^ a')), .inl (nI 0), .inl (nI 0)] (wI σ 17 0 25 (-nI 4))) = some ((0, 0, none), σ1) := f1
        rw [key] at f2
        show run (d + 60) (xentry 52 _ σ) = _
        rw [B52_0, M6]
        simp (disch := omega) only [n_cl, n_lt, n_le, n_eq, n_lt0, n_0lt, n_le0, n_eq0, n_gneq, n_ngeq, n_ng0, n_nglt, n_glt, n_gle, n_ltg, n_leg, n_gg, n_ge0, n_add, n_mul, n_rem, n_shl1, n_and, n_or, n_bit, n_not, n_not', n_B1, n_B0, n_BB, obind, xite_T, xite_F, xite_not, xite_same, oI_s, oI_n, Bool.false_eq_true, reduceCtorEq, eq_self, Classical.not_not, bI_T, bI_Fa, bI_0, bI_n0, bI_x, xb_0, xb_1, xite_bI, xite_bI', not_true_eq_false, not_false_eq_true, Nat.zero_add, Nat.add_zero, Nat.mul_zero, Nat.mul_one, Nat.one_mul, reduceIte, Nat.reduceEqDiff, Nat.reduceAdd, Nat.reduceMul, Nat.reduceSub, Nat.reduceLT, Nat.reduceLeDiff, Nat.reducePow, ite_true, ite_false, if_true, if_false, and_true, true_and, false_and, and_false, or_false, false_or, true_or, or_true, ne_eq, xite_t, xite_f, h1, h2, M3 _ _ _ h.1, f1, f2]
    · refine duo_bad (-nI 1) (fun σ h => ?_) (fun σ h => ?_)
      · rw [B152_0, C166 _ _ _ (by omega)]
        simp (disch := omega) only [n_cl, n_lt, n_le, n_eq, n_lt0, n_0lt, n_le0, n_eq0, n_gneq, n_ngeq, n_ng0, n_nglt, n_glt, n_gle, n_ltg, n_leg, n_gg, n_ge0, n_add, n_mul, n_rem, n_shl1, n_and, n_or, n_bit, n_not, n_not', n_B1, n_B0, n_BB, obind, xite_T, xite_F, xite_not, xite_same, oI_s, oI_n, Bool.false_eq_true, reduceCtorEq, eq_self, Classical.not_not, bI_T, bI_Fa, bI_0, bI_n0, bI_x, xb_0, xb_1, xite_bI, xite_bI', not_true_eq_false, not_false_eq_true, Nat.zero_add, Nat.add_zero, Nat.mul_zero, Nat.mul_one, Nat.one_mul, reduceIte, Nat.reduceEqDiff, Nat.reduceAdd, Nat.reduceMul, Nat.reduceSub, Nat.reduceLT, Nat.reduceLeDiff, Nat.reducePow, ite_true, ite_false, if_true, if_false, and_true, true_and, false_and, and_false, or_false, false_or, true_or, or_true, ne_eq, h1, h2, C92 _ _ _ h.1]
      · rw [B52_0, M6]
        simp (disch := omega) only [n_cl, n_lt, n_le, n_eq, n_lt0, n_0lt, n_le0, n_eq0, n_gneq, n_ngeq, n_ng0, n_nglt, n_glt, n_gle, n_ltg, n_leg, n_gg, n_ge0, n_add, n_mul, n_rem, n_shl1, n_and, n_or, n_bit, n_not, n_not', n_B1, n_B0, n_BB, obind, xite_T, xite_F, xite_not, xite_same, oI_s, oI_n, Bool.false_eq_true, reduceCtorEq, eq_self, Classical.not_not, bI_T, bI_Fa, bI_0, bI_n0, bI_x, xb_0, xb_1, xite_bI, xite_bI', not_true_eq_false, not_false_eq_true, Nat.zero_add, Nat.add_zero, Nat.mul_zero, Nat.mul_one, Nat.one_mul, reduceIte, Nat.reduceEqDiff, Nat.reduceAdd, Nat.reduceMul, Nat.reduceSub, Nat.reduceLT, Nat.reduceLeDiff, Nat.reducePow, ite_true, ite_false, if_true, if_false, and_true, true_and, false_and, and_false, or_false, false_or, true_or, or_true, ne_eq, h1, h2, M3 _ _ _ h.1]
  · refine duo_bad (-nI 1) (fun σ h => ?_) (fun σ h => ?_)
    · rw [B152_0, C166 _ _ _ (by omega)]
      simp (disch := omega) only [n_cl, n_lt, n_le, n_eq, n_lt0, n_0lt, n_le0, n_eq0, n_gneq, n_ngeq, n_ng0, n_nglt, n_glt, n_gle, n_ltg, n_leg, n_gg, n_ge0, n_add, n_mul, n_rem, n_shl1, n_and, n_or, n_bit, n_not, n_not', n_B1, n_B0, n_BB, obind, xite_T, xite_F, xite_not, xite_same, oI_s, oI_n, Bool.false_eq_true, reduceCtorEq, eq_self, Classical.not_not, bI_T, bI_Fa, bI_0, bI_n0, bI_x, xb_0, xb_1, xite_bI, xite_bI', not_true_eq_false, not_false_eq_true, Nat.zero_add, Nat.add_zero, Nat.mul_zero, Nat.mul_one, Nat.one_mul, reduceIte, Nat.reduceEqDiff, Nat.reduceAdd, Nat.reduceMul, Nat.reduceSub, Nat.reduceLT, Nat.reduceLeDiff, Nat.reducePow, ite_true, ite_false, if_true, if_false, and_true, true_and, false_and, and_false, or_false, false_or, true_or, or_true, ne_eq, h1]
    · rw [B52_0, M6]
      simp (disch := omega) only [n_cl, n_lt, n_le, n_eq, n_lt0, n_0lt, n_le0, n_eq0, n_gneq, n_ngeq, n_ng0, n_nglt, n_glt, n_gle, n_ltg, n_leg, n_gg, n_ge0, n_add, n_mul, n_rem, n_shl1, n_and, n_or, n_bit, n_not, n_not', n_B1, n_B0, n_BB, obind, xite_T, xite_F, xite_not, xite_same, oI_s, oI_n, Bool.false_eq_true, reduceCtorEq, eq_self, Classical.not_not, bI_T, bI_Fa, bI_0, bI_n0, bI_x, xb_0, xb_1, xite_bI, xite_bI', not_true_eq_false, not_false_eq_true, Nat.zero_add, Nat.add_zero, Nat.mul_zero, Nat.mul_one, Nat.one_mul, reduceIte, Nat.reduceEqDiff, Nat.reduceAdd, Nat.reduceMul, Nat.reduceSub, Nat.reduceLT, Nat.reduceLeDiff, Nat.reducePow, ite_true, ite_false, if_true, if_false, and_true, true_and, false_and, and_false, or_false, false_or, true_or, or_true, ne_eq, h1]
