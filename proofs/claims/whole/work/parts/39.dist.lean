/-! DISTANCES -/
abbrev mD : Type := Nat → Option Nat
def rx (u v m : Nat) (D : mD) : mD := match D u with
  | none => D
  | some x => match D v with
    | none => fun k => if k = v then some (x + m) else D k
    | some y => if y ≤ x + m then D else fun k => if k = v then some (x + m) else D k
def rr (X : mX) (E : Nat → Bool) (r : Nat) (D : mD) : mD := if E r = true then rx (xaT X r) (xaF X r) (xaM X r) (rx (xaF X r) (xaT X r) (xaM X r) D) else D
def rn (X : mX) (E : Nat → Bool) (D : mD) : mD := fl (rr X E) (xaR X) 0 D
def rk (X : mX) (E : Nat → Bool) : Nat → mD → mD
  | 0, D => D
  | k + 1, D => rk X E k (rn X E D)
def d0 (a : Nat) : mD := fun p => if p = a then some 0 else none
/-- a walk: from s, so many roads, to v, so long -/
def wk (X : mX) (E : Nat → Bool) (s : Nat) : Nat → Nat → Nat → Prop
  | 0, v, L => v = s ∧ L = 0
  | n + 1, v, L => ∃ r u L', r < xaR X ∧ E r = true ∧ oth X r u = some v ∧ wk X E s n u L' ∧ L = L' + xaM X r
def dle (D' D : mD) : Prop := ∀ v x, D v = some x → ∃ y, y ≤ x ∧ D' v = some y
theorem dle_r (D : mD) : dle D D := fun v x h => ⟨x, Nat.le_refl _, h⟩
theorem dle_t {A B C : mD} (h : dle A B) (g : dle B C) : dle A C := fun v x hx => by
  obtain ⟨y, h1, h2⟩ := g v x hx
  obtain ⟨z, h3, h4⟩ := h v y h2
  exact ⟨z, Nat.le_trans h3 h1, h4⟩
theorem rx_cases (u v m : Nat) (D : mD) : (D u = none ∧ rx u v m D = D) ∨ (∃ x, D u = some x ∧ ((∃ y, D v = some y ∧ y ≤ x + m ∧ rx u v m D = D) ∨ ((∀ y, D v = some y → x + m < y) ∧ rx u v m D = fun k => if k = v then some (x + m) else D k))) := by
  unfold rx
  cases hu : D u with
  | none => exact Or.inl ⟨rfl, rfl⟩
  | some x =>
    refine Or.inr ⟨x, rfl, ?_⟩
    cases hv : D v with
    | none => exact Or.inr ⟨fun y h => (by cases h), rfl⟩
    | some y =>
      by_cases h : y ≤ x + m
      · exact Or.inl ⟨y, rfl, h, if_pos h⟩
      · refine Or.inr ⟨fun z hz => by cases hz; omega, if_neg h⟩
theorem rx_le (u v m : Nat) (D : mD) : dle (rx u v m D) D := by
  rcases rx_cases u v m D with ⟨_, e⟩ | ⟨x, hu, ⟨y, hv, hy, e⟩ | ⟨hv, e⟩⟩
  · rw [e]; exact dle_r D
  · rw [e]; exact dle_r D
  · rw [e]
    intro k z hz
    by_cases hk : k = v
    · subst hk
      have := hv z hz
      exact ⟨x + m, by omega, if_pos rfl⟩
    · exact ⟨z, Nat.le_refl _, by show (if k = v then _ else D k) = _; rw [if_neg hk]; exact hz⟩
theorem rx_step {u v m : Nat} {D : mD} {x : Nat} (h : D u = some x) : ∃ y, y ≤ x + m ∧ rx u v m D v = some y := by
  rcases rx_cases u v m D with ⟨hn, e⟩ | ⟨x', hu, ⟨y, hv, hy, e⟩ | ⟨hv, e⟩⟩
  · rw [h] at hn; cases hn
  · rw [h] at hu; cases hu
    rw [e]; exact ⟨y, hy, hv⟩
  · rw [h] at hu; cases hu
    rw [e]; exact ⟨x + m, Nat.le_refl _, if_pos rfl⟩
theorem rr_le (X : mX) (E : Nat → Bool) (r : Nat) (D : mD) : dle (rr X E r D) D := by
  unfold rr
  split
  · exact dle_t (rx_le _ _ _ _) (rx_le _ _ _ _)
  · exact dle_r D
theorem fl_le {X : mX} {E : Nat → Bool} : ∀ n r D, dle (fl (rr X E) n r D) D := by
  intro n
  induction n with
  | zero => intro r D; exact dle_r D
  | succ n ih => intro r D; exact dle_t (ih (r + 1) _) (rr_le X E r D)
theorem fl_split {A : Type} {f : Nat → A → A} : ∀ j n r a, fl f (j + n) r a = fl f n (r + j) (fl f j r a) := by
  intro j
  induction j with
  | zero => intro n r a; rw [Nat.zero_add]; rfl
  | succ j ih =>
    intro n r a
    rw [show j + 1 + n = (j + n) + 1 by omega]
    show fl f (j + n) (r + 1) (f r a) = fl f n (r + (j + 1)) (fl f j (r + 1) (f r a))
    rw [ih n (r + 1) (f r a), show r + 1 + j = r + (j + 1) by omega]
theorem rk_le {X : mX} {E : Nat → Bool} : ∀ k D, dle (rk X E k D) D := by
  intro k
  induction k with
  | zero => intro D; exact dle_r D
  | succ k ih => intro D; exact dle_t (ih _) (fl_le _ _ _)
theorem rk_snoc {X : mX} {E : Nat → Bool} : ∀ k D, rk X E (k + 1) D = rn X E (rk X E k D) := by
  intro k
  induction k with
  | zero => intro D; rfl
  | succ k ih => intro D; exact ih (rn X E D)
/-- a round brings one road more -/
theorem rn_step {X : mX} {E : Nat → Bool} {D : mD} {r u v x : Nat} (hr : r < xaR X) (hE : E r = true) (ho : oth X r u = some v) (h : D u = some x) : ∃ y, y ≤ x + xaM X r ∧ rn X E D v = some y := by
  unfold rn
  rw [show xaR X = r + (1 + (xaR X - r - 1)) by omega, fl_split, fl_split]
  obtain ⟨x1, hx1, e1⟩ := fl_le r 0 D u x h
  have key : ∃ y, y ≤ x1 + xaM X r ∧ rr X E r (fl (rr X E) r 0 D) v = some y := by
    unfold rr
    rw [if_pos hE]
    unfold oth at ho
    by_cases c1 : xaF X r = u
    · rw [if_pos c1] at ho
      cases ho
      obtain ⟨y, hy, ey⟩ := rx_step (D := fl (rr X E) r 0 D) (u := xaF X r) (v := xaT X r) (m := xaM X r) (x := x1) (by rw [c1]; exact e1)
      obtain ⟨z, hz, ez⟩ := rx_le (xaT X r) (xaF X r) (xaM X r) _ (xaT X r) y ey
      exact ⟨z, by omega, ez⟩
    · rw [if_neg c1] at ho
      by_cases c2 : xaT X r = u
      · rw [if_pos c2] at ho
        cases ho
        obtain ⟨z, hz, ez⟩ := rx_le (xaF X r) (xaT X r) (xaM X r) (fl (rr X E) r 0 D) (xaT X r) x1 (by rw [c2]; exact e1)
        obtain ⟨y, hy, ey⟩ := rx_step (v := xaF X r) (m := xaM X r) ez
        exact ⟨y, by omega, ey⟩
      · rw [if_neg c2] at ho
        cases ho
  obtain ⟨y, hy, ey⟩ := key
  obtain ⟨z, hz, ez⟩ := fl_le (xaR X - r - 1) (0 + r + 1) (rr X E r (fl (rr X E) r 0 D)) v y ey
  refine ⟨z, by omega, ?_⟩
  rw [← ez, Nat.zero_add]
  rfl
def snd (X : mX) (E : Nat → Bool) (s : Nat) (D : mD) : Prop := ∀ v x, D v = some x → ∃ n, wk X E s n v x
theorem rx_snd {X : mX} {E : Nat → Bool} {s u v r : Nat} {D : mD} (hr : r < xaR X) (hE : E r = true) (ho : oth X r u = some v) (h : snd X E s D) : snd X E s (rx u v (xaM X r) D) := by
  rcases rx_cases u v (xaM X r) D with ⟨_, e⟩ | ⟨x, hu, ⟨y, hv, hy, e⟩ | ⟨hv, e⟩⟩
  · rw [e]; exact h
  · rw [e]; exact h
  · rw [e]
    intro k z hz
    have hz : (if k = v then some (x + xaM X r) else D k) = some z := hz
    by_cases hk : k = v
    · rw [if_pos hk] at hz
      cases hz
      obtain ⟨n, hn⟩ := h u x hu
      exact ⟨n + 1, r, u, x, hr, hE, by rw [hk]; exact ho, hn, rfl⟩
    · rw [if_neg hk] at hz
      exact h k z hz
theorem oth_F {X : mX} {r : Nat} : oth X r (xaF X r) = some (xaT X r) := if_pos rfl
theorem oth_T {X : mX} {r : Nat} (h : xaF X r ≠ xaT X r) : oth X r (xaT X r) = some (xaF X r) := by
  unfold oth
  rw [if_neg h, if_pos rfl]
theorem rk_snd {X : mX} {E : Nat → Bool} {s : Nat} (hX : WX (xaR X) X) : ∀ k D, snd X E s D → snd X E s (rk X E k D) := by
  have hf : ∀ n r D, r + n ≤ xaR X → snd X E s D → snd X E s (fl (rr X E) n r D) := by
    intro n
    induction n with
    | zero => intro r D _ h; exact h
    | succ n ih =>
      intro r D hr h
      refine ih (r + 1) _ (by omega) ?_
      unfold rr
      by_cases hE : E r = true
      · rw [if_pos hE]
        exact rx_snd (by omega) hE (oth_T (hX.2.2.2.2.2.1 r (by omega)).2.2.1) (rx_snd (by omega) hE oth_F h)
      · rw [if_neg hE]; exact h
  intro k
  induction k with
  | zero => intro D h; exact h
  | succ k ih => intro D h; exact ih _ (hf _ _ _ (by omega) h)
theorem d0_snd {X : mX} {E : Nat → Bool} {s : Nat} : snd X E s (d0 s) := by
  intro v x h
  unfold d0 at h
  by_cases e : v = s
  · rw [if_pos e] at h; cases h
    exact ⟨0, e, rfl⟩
  · rw [if_neg e] at h; cases h
noncomputable def cnt (p : Nat → Prop) : Nat → Nat
  | 0 => 0
  | n + 1 => cnt p n + xite (p n) 1 0
theorem cnt_le {p : Nat → Prop} : ∀ n, cnt p n ≤ n := by
  intro n
  induction n with
  | zero => exact Nat.le_refl 0
  | succ n ih =>
    show cnt p n + xite (p n) 1 0 ≤ n + 1
    by_cases h : p n
    · rw [xite_t h]; omega
    · rw [xite_f h]; omega
theorem cnt_all {p : Nat → Prop} : ∀ n, cnt p n = n → ∀ i, i < n → p i := by
  intro n
  induction n with
  | zero => intro _ i hi; omega
  | succ n ih =>
    intro h i hi
    have hl := @cnt_le p n
    have h : cnt p n + xite (p n) 1 0 = n + 1 := h
    by_cases hp : p n
    · rw [xite_t hp] at h
      by_cases e : i = n
      · rw [e]; exact hp
      · exact ih (by omega) i (by omega)
    · rw [xite_f hp] at h
      omega
theorem cnt_mono {p q : Nat → Prop} (h : ∀ i, p i → q i) : ∀ n, cnt p n ≤ cnt q n := by
  intro n
  induction n with
  | zero => exact Nat.le_refl 0
  | succ n ih =>
    show cnt p n + xite (p n) 1 0 ≤ cnt q n + xite (q n) 1 0
    by_cases hp : p n
    · rw [xite_t hp, xite_t (h n hp)]; omega
    · rw [xite_f hp]; omega
theorem cnt_lt {p q : Nat → Prop} (h : ∀ i, p i → q i) : ∀ n i, i < n → q i → ¬ p i → cnt p n < cnt q n := by
  intro n
  induction n with
  | zero => intro i hi; omega
  | succ n ih =>
    intro i hi hq hp
    show cnt p n + xite (p n) 1 0 < cnt q n + xite (q n) 1 0
    by_cases e : i = n
    · subst e
      have := cnt_mono h i
      rw [xite_f hp, xite_t hq]
      omega
    · have := ih i (by omega) hq hp
      by_cases hpn : p n
      · rw [xite_t hpn, xite_t (h n hpn)]; omega
      · rw [xite_f hpn]; omega
theorem cnt_pos {p : Nat → Prop} {i : Nat} (hp : p i) : ∀ n, i < n → 1 ≤ cnt p n := by
  intro n
  induction n with
  | zero => intro hi; omega
  | succ n ih =>
    intro hi
    show 1 ≤ cnt p n + xite (p n) 1 0
    by_cases e : i = n
    · subst e; rw [xite_t hp]; omega
    · have := ih (by omega); omega
/-- settled -/
def std (X : mX) (E : Nat → Bool) (s k v : Nat) : Prop := ∀ n L, wk X E s n v L → ∃ x, x ≤ L ∧ rk X E k (d0 s) v = some x
theorem std_mono {X : mX} {E : Nat → Bool} {s k v : Nat} (h : std X E s k v) : std X E s (k + 1) v := by
  intro n L hw
  obtain ⟨x, h1, h2⟩ := h n L hw
  rw [rk_snoc]
  obtain ⟨y, h3, h4⟩ := fl_le (xaR X) 0 (rk X E k (d0 s)) v x h2
  exact ⟨y, by omega, h4⟩
theorem std_next {X : mX} {E : Nat → Bool} {s k : Nat} (hX : WX (xaR X) X) {v : Nat} (hv : v < xaP X) (h : ¬ std X E s k v) : ∃ w, w < xaP X ∧ ¬ std X E s k w ∧ std X E s (k + 1) w := by
  obtain ⟨L0, ⟨w, hw, hns, n, hwk⟩, hmin⟩ := pk_least (fun L => ∃ w, w < xaP X ∧ ¬ std X E s k w ∧ ∃ n, wk X E s n w L) (by
    have : ∃ n L, wk X E s n v L := by
      apply Classical.byContradiction
      intro hn
      exact h (fun n L hw => absurd ⟨n, L, hw⟩ hn)
    obtain ⟨n, L, hw⟩ := this
    exact ⟨L, v, hv, h, n, hw⟩)
  refine ⟨w, hw, hns, fun n' L' hw' => ?_⟩
  have hL : L0 ≤ L' := by
    apply Classical.byContradiction
    intro hlt
    exact hmin L' (by omega) ⟨w, hw, hns, n', hw'⟩
  cases n with
  | zero =>
    obtain ⟨e1, e2⟩ := hwk
    refine ⟨0, by omega, ?_⟩
    have : d0 s w = some 0 := if_pos e1
    obtain ⟨y, hy, ey⟩ := rk_le (X := X) (E := E) (k + 1) (d0 s) w 0 this
    rw [ey]
    congr 1
    omega
  | succ n =>
    obtain ⟨r, u, L1, hr, hE, ho, hu, eL⟩ := hwk
    have hb := hX.2.2.2.2.2.1 r hr
    have hu6 : u < xaP X := by
      unfold oth at ho
      by_cases c1 : xaF X r = u
      · rw [← c1]; exact hb.1
      · rw [if_neg c1] at ho
        by_cases c2 : xaT X r = u
        · rw [← c2]; exact hb.2.1
        · rw [if_neg c2] at ho; cases ho
    have hsu : std X E s k u := by
      apply Classical.byContradiction
      intro hn
      exact hmin L1 (by omega) ⟨u, hu6, hn, n, hu⟩
    obtain ⟨x, hx, ex⟩ := hsu n L1 hu
    rw [rk_snoc]
    obtain ⟨y, hy, ey⟩ := rn_step hr hE ho ex
    exact ⟨y, by omega, ey⟩
theorem std_all {X : mX} {E : Nat → Bool} {s : Nat} (hX : WX (xaR X) X) (hs : s < xaP X) : ∀ k v, xaP X ≤ k + 1 → v < xaP X → std X E s k v := by
  have hc : ∀ k, k + 1 ≤ cnt (std X E s k) (xaP X) ∨ ∀ v, v < xaP X → std X E s k v := by
    intro k
    induction k with
    | zero =>
      refine Or.inl (cnt_pos (i := s) ?_ _ hs)
      intro n L hw
      exact ⟨0, Nat.zero_le _, if_pos rfl⟩
    | succ k ih =>
      by_cases ha : ∀ v, v < xaP X → std X E s k v
      · exact Or.inr (fun v hv => std_mono (ha v hv))
      · rcases ih with h | h
        · obtain ⟨v, hv⟩ := Classical.not_forall.mp ha
          obtain ⟨hv1, hv2⟩ := Classical.not_imp.mp hv
          obtain ⟨w, w1, w2, w3⟩ := std_next hX hv1 hv2
          have := cnt_lt (p := std X E s k) (q := std X E s (k + 1)) (fun i hi => std_mono hi) (xaP X) w w1 w3 w2
          exact Or.inl (by omega)
        · exact absurd h ha
  intro k v hk hv
  rcases hc k with h | h
  · have := @cnt_le (std X E s k) (xaP X)
    exact cnt_all (xaP X) (by omega) v hv
  · exact h v hv
/-- enough rounds are enough -/
theorem rk_same {X : mX} {E : Nat → Bool} {s k k' v : Nat} (hX : WX (xaR X) X) (hs : s < xaP X) (hv : v < xaP X) (hk : xaP X ≤ k + 1) (hk' : xaP X ≤ k' + 1) : rk X E k (d0 s) v = rk X E k' (d0 s) v := by
  have h1 := rk_snd (E := E) (s := s) hX k (d0 s) d0_snd v
  have h2 := rk_snd (E := E) (s := s) hX k' (d0 s) d0_snd v
  have s1 := std_all (E := E) hX hs k v hk hv
  have s2 := std_all (E := E) hX hs k' v hk' hv
  cases e1 : rk X E k (d0 s) v with
  | none =>
    cases e2 : rk X E k' (d0 s) v with
    | none => rfl
    | some y =>
      obtain ⟨n, hn⟩ := h2 y e2
      obtain ⟨x, _, ex⟩ := s1 n y hn
      rw [e1] at ex; cases ex
  | some x =>
    obtain ⟨n, hn⟩ := h1 x e1
    obtain ⟨y, hy, ey⟩ := s2 n x hn
    obtain ⟨n', hn'⟩ := h2 y ey
    obtain ⟨z, hz, ez⟩ := s1 n' y hn'
    rw [e1] at ez
    cases ez
    rw [ey]
    congr 1
    omega
/-- the distance -/
def dst (X : mX) (E : Nat → Bool) (s v : Nat) : Option Nat := rk X E 6 (d0 s) v
theorem dst_wk {X : mX} {E : Nat → Bool} {s v x : Nat} (hX : WX (xaR X) X) (h : dst X E s v = some x) : ∃ n, wk X E s n v x := rk_snd hX 6 (d0 s) d0_snd v x h
theorem dst_le {X : mX} {E : Nat → Bool} {s v n L : Nat} (hX : WX (xaR X) X) (hs : s < xaP X) (hv : v < xaP X) (h : wk X E s n v L) : ∃ x, x ≤ L ∧ dst X E s v = some x := std_all hX hs 6 v (by have := hX.2.1; omega) hv n L h
