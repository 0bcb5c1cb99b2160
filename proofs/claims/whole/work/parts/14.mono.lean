/-! WHAT A RUN LEAVES OF THE ROOM: the counts of cells and slots never go down; which instructions answer, which call -/
def xle (σ σ' : xS) : Prop := σ.2.2.2.2.1 ≤ σ'.2.2.2.2.1 ∧ σ.2.2.2.2.2 ≤ σ'.2.2.2.2.2
theorem xle_rfl {σ : xS} : xle σ σ := ⟨Nat.le_refl _, Nat.le_refl _⟩
theorem xle_tr {a b c : xS} (h1 : xle a b) (h2 : xle b c) : xle a c := ⟨Nat.le_trans h1.1 h2.1, Nat.le_trans h1.2 h2.2⟩
def xlec (σ : xS) (c : Option xC) : Prop := match c with
  | none => True
  | some c => xle σ c.2.2.2.2
def xisR (i : Instr) : Bool := match i with
  | .ireturn => true
  | .lreturn => true
  | .areturn => true
  | .return_ => true
  | _ => false
def xisC (i : Instr) : Bool := match i with
  | .invokestatic _ => true
  | .invokevirtual _ => true
  | .invokespecial _ => true
  | _ => false
def xmn (σ : xS) (ir ic : Bool) (o : Option xO) : Prop := match o with
  | none => True
  | some (.inl r) => ir = true ∧ xle σ r.2
  | some (.inr (.inl (_, g))) => ∀ i, (∀ q ∈ (g i).1, xlec σ q.2) ∧ xlec σ (g i).2
  | some (.inr (.inr (_, g, k))) => ic = true ∧ (∀ i, xle σ (g i).2.2.2.2) ∧ ∀ r, xle r.2 (k r).2.2.2.2
theorem xlec_go {ks : List (Nat × List Nat)} {y pc : Nat} {ls : xL} {st : List xV} {σ σ' : xS} (h : xle σ σ') : xlec σ (xgo ks y pc ls st σ') := by
  unfold xgo
  split
  · exact h
  · rw [xforce_eq]
    exact h
section
variable {σ : xS} {ir ic : Bool} {c a b : Option xC} {p : xD}
theorem xmn_opt {o : Option Nat} {f : Nat → xB} (h : ∀ i, (∀ q ∈ (f i).1, xlec σ q.2) ∧ xlec σ (f i).2) : xmn σ ir ic (xopt o f) := h
theorem xmn_opt0 {o : Option Nat} {f : Nat → Option xC} (h : ∀ i, xlec σ (f i)) : xmn σ ir ic (xopt o (fun i => ([], f i))) := fun i => ⟨fun q hq => (by cases hq), h i⟩
theorem xmn_opt1 {o : Option Nat} {p : Nat → xD} {f : Nat → Option xC} (h : ∀ i, xlec σ (f i)) : xmn σ ir ic (xopt o (fun i => ([(p i, f i)], none))) := fun i => ⟨fun q hq => by rw [List.mem_singleton.mp hq]; exact h i, trivial⟩
theorem xmn_just (h : xlec σ c) : xmn σ ir ic (xjust c) := fun _ => ⟨fun q hq => (by cases hq), h⟩
theorem xmn_guard (h : xlec σ c) : xmn σ ir ic (xguard p c) := fun _ => ⟨fun q hq => by rw [List.mem_singleton.mp hq]; exact h, trivial⟩
theorem xmn_if (h : xlec σ a) (h2 : xlec σ b) : xmn σ ir ic (xif p a b) := fun _ => ⟨fun q hq => by rw [List.mem_singleton.mp hq]; exact h, h2⟩
theorem xmn_cmp {cc : ClassFile.Cond} {x z : Int32} (h : xlec σ a) (h2 : xlec σ b) : xmn σ ir ic (xcmp cc x z a b) := by
  cases cc <;> exact xmn_if h h2
theorem xmn_num {aux : List Nat} {f : Int32 → Option xO} (h : ∀ v, xmn σ ir ic (f v)) : xmn σ ir ic (xnum aux f) := by
  unfold xnum
  split
  · exact h _
  · exact h _
  · exact trivial
theorem xmn_force {l : xL} {f : xL → Option xO} (h : xmn σ ir ic (f l)) : xmn σ ir ic (xforce l f) := by rw [xforce_eq]; exact h
theorem xmn_ret {r : xR} (h : xle σ r.2) : xmn σ true ic (some (.inl r)) := ⟨rfl, h⟩
theorem xmn_bif {q : Bool} {u w : Option xO} (h1 : xmn σ ir ic u) (h2 : xmn σ ir ic w) : xmn σ ir ic (bif q then u else w) := by
  cases q
  · exact h2
  · exact h1
theorem xmn_call {o : Option Nat} {g : Nat → xC} {k : xR → xC} (h1 : ∀ i, xle σ (g i).2.2.2.2) (h2 : ∀ r, xle r.2 (k r).2.2.2.2) : xmn σ ir true (some (.inr (.inr (o, g, k)))) := ⟨rfl, h1, h2⟩
theorem xmn_none : xmn σ ir ic none := trivial
theorem xle_resume {ks : List (Nat × List Nat)} {y pc k r : Nat} {ls : xL} {st : List xV} (q : xR) : xle q.2 (xresume ks y pc ls k r st q).2.2.2.2 := by
  unfold xresume
  cases xkills ks pc with
  | nil => exact xle_rfl
  | cons a r =>
    dsimp only
    rw [xforce_eq]
    exact xle_rfl
theorem xle_wN {n m : Nat} : xle σ (wN σ n m) := ⟨Nat.le_add_right _ _, Nat.le_add_right _ _⟩
theorem xle_wC {n : Nat} : xle σ (wC σ n) := ⟨Nat.le_add_right _ _, Nat.le_add_right _ _⟩
theorem xle_elem {d i : Int32} : xle σ (xElem σ d i).2 := by
  unfold xElem
  split
  · exact xle_wN
  · split
    · exact xle_wN
    · exact xle_wN
theorem xlec_sw {ks : List (Nat × List Nat)} {y : Nat} {ls : xL} {st : List xV} {x : Int32} : ∀ (l : List Nat), ∀ q ∈ xsw ks y ls st σ x l, xlec σ q.2
  | [], q, h => by cases h
  | [_], q, h => by cases h
  | k :: t :: r, q, h => by
    rcases List.mem_cons.mp h with h | h
    · rw [h]; exact xlec_go xle_rfl
    · exact xlec_sw r q h
end
set_option maxHeartbeats 4000000 in
theorem xmn_static {σ : xS} {ks : List (Nat × List Nat)} {y pc : Nat} {aux : List Nat} {ls : xL} {st : List xV} : xmn σ false true (xstatic ks y pc aux ls st σ) := by
  unfold xstatic
  split
  · split
    · exact xmn_bif (xmn_call (fun _ => xle_rfl) xle_resume) trivial
    · exact trivial
  · split
    · exact xmn_bif (xmn_guard (xlec_go ⟨Nat.le_refl _, Nat.le_refl _⟩)) trivial
    · exact trivial
  · split
    · exact xmn_bif (xmn_just (xlec_go xle_elem)) trivial
    · exact trivial
  · exact trivial
set_option maxHeartbeats 4000000 in
theorem xmn_virtual {σ : xS} {ks : List (Nat × List Nat)} {y pc : Nat} {aux : List Nat} {ls : xL} {st : List xV} : xmn σ false true (xvirtual ks y pc aux ls st σ) := by
  unfold xvirtual
  split
  · split
    · exact xmn_bif (xmn_call (fun _ => xle_rfl) xle_resume) trivial
    · exact trivial
  · split
    · exact xmn_bif (xmn_call (fun _ => xle_rfl) xle_resume) trivial
    · exact trivial
  · split
    · exact xmn_bif (xmn_just (xlec_go xle_wN)) trivial
    · exact trivial
  · exact trivial
set_option maxHeartbeats 4000000 in
theorem xmn_special {σ : xS} {ks : List (Nat × List Nat)} {y pc : Nat} {aux : List Nat} {ls : xL} {st : List xV} : xmn σ false true (xspecial ks y pc aux ls st σ) := by
  unfold xspecial
  split
  · split
    · exact xmn_bif (xmn_call (fun _ => xle_rfl) xle_resume) trivial
    · exact trivial
  · split
    · exact xmn_bif (xmn_just (xlec_go xle_rfl)) trivial
    · exact trivial
  · exact trivial
set_option maxHeartbeats 4000000 in
theorem xmn_getf {σ : xS} {ks : List (Nat × List Nat)} {y pc : Nat} {aux : List Nat} {ls : xL} {st : List xV} : xmn σ false false (xgetf ks y pc aux ls st σ) := by
  unfold xgetf
  split
  · refine xmn_bif ?_ trivial
    split <;> first | exact xmn_opt0 (fun _ => xlec_go xle_rfl) | exact trivial
  · exact trivial
set_option maxHeartbeats 4000000 in
theorem xmn_putf {σ : xS} {ks : List (Nat × List Nat)} {y pc : Nat} {aux : List Nat} {ls : xL} {st : List xV} : xmn σ false false (xputf ks y pc aux ls st σ) := by
  unfold xputf
  split
  · refine xmn_bif ?_ trivial
    split
    · exact xmn_opt0 (fun _ => xlec_go ⟨Nat.le_refl _, Nat.le_refl _⟩)
    · exact xmn_opt1 (fun _ => xlec_go ⟨Nat.le_refl _, Nat.le_refl _⟩)
    · exact xmn_opt0 (fun _ => xlec_go ⟨Nat.le_refl _, Nat.le_refl _⟩)
    · exact xmn_bif (xmn_opt0 (fun _ => xlec_go ⟨Nat.le_refl _, Nat.le_refl _⟩)) trivial
    · exact trivial
  · exact trivial
set_option maxHeartbeats 40000000 in
set_option maxRecDepth 100000 in
theorem xmn_step {σ : xS} {rk rr : Nat} {ks : List (Nat × List Nat)} {y : Nat} {e : xE} {ls : xL} {st : List xV} : xmn σ (xisR e.2.1) (xisC e.2.1) (xstep rk rr ks y e ls st σ) := by
  obtain ⟨pc, ins, len, aux⟩ := e
  cases ins with
  | invokestatic i => exact xmn_static
  | invokevirtual i => exact xmn_virtual
  | invokespecial i => exact xmn_special
  | getfield i => exact xmn_getf
  | putfield i => exact xmn_putf
  | iconst n => (simp only [xstep]; exact xmn_num fun _ => xmn_just (xlec_go xle_rfl))
  | bipush n => (simp only [xstep]; exact xmn_num fun _ => xmn_just (xlec_go xle_rfl))
  | sipush n => (simp only [xstep]; exact xmn_num fun _ => xmn_just (xlec_go xle_rfl))
  | ifCond cc off =>
    simp only [xstep]
    split
    · exact xmn_cmp (xlec_go xle_rfl) (xlec_go xle_rfl)
    · exact trivial
  | if_icmp cc off =>
    simp only [xstep]
    split
    · exact xmn_cmp (xlec_go xle_rfl) (xlec_go xle_rfl)
    · exact trivial
  | tableswitch a b cc d =>
    simp only [xstep]
    split
    · exact xmn_opt fun _ => ⟨xlec_sw _, xlec_go xle_rfl⟩
    · exact trivial
  | lookupswitch a b =>
    simp only [xstep]
    split
    · exact xmn_opt fun _ => ⟨xlec_sw _, xlec_go xle_rfl⟩
    · exact trivial
  | new i =>
    simp only [xstep]
    split
    · exact xmn_just (xlec_go xle_wC)
    · exact trivial
  | iinc k n =>
    simp only [xstep]
    split
    · exact xmn_num fun _ => xmn_force (xmn_just (xlec_go xle_rfl))
    · exact trivial
  | ireturn =>
    simp only [xstep]
    split
    · exact xmn_bif (xmn_ret xle_rfl) (xmn_bif (xmn_ret xle_rfl) trivial)
    · exact trivial
  | _ =>
    first
    | exact xmn_none
    | (simp only [xstep]; (repeat' split) <;> first
      | exact xmn_none
      | exact xmn_just (xlec_go xle_rfl)
      | exact xmn_force (xmn_just (xlec_go xle_rfl))
      | exact xmn_guard (xlec_go xle_rfl)
      | exact xmn_if (xlec_go xle_rfl) (xlec_go xle_rfl)
      | exact xmn_opt0 (fun _ => xlec_go xle_rfl)
      | exact xmn_opt1 (fun _ => xlec_go ⟨Nat.le_refl _, Nat.le_refl _⟩)
      | exact xmn_bif (xmn_opt1 (fun _ => xlec_go ⟨Nat.le_refl _, Nat.le_refl _⟩)) xmn_none
      | exact xmn_bif (xmn_ret xle_rfl) xmn_none)
theorem xsel_in {f : xC → Option xR} {r : xR} : ∀ (l : List (xD × Option xC)) (df : Option xC), xsel f l df = some r → ∃ c, ((∃ q ∈ l, q.2 = some c) ∨ df = some c) ∧ f c = some r
  | [], none, h => by cases h
  | [], some c, h => ⟨c, Or.inr rfl, h⟩
  | (p, c) :: l, df, h => by
    by_cases hp : p
    · cases c with
      | none => unfold xsel at h; rw [xite_t hp] at h; cases h
      | some c => unfold xsel at h; rw [xite_t hp] at h; exact ⟨c, Or.inl ⟨_, List.mem_cons_self, rfl⟩, h⟩
    · have h1 : xsel f l df = some r := by
        cases c with
        | none => unfold xsel at h; rw [xite_f hp] at h; exact h
        | some c => unfold xsel at h; rw [xite_f hp] at h; exact h
      obtain ⟨c2, h2, h3⟩ := xsel_in l df h1
      refine ⟨c2, ?_, h3⟩
      rcases h2 with ⟨q, hq, e⟩ | e
      · exact Or.inl ⟨q, List.mem_cons_of_mem _ hq, e⟩
      · exact Or.inr e
theorem exD_mono : ∀ (n d : Nat) (c : xC) (q : xR), exD n d c = some q → xle c.2.2.2.2 q.2 := by
  intro n
  induction n with
  | zero => intro d c q h; cases h
  | succ n ih =>
    intro d c q h
    have h : xbody (exD n) d c = some q := h
    unfold xbody at h
    cases hx : xat c with
    | none => rw [hx] at h; cases h
    | some o =>
      have hm : ∃ ir ic, xmn c.2.2.2.2 ir ic (some o) := by
        unfold xat at hx
        split at hx
        · cases hx
        · rw [← hx]; exact ⟨_, _, xmn_step⟩
      obtain ⟨ir, ic, hm⟩ := hm
      rw [hx] at h
      rcases o with r | ⟨o, g⟩ | ⟨o, g, k⟩
      · cases h; exact hm.2
      · obtain ⟨i, -, h⟩ := xob_iff.mp h
        obtain ⟨c2, h2, h3⟩ := xsel_in _ _ h
        have h4 : xle c.2.2.2.2 c2.2.2.2.2 := by
          rcases h2 with ⟨p, hp, e⟩ | e
          · have := (hm i).1 p hp; rw [e] at this; exact this
          · have := (hm i).2; rw [e] at this; exact this
        exact xle_tr h4 (ih d c2 q h3)
      · cases d with
        | zero => cases h
        | succ d =>
          obtain ⟨i, -, h⟩ := xob_iff.mp h
          obtain ⟨r, hr, h⟩ := Option.bind_eq_some_iff.mp h
          exact xle_tr (hm.2.1 i) (xle_tr (ih d _ r hr) (xle_tr (hm.2.2 r) (ih (d + 1) _ q h)))
