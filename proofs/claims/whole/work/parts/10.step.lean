/-! ONE INSTRUCTION: what the abstract machine does, the real one does -/
def xpre (σ0 σ : xS) : Prop := (∃ t, rC σ = rC σ0 ++ t) ∧ σ0.2.2.2.2.1 ≤ σ.2.2.2.2.1 ∧ σ0.2.2.2.2.2 ≤ σ.2.2.2.2.2 ∧ ∀ k, rI σ 36 0 k = rI σ0 36 0 k
def xscr (ad : Nat → Nat → Nat) (σ : xS) (s : State) (H0 : Heap) (A : Nat → Prop) : Prop := ∃ (L : Nat) (xs : Nat → Int32), va_X (ad 36 0) L xs s H0 ∧ ad 36 0 < H0.size ∧ ¬ A (ad 36 0) ∧ (∀ k, k < L → rI σ 36 0 k = xs k) ∧ rI σ 36 0 3072 = nI L ∧ L ≤ 3072
/-- the world at a point of a method that began with σ0 at the addresses ad0 -/
def xWd (Γ : xΓ) (ad0 : Nat → Nat → Nat) (σ0 : xS) (A : Nat → Prop) (H0 : Heap) (s : State) (ad : Nat → Nat → Nat) (σ : xS) (H : Heap) (locs : List Loc) : Prop := va_P Γ.1 vwCl (xW Γ ad σ) H ∧ va_D A (xW Γ ad σ) ∧ va_S A H0 H locs ∧ xwf σ ∧ xagr σ0 ad0 ad ∧ xpre σ0 σ
def xCtx (Γ : xΓ) (ad0 : Nat → Nat → Nat) (σ0 : xS) (y d : Nat) (A : Nat → Prop) (H0 : Heap) (p : Program) (R : Room) (s : State) (m : MethodId) (args : Array Value) (meth : Method) (c : Code) : Prop :=
  p.tables.exec = Jvm.exec ∧ c.code = (xmeth y).2.1 ∧ c.maxLocals = (xmeth y).2.2.1 ∧ s.vm.findClass (xmeth y).1.cls = some m.cls ∧ (∀ w ∈ lw_tbl, goodWord w = true → w.before args s = true) ∧ (∀ w ∈ lw_tbl, xnest w = true → va_Nw w s) ∧ va_K Γ.1 vwCl (xtys Γ) s ∧ (∀ q, H0.size ≤ q → A q) ∧ d + 1 ≤ R.frames ∧ 64 * (d + 1) ≤ R.locals ∧ ((xmeth y).1.name = "<init>" → meth.name = "<init>") ∧ xscr ad0 σ0 s H0 A
def xokL (σ : xS) (ls : xL) : Prop := ∀ k v, xget ls k = some v → xok σ v
def xokS (σ : xS) (st : List xV) : Prop := ∀ v ∈ st, xok σ v
/-- a configuration from which the method comes to its end -/
def xG (Γ : xΓ) (ad0 : Nat → Nat → Nat) (σ0 : xS) (A : Nat → Prop) (H0 : Heap) (p : Program) (l : Launch) (e : Env) (R : Room) (s : State) (m : MethodId) (args : Array Value) (below : List Frame) (meth : Method) (c : Code) (Q : State → Prop) (y : Nat) (cf : xC) : Prop :=
  cf.1 = y → (cf.2.2.2.2.2.2.2.2.1 ≤ R.cells + σ0.2.2.2.2.1 ∧ cf.2.2.2.2.2.2.2.2.2 ≤ R.slots + σ0.2.2.2.2.2) ∧ ∀ (ad : Nat → Nat → Nat) (H : Heap) (locs : List Loc) (lsA : Array Slot), xWd Γ ad0 σ0 A H0 s ad cf.2.2.2.2 H locs → lv_has lsA (xmeth y).2.2.1 (xlv ad 0 cf.2.2.1) → cf.2.2.1.length = (xmeth y).2.2.1 → xokL cf.2.2.2.2 cf.2.2.1 → xokS cf.2.2.2.2 cf.2.2.2.1 →
    W p l e R s m args below meth c H locs (cf.2.2.2.2.2.2.2.2.1 - σ0.2.2.2.2.1) (cf.2.2.2.2.2.2.2.2.2 - σ0.2.2.2.2.2) Q (F0 m cf.2.1 lsA (cf.2.2.2.1.map (xtv ad)))
def xoc (G : xC → Prop) : Option xC → Prop
  | none => False
  | some c => G c
def xselP (G : xC → Prop) : List (xD × Option xC) → Option xC → Prop
  | [], df => xoc G df
  | (p, c) :: l, df => (p → xoc G c) ∧ (¬ p → xselP G l df)
theorem xselP_of {G : xC → Prop} {f : xC → Option xR} {r : xR} (hf : ∀ c, f c = some r → G c) : ∀ (l : List (xD × Option xC)) (df : Option xC), xsel f l df = some r → xselP G l df
  | [], none, h => by cases h
  | [], some c, h => hf c h
  | (p, none) :: l, df, h => by
    unfold xsel at h
    refine ⟨fun hp => ?_, fun hp => xselP_of hf l df (by rw [xite_f hp] at h; exact h)⟩
    rw [xite_t hp] at h
    cases h
  | (p, some c) :: l, df, h => by
    unfold xsel at h
    refine ⟨fun hp => hf c (by rw [xite_t hp] at h; exact h), fun hp => xselP_of hf l df (by rw [xite_f hp] at h; exact h)⟩
def xsP (G : xC → Prop) (o : Option Nat) (g : Nat → xB) : Prop := ∃ i, o = some i ∧ xselP G (g i).1 (g i).2
theorem xjust_inv {G : xC → Prop} {c : Option xC} {o : Option Nat} {g : Nat → xB} (hs : xjust c = some (.inr (.inl (o, g)))) (hp : xsP G o g) : xoc G c := by
  cases hs
  obtain ⟨i, -, h⟩ := hp
  exact h
theorem xguard_inv {G : xC → Prop} {p : xD} {c : Option xC} {o : Option Nat} {g : Nat → xB} (hs : xguard p c = some (.inr (.inl (o, g)))) (hp : xsP G o g) : p ∧ xoc G c := by
  cases hs
  obtain ⟨i, -, h1, h2⟩ := hp
  have hpp : p := Classical.byContradiction fun n => h2 n
  exact ⟨hpp, h1 hpp⟩
theorem xif_inv {G : xC → Prop} {p : xD} {a b : Option xC} {o : Option Nat} {g : Nat → xB} (hs : xif p a b = some (.inr (.inl (o, g)))) (hp : xsP G o g) : (p → xoc G a) ∧ (¬ p → xoc G b) := by
  cases hs
  obtain ⟨i, -, h⟩ := hp
  exact h
theorem xopt_inv {G : xC → Prop} {o' o : Option Nat} {f g : Nat → xB} (hs : xopt o' f = some (.inr (.inl (o, g)))) (hp : xsP G o g) : ∃ i, o' = some i ∧ xselP G (f i).1 (f i).2 := by
  cases hs
  exact hp
theorem xone_inv {G : xC → Prop} {p : xD} {c : Option xC} (h : xselP G [(p, c)] none) : p ∧ xoc G c := by
  have hpp : p := Classical.byContradiction fun n => h.2 n
  exact ⟨hpp, h.1 hpp⟩
theorem xcN_of {aux : List Nat} {x : Int32} {f : Int32 → Option xO} {r : xO} (h : xcN aux x = true) (hs : xnum aux f = some r) : f x = some r := by
  unfold xcN at h
  unfold xnum at hs
  split at hs
  · rw [of_decide_eq_true h]; exact hs
  · rw [of_decide_eq_true h]; exact hs
  · cases hs
theorem xcJ_of {pc t : Nat} {off : Int} (h : xcJ pc [t] off = true) : (pc : Int) + off = (t : Int) := of_decide_eq_true h
theorem xw_mem {i : Nat} {w : Jvm.Cond} (h : xw i w = true) : w ∈ lw_tbl := List.mem_of_getElem? (of_decide_eq_true h)
theorem xg_mem {i : Nat} {w : Jvm.Cond} (h : xg i w = true) : w ∈ lw_tbl ∧ goodWord w = true := by
  unfold xg at h
  rw [Bool.and_eq_true] at h
  exact ⟨xw_mem h.1, h.2⟩
section SND
variable {p : Program} {l : Launch} {e : Env} {R : Room} {s : State} {m : MethodId} {args : Array Value} {below : List Frame} {meth : Method} {c : Code} {Q : State → Prop}
variable {Γ : xΓ} {y d : Nat} {A : Nat → Prop} {H0 : Heap} {σ0 : xS} {ad0 : Nat → Nat → Nat}
theorem xgo_wp {ks : List (Nat × List Nat)} {pc : Nat} {ls : xL} {st : List xV} {σ : xS} (h : xoc (xG Γ ad0 σ0 A H0 p l e R s m args below meth c Q y) (xgo ks y pc ls st σ)) :
    (σ.2.2.2.2.1 ≤ R.cells + σ0.2.2.2.2.1 ∧ σ.2.2.2.2.2 ≤ R.slots + σ0.2.2.2.2.2) ∧ ∀ (ad : Nat → Nat → Nat) (H : Heap) (locs : List Loc) (lsA : Array Slot), xWd Γ ad0 σ0 A H0 s ad σ H locs → lv_has lsA (xmeth y).2.2.1 (xlv ad 0 ls) → ls.length = (xmeth y).2.2.1 → xokL σ ls → xokS σ st →
      W p l e R s m args below meth c H locs (σ.2.2.2.2.1 - σ0.2.2.2.2.1) (σ.2.2.2.2.2 - σ0.2.2.2.2.2) Q (F0 m pc lsA (st.map (xtv ad))) := by
  unfold xgo at h
  split at h
  · exact h rfl
  · rw [xforce_eq] at h
    obtain ⟨h1, h2⟩ := h rfl
    refine ⟨h1, fun ad H locs lsA hW hl hn hkL hkS => h2 ad H locs lsA hW (lv_less hl fun q hq => ?_) ((xkill_len _ _).trans hn) (fun k v hk => hkL k v (xkill_get _ _ _ _ hk)) hkS⟩
    obtain ⟨k, v, hk, e⟩ := xlv_mem.mp hq
    exact xlv_mem.mpr ⟨k, v, xkill_get _ _ _ _ hk, e⟩

set_option maxHeartbeats 4000000 in
set_option maxRecDepth 100000 in
theorem xs_iadd (C : xCtx Γ ad0 σ0 y d A H0 p R s m args meth c) {rk rr : Nat} {ks : List (Nat × List Nat)} {pc len : Nat} {aux ps : List Nat} {ls : xL} {st : List xV} {σ : xS} {o : Option Nat} {g : Nat → xB} (hchk : xchk (xmeth y).1 (xmeth y).2.1 (xmeth y).2.2.1 (pc, .iadd, len, aux) ps = true) (hs : xstep rk rr ks y (pc, .iadd, len, aux) ls st σ = some (.inr (.inl (o, g)))) (hp : xsP (xG Γ ad0 σ0 A H0 p l e R s m args below meth c Q y) o g)  : ∀ (ad : Nat → Nat → Nat) (H : Heap) (locs : List Loc) (lsA : Array Slot), xWd Γ ad0 σ0 A H0 s ad σ H locs → lv_has lsA (xmeth y).2.2.1 (xlv ad 0 ls) → ls.length = (xmeth y).2.2.1 → xokL σ ls → xokS σ st → W p l e R s m args below meth c H locs (σ.2.2.2.2.1 - σ0.2.2.2.2.1) (σ.2.2.2.2.2 - σ0.2.2.2.2.2) Q (F0 m pc lsA (st.map (xtv ad))) := by
  obtain ⟨hx, hb, hml, hown, hts, hnw, hK, hA, hfr, hlo, hnm, hsc⟩ := C
  have hdl : decode (xmeth y).2.1 pc = .ok (.iadd, len) := of_decide_eq_true (Bool.and_eq_true_iff.mp hchk).1
  have hc := (Bool.and_eq_true_iff.mp hchk).2
  intro ad H locs lsA hW hl hn hkL hkS
  have hlen := Nat.eq_of_beq_eq_true hc
  subst hlen
  simp only [xstep] at hs
  split at hs
  · have h := (xgo_wp (xjust_inv hs hp)).2 ad H locs lsA hW hl hn hkL (fun v hv => by
        rcases List.mem_cons.mp hv with h | h
        · subst h; trivial
        · exact hkS v (List.mem_cons_of_mem _ (List.mem_cons_of_mem _ h)))
    exact lv_iadd hx hb hdl h
  · cases hs
set_option maxHeartbeats 4000000 in
set_option maxRecDepth 100000 in
theorem xs_isub (C : xCtx Γ ad0 σ0 y d A H0 p R s m args meth c) {rk rr : Nat} {ks : List (Nat × List Nat)} {pc len : Nat} {aux ps : List Nat} {ls : xL} {st : List xV} {σ : xS} {o : Option Nat} {g : Nat → xB} (hchk : xchk (xmeth y).1 (xmeth y).2.1 (xmeth y).2.2.1 (pc, .isub, len, aux) ps = true) (hs : xstep rk rr ks y (pc, .isub, len, aux) ls st σ = some (.inr (.inl (o, g)))) (hp : xsP (xG Γ ad0 σ0 A H0 p l e R s m args below meth c Q y) o g)  : ∀ (ad : Nat → Nat → Nat) (H : Heap) (locs : List Loc) (lsA : Array Slot), xWd Γ ad0 σ0 A H0 s ad σ H locs → lv_has lsA (xmeth y).2.2.1 (xlv ad 0 ls) → ls.length = (xmeth y).2.2.1 → xokL σ ls → xokS σ st → W p l e R s m args below meth c H locs (σ.2.2.2.2.1 - σ0.2.2.2.2.1) (σ.2.2.2.2.2 - σ0.2.2.2.2.2) Q (F0 m pc lsA (st.map (xtv ad))) := by
  obtain ⟨hx, hb, hml, hown, hts, hnw, hK, hA, hfr, hlo, hnm, hsc⟩ := C
  have hdl : decode (xmeth y).2.1 pc = .ok (.isub, len) := of_decide_eq_true (Bool.and_eq_true_iff.mp hchk).1
  have hc := (Bool.and_eq_true_iff.mp hchk).2
  intro ad H locs lsA hW hl hn hkL hkS
  have hlen := Nat.eq_of_beq_eq_true hc
  subst hlen
  simp only [xstep] at hs
  split at hs
  · have h := (xgo_wp (xjust_inv hs hp)).2 ad H locs lsA hW hl hn hkL (fun v hv => by
        rcases List.mem_cons.mp hv with h | h
        · subst h; trivial
        · exact hkS v (List.mem_cons_of_mem _ (List.mem_cons_of_mem _ h)))
    exact lv_isub hx hb hdl h
  · cases hs
set_option maxHeartbeats 4000000 in
set_option maxRecDepth 100000 in
theorem xs_imul (C : xCtx Γ ad0 σ0 y d A H0 p R s m args meth c) {rk rr : Nat} {ks : List (Nat × List Nat)} {pc len : Nat} {aux ps : List Nat} {ls : xL} {st : List xV} {σ : xS} {o : Option Nat} {g : Nat → xB} (hchk : xchk (xmeth y).1 (xmeth y).2.1 (xmeth y).2.2.1 (pc, .imul, len, aux) ps = true) (hs : xstep rk rr ks y (pc, .imul, len, aux) ls st σ = some (.inr (.inl (o, g)))) (hp : xsP (xG Γ ad0 σ0 A H0 p l e R s m args below meth c Q y) o g)  : ∀ (ad : Nat → Nat → Nat) (H : Heap) (locs : List Loc) (lsA : Array Slot), xWd Γ ad0 σ0 A H0 s ad σ H locs → lv_has lsA (xmeth y).2.2.1 (xlv ad 0 ls) → ls.length = (xmeth y).2.2.1 → xokL σ ls → xokS σ st → W p l e R s m args below meth c H locs (σ.2.2.2.2.1 - σ0.2.2.2.2.1) (σ.2.2.2.2.2 - σ0.2.2.2.2.2) Q (F0 m pc lsA (st.map (xtv ad))) := by
  obtain ⟨hx, hb, hml, hown, hts, hnw, hK, hA, hfr, hlo, hnm, hsc⟩ := C
  have hdl : decode (xmeth y).2.1 pc = .ok (.imul, len) := of_decide_eq_true (Bool.and_eq_true_iff.mp hchk).1
  have hc := (Bool.and_eq_true_iff.mp hchk).2
  intro ad H locs lsA hW hl hn hkL hkS
  have hlen := Nat.eq_of_beq_eq_true hc
  subst hlen
  simp only [xstep] at hs
  split at hs
  · have h := (xgo_wp (xjust_inv hs hp)).2 ad H locs lsA hW hl hn hkL (fun v hv => by
        rcases List.mem_cons.mp hv with h | h
        · subst h; trivial
        · exact hkS v (List.mem_cons_of_mem _ (List.mem_cons_of_mem _ h)))
    exact lv_imul hx hb hdl h
  · cases hs
set_option maxHeartbeats 4000000 in
set_option maxRecDepth 100000 in
theorem xs_iand (C : xCtx Γ ad0 σ0 y d A H0 p R s m args meth c) {rk rr : Nat} {ks : List (Nat × List Nat)} {pc len : Nat} {aux ps : List Nat} {ls : xL} {st : List xV} {σ : xS} {o : Option Nat} {g : Nat → xB} (hchk : xchk (xmeth y).1 (xmeth y).2.1 (xmeth y).2.2.1 (pc, .iand, len, aux) ps = true) (hs : xstep rk rr ks y (pc, .iand, len, aux) ls st σ = some (.inr (.inl (o, g)))) (hp : xsP (xG Γ ad0 σ0 A H0 p l e R s m args below meth c Q y) o g)  : ∀ (ad : Nat → Nat → Nat) (H : Heap) (locs : List Loc) (lsA : Array Slot), xWd Γ ad0 σ0 A H0 s ad σ H locs → lv_has lsA (xmeth y).2.2.1 (xlv ad 0 ls) → ls.length = (xmeth y).2.2.1 → xokL σ ls → xokS σ st → W p l e R s m args below meth c H locs (σ.2.2.2.2.1 - σ0.2.2.2.2.1) (σ.2.2.2.2.2 - σ0.2.2.2.2.2) Q (F0 m pc lsA (st.map (xtv ad))) := by
  obtain ⟨hx, hb, hml, hown, hts, hnw, hK, hA, hfr, hlo, hnm, hsc⟩ := C
  have hdl : decode (xmeth y).2.1 pc = .ok (.iand, len) := of_decide_eq_true (Bool.and_eq_true_iff.mp hchk).1
  have hc := (Bool.and_eq_true_iff.mp hchk).2
  intro ad H locs lsA hW hl hn hkL hkS
  have hlen := Nat.eq_of_beq_eq_true hc
  subst hlen
  simp only [xstep] at hs
  split at hs
  · have h := (xgo_wp (xjust_inv hs hp)).2 ad H locs lsA hW hl hn hkL (fun v hv => by
        rcases List.mem_cons.mp hv with h | h
        · subst h; trivial
        · exact hkS v (List.mem_cons_of_mem _ (List.mem_cons_of_mem _ h)))
    exact lv_iand hx hb hdl h
  · cases hs
set_option maxHeartbeats 4000000 in
set_option maxRecDepth 100000 in
theorem xs_ior (C : xCtx Γ ad0 σ0 y d A H0 p R s m args meth c) {rk rr : Nat} {ks : List (Nat × List Nat)} {pc len : Nat} {aux ps : List Nat} {ls : xL} {st : List xV} {σ : xS} {o : Option Nat} {g : Nat → xB} (hchk : xchk (xmeth y).1 (xmeth y).2.1 (xmeth y).2.2.1 (pc, .ior, len, aux) ps = true) (hs : xstep rk rr ks y (pc, .ior, len, aux) ls st σ = some (.inr (.inl (o, g)))) (hp : xsP (xG Γ ad0 σ0 A H0 p l e R s m args below meth c Q y) o g)  : ∀ (ad : Nat → Nat → Nat) (H : Heap) (locs : List Loc) (lsA : Array Slot), xWd Γ ad0 σ0 A H0 s ad σ H locs → lv_has lsA (xmeth y).2.2.1 (xlv ad 0 ls) → ls.length = (xmeth y).2.2.1 → xokL σ ls → xokS σ st → W p l e R s m args below meth c H locs (σ.2.2.2.2.1 - σ0.2.2.2.2.1) (σ.2.2.2.2.2 - σ0.2.2.2.2.2) Q (F0 m pc lsA (st.map (xtv ad))) := by
  obtain ⟨hx, hb, hml, hown, hts, hnw, hK, hA, hfr, hlo, hnm, hsc⟩ := C
  have hdl : decode (xmeth y).2.1 pc = .ok (.ior, len) := of_decide_eq_true (Bool.and_eq_true_iff.mp hchk).1
  have hc := (Bool.and_eq_true_iff.mp hchk).2
  intro ad H locs lsA hW hl hn hkL hkS
  have hlen := Nat.eq_of_beq_eq_true hc
  subst hlen
  simp only [xstep] at hs
  split at hs
  · have h := (xgo_wp (xjust_inv hs hp)).2 ad H locs lsA hW hl hn hkL (fun v hv => by
        rcases List.mem_cons.mp hv with h | h
        · subst h; trivial
        · exact hkS v (List.mem_cons_of_mem _ (List.mem_cons_of_mem _ h)))
    exact lv_ior hx hb hdl h
  · cases hs
set_option maxHeartbeats 4000000 in
set_option maxRecDepth 100000 in
theorem xs_ixor (C : xCtx Γ ad0 σ0 y d A H0 p R s m args meth c) {rk rr : Nat} {ks : List (Nat × List Nat)} {pc len : Nat} {aux ps : List Nat} {ls : xL} {st : List xV} {σ : xS} {o : Option Nat} {g : Nat → xB} (hchk : xchk (xmeth y).1 (xmeth y).2.1 (xmeth y).2.2.1 (pc, .ixor, len, aux) ps = true) (hs : xstep rk rr ks y (pc, .ixor, len, aux) ls st σ = some (.inr (.inl (o, g)))) (hp : xsP (xG Γ ad0 σ0 A H0 p l e R s m args below meth c Q y) o g)  : ∀ (ad : Nat → Nat → Nat) (H : Heap) (locs : List Loc) (lsA : Array Slot), xWd Γ ad0 σ0 A H0 s ad σ H locs → lv_has lsA (xmeth y).2.2.1 (xlv ad 0 ls) → ls.length = (xmeth y).2.2.1 → xokL σ ls → xokS σ st → W p l e R s m args below meth c H locs (σ.2.2.2.2.1 - σ0.2.2.2.2.1) (σ.2.2.2.2.2 - σ0.2.2.2.2.2) Q (F0 m pc lsA (st.map (xtv ad))) := by
  obtain ⟨hx, hb, hml, hown, hts, hnw, hK, hA, hfr, hlo, hnm, hsc⟩ := C
  have hdl : decode (xmeth y).2.1 pc = .ok (.ixor, len) := of_decide_eq_true (Bool.and_eq_true_iff.mp hchk).1
  have hc := (Bool.and_eq_true_iff.mp hchk).2
  intro ad H locs lsA hW hl hn hkL hkS
  have hlen := Nat.eq_of_beq_eq_true hc
  subst hlen
  simp only [xstep] at hs
  split at hs
  · have h := (xgo_wp (xjust_inv hs hp)).2 ad H locs lsA hW hl hn hkL (fun v hv => by
        rcases List.mem_cons.mp hv with h | h
        · subst h; trivial
        · exact hkS v (List.mem_cons_of_mem _ (List.mem_cons_of_mem _ h)))
    exact lv_ixor hx hb hdl h
  · cases hs
set_option maxHeartbeats 4000000 in
set_option maxRecDepth 100000 in
theorem xs_ishl (C : xCtx Γ ad0 σ0 y d A H0 p R s m args meth c) {rk rr : Nat} {ks : List (Nat × List Nat)} {pc len : Nat} {aux ps : List Nat} {ls : xL} {st : List xV} {σ : xS} {o : Option Nat} {g : Nat → xB} (hchk : xchk (xmeth y).1 (xmeth y).2.1 (xmeth y).2.2.1 (pc, .ishl, len, aux) ps = true) (hs : xstep rk rr ks y (pc, .ishl, len, aux) ls st σ = some (.inr (.inl (o, g)))) (hp : xsP (xG Γ ad0 σ0 A H0 p l e R s m args below meth c Q y) o g)  : ∀ (ad : Nat → Nat → Nat) (H : Heap) (locs : List Loc) (lsA : Array Slot), xWd Γ ad0 σ0 A H0 s ad σ H locs → lv_has lsA (xmeth y).2.2.1 (xlv ad 0 ls) → ls.length = (xmeth y).2.2.1 → xokL σ ls → xokS σ st → W p l e R s m args below meth c H locs (σ.2.2.2.2.1 - σ0.2.2.2.2.1) (σ.2.2.2.2.2 - σ0.2.2.2.2.2) Q (F0 m pc lsA (st.map (xtv ad))) := by
  obtain ⟨hx, hb, hml, hown, hts, hnw, hK, hA, hfr, hlo, hnm, hsc⟩ := C
  have hdl : decode (xmeth y).2.1 pc = .ok (.ishl, len) := of_decide_eq_true (Bool.and_eq_true_iff.mp hchk).1
  have hc := (Bool.and_eq_true_iff.mp hchk).2
  intro ad H locs lsA hW hl hn hkL hkS
  have hlen := Nat.eq_of_beq_eq_true hc
  subst hlen
  simp only [xstep] at hs
  split at hs
  · have h := (xgo_wp (xjust_inv hs hp)).2 ad H locs lsA hW hl hn hkL (fun v hv => by
        rcases List.mem_cons.mp hv with h | h
        · subst h; trivial
        · exact hkS v (List.mem_cons_of_mem _ (List.mem_cons_of_mem _ h)))
    exact lv_ishl hx hb hdl h
  · cases hs
set_option maxHeartbeats 4000000 in
set_option maxRecDepth 100000 in
theorem xs_ishr (C : xCtx Γ ad0 σ0 y d A H0 p R s m args meth c) {rk rr : Nat} {ks : List (Nat × List Nat)} {pc len : Nat} {aux ps : List Nat} {ls : xL} {st : List xV} {σ : xS} {o : Option Nat} {g : Nat → xB} (hchk : xchk (xmeth y).1 (xmeth y).2.1 (xmeth y).2.2.1 (pc, .ishr, len, aux) ps = true) (hs : xstep rk rr ks y (pc, .ishr, len, aux) ls st σ = some (.inr (.inl (o, g)))) (hp : xsP (xG Γ ad0 σ0 A H0 p l e R s m args below meth c Q y) o g)  : ∀ (ad : Nat → Nat → Nat) (H : Heap) (locs : List Loc) (lsA : Array Slot), xWd Γ ad0 σ0 A H0 s ad σ H locs → lv_has lsA (xmeth y).2.2.1 (xlv ad 0 ls) → ls.length = (xmeth y).2.2.1 → xokL σ ls → xokS σ st → W p l e R s m args below meth c H locs (σ.2.2.2.2.1 - σ0.2.2.2.2.1) (σ.2.2.2.2.2 - σ0.2.2.2.2.2) Q (F0 m pc lsA (st.map (xtv ad))) := by
  obtain ⟨hx, hb, hml, hown, hts, hnw, hK, hA, hfr, hlo, hnm, hsc⟩ := C
  have hdl : decode (xmeth y).2.1 pc = .ok (.ishr, len) := of_decide_eq_true (Bool.and_eq_true_iff.mp hchk).1
  have hc := (Bool.and_eq_true_iff.mp hchk).2
  intro ad H locs lsA hW hl hn hkL hkS
  have hlen := Nat.eq_of_beq_eq_true hc
  subst hlen
  simp only [xstep] at hs
  split at hs
  · have h := (xgo_wp (xjust_inv hs hp)).2 ad H locs lsA hW hl hn hkL (fun v hv => by
        rcases List.mem_cons.mp hv with h | h
        · subst h; trivial
        · exact hkS v (List.mem_cons_of_mem _ (List.mem_cons_of_mem _ h)))
    exact lv_ishr hx hb hdl h
  · cases hs
set_option maxHeartbeats 4000000 in
set_option maxRecDepth 100000 in
theorem xs_iushr (C : xCtx Γ ad0 σ0 y d A H0 p R s m args meth c) {rk rr : Nat} {ks : List (Nat × List Nat)} {pc len : Nat} {aux ps : List Nat} {ls : xL} {st : List xV} {σ : xS} {o : Option Nat} {g : Nat → xB} (hchk : xchk (xmeth y).1 (xmeth y).2.1 (xmeth y).2.2.1 (pc, .iushr, len, aux) ps = true) (hs : xstep rk rr ks y (pc, .iushr, len, aux) ls st σ = some (.inr (.inl (o, g)))) (hp : xsP (xG Γ ad0 σ0 A H0 p l e R s m args below meth c Q y) o g)  : ∀ (ad : Nat → Nat → Nat) (H : Heap) (locs : List Loc) (lsA : Array Slot), xWd Γ ad0 σ0 A H0 s ad σ H locs → lv_has lsA (xmeth y).2.2.1 (xlv ad 0 ls) → ls.length = (xmeth y).2.2.1 → xokL σ ls → xokS σ st → W p l e R s m args below meth c H locs (σ.2.2.2.2.1 - σ0.2.2.2.2.1) (σ.2.2.2.2.2 - σ0.2.2.2.2.2) Q (F0 m pc lsA (st.map (xtv ad))) := by
  obtain ⟨hx, hb, hml, hown, hts, hnw, hK, hA, hfr, hlo, hnm, hsc⟩ := C
  have hdl : decode (xmeth y).2.1 pc = .ok (.iushr, len) := of_decide_eq_true (Bool.and_eq_true_iff.mp hchk).1
  have hc := (Bool.and_eq_true_iff.mp hchk).2
  intro ad H locs lsA hW hl hn hkL hkS
  have hlen := Nat.eq_of_beq_eq_true hc
  subst hlen
  simp only [xstep] at hs
  split at hs
  · have h := (xgo_wp (xjust_inv hs hp)).2 ad H locs lsA hW hl hn hkL (fun v hv => by
        rcases List.mem_cons.mp hv with h | h
        · subst h; trivial
        · exact hkS v (List.mem_cons_of_mem _ (List.mem_cons_of_mem _ h)))
    exact lv_iushr hx hb hdl rfl h
  · cases hs
set_option maxHeartbeats 4000000 in
set_option maxRecDepth 100000 in
theorem xs_idiv (C : xCtx Γ ad0 σ0 y d A H0 p R s m args meth c) {rk rr : Nat} {ks : List (Nat × List Nat)} {pc len : Nat} {aux ps : List Nat} {ls : xL} {st : List xV} {σ : xS} {o : Option Nat} {g : Nat → xB} (hchk : xchk (xmeth y).1 (xmeth y).2.1 (xmeth y).2.2.1 (pc, .idiv, len, aux) ps = true) (hs : xstep rk rr ks y (pc, .idiv, len, aux) ls st σ = some (.inr (.inl (o, g)))) (hp : xsP (xG Γ ad0 σ0 A H0 p l e R s m args below meth c Q y) o g)  : ∀ (ad : Nat → Nat → Nat) (H : Heap) (locs : List Loc) (lsA : Array Slot), xWd Γ ad0 σ0 A H0 s ad σ H locs → lv_has lsA (xmeth y).2.2.1 (xlv ad 0 ls) → ls.length = (xmeth y).2.2.1 → xokL σ ls → xokS σ st → W p l e R s m args below meth c H locs (σ.2.2.2.2.1 - σ0.2.2.2.2.1) (σ.2.2.2.2.2 - σ0.2.2.2.2.2) Q (F0 m pc lsA (st.map (xtv ad))) := by
  obtain ⟨hx, hb, hml, hown, hts, hnw, hK, hA, hfr, hlo, hnm, hsc⟩ := C
  have hdl : decode (xmeth y).2.1 pc = .ok (.idiv, len) := of_decide_eq_true (Bool.and_eq_true_iff.mp hchk).1
  have hc := (Bool.and_eq_true_iff.mp hchk).2
  intro ad H locs lsA hW hl hn hkL hkS
  have hlen := Nat.eq_of_beq_eq_true hc
  subst hlen
  simp only [xstep] at hs
  split at hs
  · obtain ⟨h0, h1⟩ := xguard_inv hs hp
    have h := (xgo_wp h1).2 ad H locs lsA hW hl hn hkL (fun v hv => by
        rcases List.mem_cons.mp hv with h | h
        · subst h; trivial
        · exact hkS v (List.mem_cons_of_mem _ (List.mem_cons_of_mem _ h)))
    exact lv_idiv hx hb hdl h0 h
  · cases hs
set_option maxHeartbeats 4000000 in
set_option maxRecDepth 100000 in
theorem xs_irem (C : xCtx Γ ad0 σ0 y d A H0 p R s m args meth c) {rk rr : Nat} {ks : List (Nat × List Nat)} {pc len : Nat} {aux ps : List Nat} {ls : xL} {st : List xV} {σ : xS} {o : Option Nat} {g : Nat → xB} (hchk : xchk (xmeth y).1 (xmeth y).2.1 (xmeth y).2.2.1 (pc, .irem, len, aux) ps = true) (hs : xstep rk rr ks y (pc, .irem, len, aux) ls st σ = some (.inr (.inl (o, g)))) (hp : xsP (xG Γ ad0 σ0 A H0 p l e R s m args below meth c Q y) o g)  : ∀ (ad : Nat → Nat → Nat) (H : Heap) (locs : List Loc) (lsA : Array Slot), xWd Γ ad0 σ0 A H0 s ad σ H locs → lv_has lsA (xmeth y).2.2.1 (xlv ad 0 ls) → ls.length = (xmeth y).2.2.1 → xokL σ ls → xokS σ st → W p l e R s m args below meth c H locs (σ.2.2.2.2.1 - σ0.2.2.2.2.1) (σ.2.2.2.2.2 - σ0.2.2.2.2.2) Q (F0 m pc lsA (st.map (xtv ad))) := by
  obtain ⟨hx, hb, hml, hown, hts, hnw, hK, hA, hfr, hlo, hnm, hsc⟩ := C
  have hdl : decode (xmeth y).2.1 pc = .ok (.irem, len) := of_decide_eq_true (Bool.and_eq_true_iff.mp hchk).1
  have hc := (Bool.and_eq_true_iff.mp hchk).2
  intro ad H locs lsA hW hl hn hkL hkS
  have hlen := Nat.eq_of_beq_eq_true hc
  subst hlen
  simp only [xstep] at hs
  split at hs
  · obtain ⟨h0, h1⟩ := xguard_inv hs hp
    have h := (xgo_wp h1).2 ad H locs lsA hW hl hn hkL (fun v hv => by
        rcases List.mem_cons.mp hv with h | h
        · subst h; trivial
        · exact hkS v (List.mem_cons_of_mem _ (List.mem_cons_of_mem _ h)))
    exact lv_irem hx hb hdl h0 h
  · cases hs
set_option maxHeartbeats 4000000 in
set_option maxRecDepth 100000 in
theorem xs_ladd (C : xCtx Γ ad0 σ0 y d A H0 p R s m args meth c) {rk rr : Nat} {ks : List (Nat × List Nat)} {pc len : Nat} {aux ps : List Nat} {ls : xL} {st : List xV} {σ : xS} {o : Option Nat} {g : Nat → xB} (hchk : xchk (xmeth y).1 (xmeth y).2.1 (xmeth y).2.2.1 (pc, .ladd, len, aux) ps = true) (hs : xstep rk rr ks y (pc, .ladd, len, aux) ls st σ = some (.inr (.inl (o, g)))) (hp : xsP (xG Γ ad0 σ0 A H0 p l e R s m args below meth c Q y) o g)  : ∀ (ad : Nat → Nat → Nat) (H : Heap) (locs : List Loc) (lsA : Array Slot), xWd Γ ad0 σ0 A H0 s ad σ H locs → lv_has lsA (xmeth y).2.2.1 (xlv ad 0 ls) → ls.length = (xmeth y).2.2.1 → xokL σ ls → xokS σ st → W p l e R s m args below meth c H locs (σ.2.2.2.2.1 - σ0.2.2.2.2.1) (σ.2.2.2.2.2 - σ0.2.2.2.2.2) Q (F0 m pc lsA (st.map (xtv ad))) := by
  obtain ⟨hx, hb, hml, hown, hts, hnw, hK, hA, hfr, hlo, hnm, hsc⟩ := C
  have hdl : decode (xmeth y).2.1 pc = .ok (.ladd, len) := of_decide_eq_true (Bool.and_eq_true_iff.mp hchk).1
  have hc := (Bool.and_eq_true_iff.mp hchk).2
  intro ad H locs lsA hW hl hn hkL hkS
  have hlen := Nat.eq_of_beq_eq_true hc
  subst hlen
  simp only [xstep] at hs
  split at hs
  · have h := (xgo_wp (xjust_inv hs hp)).2 ad H locs lsA hW hl hn hkL (fun v hv => by
        rcases List.mem_cons.mp hv with h | h
        · subst h; trivial
        · exact hkS v (List.mem_cons_of_mem _ (List.mem_cons_of_mem _ h)))
    exact lv_ladd hx hb hdl h
  · cases hs
set_option maxHeartbeats 4000000 in
set_option maxRecDepth 100000 in
theorem xs_lsub (C : xCtx Γ ad0 σ0 y d A H0 p R s m args meth c) {rk rr : Nat} {ks : List (Nat × List Nat)} {pc len : Nat} {aux ps : List Nat} {ls : xL} {st : List xV} {σ : xS} {o : Option Nat} {g : Nat → xB} (hchk : xchk (xmeth y).1 (xmeth y).2.1 (xmeth y).2.2.1 (pc, .lsub, len, aux) ps = true) (hs : xstep rk rr ks y (pc, .lsub, len, aux) ls st σ = some (.inr (.inl (o, g)))) (hp : xsP (xG Γ ad0 σ0 A H0 p l e R s m args below meth c Q y) o g)  : ∀ (ad : Nat → Nat → Nat) (H : Heap) (locs : List Loc) (lsA : Array Slot), xWd Γ ad0 σ0 A H0 s ad σ H locs → lv_has lsA (xmeth y).2.2.1 (xlv ad 0 ls) → ls.length = (xmeth y).2.2.1 → xokL σ ls → xokS σ st → W p l e R s m args below meth c H locs (σ.2.2.2.2.1 - σ0.2.2.2.2.1) (σ.2.2.2.2.2 - σ0.2.2.2.2.2) Q (F0 m pc lsA (st.map (xtv ad))) := by
  obtain ⟨hx, hb, hml, hown, hts, hnw, hK, hA, hfr, hlo, hnm, hsc⟩ := C
  have hdl : decode (xmeth y).2.1 pc = .ok (.lsub, len) := of_decide_eq_true (Bool.and_eq_true_iff.mp hchk).1
  have hc := (Bool.and_eq_true_iff.mp hchk).2
  intro ad H locs lsA hW hl hn hkL hkS
  have hlen := Nat.eq_of_beq_eq_true hc
  subst hlen
  simp only [xstep] at hs
  split at hs
  · have h := (xgo_wp (xjust_inv hs hp)).2 ad H locs lsA hW hl hn hkL (fun v hv => by
        rcases List.mem_cons.mp hv with h | h
        · subst h; trivial
        · exact hkS v (List.mem_cons_of_mem _ (List.mem_cons_of_mem _ h)))
    exact lv_lsub hx hb hdl h
  · cases hs
set_option maxHeartbeats 4000000 in
set_option maxRecDepth 100000 in
theorem xs_land (C : xCtx Γ ad0 σ0 y d A H0 p R s m args meth c) {rk rr : Nat} {ks : List (Nat × List Nat)} {pc len : Nat} {aux ps : List Nat} {ls : xL} {st : List xV} {σ : xS} {o : Option Nat} {g : Nat → xB} (hchk : xchk (xmeth y).1 (xmeth y).2.1 (xmeth y).2.2.1 (pc, .land, len, aux) ps = true) (hs : xstep rk rr ks y (pc, .land, len, aux) ls st σ = some (.inr (.inl (o, g)))) (hp : xsP (xG Γ ad0 σ0 A H0 p l e R s m args below meth c Q y) o g)  : ∀ (ad : Nat → Nat → Nat) (H : Heap) (locs : List Loc) (lsA : Array Slot), xWd Γ ad0 σ0 A H0 s ad σ H locs → lv_has lsA (xmeth y).2.2.1 (xlv ad 0 ls) → ls.length = (xmeth y).2.2.1 → xokL σ ls → xokS σ st → W p l e R s m args below meth c H locs (σ.2.2.2.2.1 - σ0.2.2.2.2.1) (σ.2.2.2.2.2 - σ0.2.2.2.2.2) Q (F0 m pc lsA (st.map (xtv ad))) := by
  obtain ⟨hx, hb, hml, hown, hts, hnw, hK, hA, hfr, hlo, hnm, hsc⟩ := C
  have hdl : decode (xmeth y).2.1 pc = .ok (.land, len) := of_decide_eq_true (Bool.and_eq_true_iff.mp hchk).1
  have hc := (Bool.and_eq_true_iff.mp hchk).2
  intro ad H locs lsA hW hl hn hkL hkS
  have hlen := Nat.eq_of_beq_eq_true hc
  subst hlen
  simp only [xstep] at hs
  split at hs
  · have h := (xgo_wp (xjust_inv hs hp)).2 ad H locs lsA hW hl hn hkL (fun v hv => by
        rcases List.mem_cons.mp hv with h | h
        · subst h; trivial
        · exact hkS v (List.mem_cons_of_mem _ (List.mem_cons_of_mem _ h)))
    exact lv_land hx hb hdl h
  · cases hs
set_option maxHeartbeats 4000000 in
set_option maxRecDepth 100000 in
theorem xs_lor (C : xCtx Γ ad0 σ0 y d A H0 p R s m args meth c) {rk rr : Nat} {ks : List (Nat × List Nat)} {pc len : Nat} {aux ps : List Nat} {ls : xL} {st : List xV} {σ : xS} {o : Option Nat} {g : Nat → xB} (hchk : xchk (xmeth y).1 (xmeth y).2.1 (xmeth y).2.2.1 (pc, .lor, len, aux) ps = true) (hs : xstep rk rr ks y (pc, .lor, len, aux) ls st σ = some (.inr (.inl (o, g)))) (hp : xsP (xG Γ ad0 σ0 A H0 p l e R s m args below meth c Q y) o g)  : ∀ (ad : Nat → Nat → Nat) (H : Heap) (locs : List Loc) (lsA : Array Slot), xWd Γ ad0 σ0 A H0 s ad σ H locs → lv_has lsA (xmeth y).2.2.1 (xlv ad 0 ls) → ls.length = (xmeth y).2.2.1 → xokL σ ls → xokS σ st → W p l e R s m args below meth c H locs (σ.2.2.2.2.1 - σ0.2.2.2.2.1) (σ.2.2.2.2.2 - σ0.2.2.2.2.2) Q (F0 m pc lsA (st.map (xtv ad))) := by
  obtain ⟨hx, hb, hml, hown, hts, hnw, hK, hA, hfr, hlo, hnm, hsc⟩ := C
  have hdl : decode (xmeth y).2.1 pc = .ok (.lor, len) := of_decide_eq_true (Bool.and_eq_true_iff.mp hchk).1
  have hc := (Bool.and_eq_true_iff.mp hchk).2
  intro ad H locs lsA hW hl hn hkL hkS
  have hlen := Nat.eq_of_beq_eq_true hc
  subst hlen
  simp only [xstep] at hs
  split at hs
  · have h := (xgo_wp (xjust_inv hs hp)).2 ad H locs lsA hW hl hn hkL (fun v hv => by
        rcases List.mem_cons.mp hv with h | h
        · subst h; trivial
        · exact hkS v (List.mem_cons_of_mem _ (List.mem_cons_of_mem _ h)))
    exact lv_lor hx hb hdl h
  · cases hs
set_option maxHeartbeats 4000000 in
set_option maxRecDepth 100000 in
theorem xs_lxor (C : xCtx Γ ad0 σ0 y d A H0 p R s m args meth c) {rk rr : Nat} {ks : List (Nat × List Nat)} {pc len : Nat} {aux ps : List Nat} {ls : xL} {st : List xV} {σ : xS} {o : Option Nat} {g : Nat → xB} (hchk : xchk (xmeth y).1 (xmeth y).2.1 (xmeth y).2.2.1 (pc, .lxor, len, aux) ps = true) (hs : xstep rk rr ks y (pc, .lxor, len, aux) ls st σ = some (.inr (.inl (o, g)))) (hp : xsP (xG Γ ad0 σ0 A H0 p l e R s m args below meth c Q y) o g)  : ∀ (ad : Nat → Nat → Nat) (H : Heap) (locs : List Loc) (lsA : Array Slot), xWd Γ ad0 σ0 A H0 s ad σ H locs → lv_has lsA (xmeth y).2.2.1 (xlv ad 0 ls) → ls.length = (xmeth y).2.2.1 → xokL σ ls → xokS σ st → W p l e R s m args below meth c H locs (σ.2.2.2.2.1 - σ0.2.2.2.2.1) (σ.2.2.2.2.2 - σ0.2.2.2.2.2) Q (F0 m pc lsA (st.map (xtv ad))) := by
  obtain ⟨hx, hb, hml, hown, hts, hnw, hK, hA, hfr, hlo, hnm, hsc⟩ := C
  have hdl : decode (xmeth y).2.1 pc = .ok (.lxor, len) := of_decide_eq_true (Bool.and_eq_true_iff.mp hchk).1
  have hc := (Bool.and_eq_true_iff.mp hchk).2
  intro ad H locs lsA hW hl hn hkL hkS
  have hlen := Nat.eq_of_beq_eq_true hc
  subst hlen
  simp only [xstep] at hs
  split at hs
  · have h := (xgo_wp (xjust_inv hs hp)).2 ad H locs lsA hW hl hn hkL (fun v hv => by
        rcases List.mem_cons.mp hv with h | h
        · subst h; trivial
        · exact hkS v (List.mem_cons_of_mem _ (List.mem_cons_of_mem _ h)))
    exact lv_lxor hx hb hdl h
  · cases hs
set_option maxHeartbeats 4000000 in
set_option maxRecDepth 100000 in
theorem xs_lshl (C : xCtx Γ ad0 σ0 y d A H0 p R s m args meth c) {rk rr : Nat} {ks : List (Nat × List Nat)} {pc len : Nat} {aux ps : List Nat} {ls : xL} {st : List xV} {σ : xS} {o : Option Nat} {g : Nat → xB} (hchk : xchk (xmeth y).1 (xmeth y).2.1 (xmeth y).2.2.1 (pc, .lshl, len, aux) ps = true) (hs : xstep rk rr ks y (pc, .lshl, len, aux) ls st σ = some (.inr (.inl (o, g)))) (hp : xsP (xG Γ ad0 σ0 A H0 p l e R s m args below meth c Q y) o g)  : ∀ (ad : Nat → Nat → Nat) (H : Heap) (locs : List Loc) (lsA : Array Slot), xWd Γ ad0 σ0 A H0 s ad σ H locs → lv_has lsA (xmeth y).2.2.1 (xlv ad 0 ls) → ls.length = (xmeth y).2.2.1 → xokL σ ls → xokS σ st → W p l e R s m args below meth c H locs (σ.2.2.2.2.1 - σ0.2.2.2.2.1) (σ.2.2.2.2.2 - σ0.2.2.2.2.2) Q (F0 m pc lsA (st.map (xtv ad))) := by
  obtain ⟨hx, hb, hml, hown, hts, hnw, hK, hA, hfr, hlo, hnm, hsc⟩ := C
  have hdl : decode (xmeth y).2.1 pc = .ok (.lshl, len) := of_decide_eq_true (Bool.and_eq_true_iff.mp hchk).1
  have hc := (Bool.and_eq_true_iff.mp hchk).2
  intro ad H locs lsA hW hl hn hkL hkS
  have hlen := Nat.eq_of_beq_eq_true hc
  subst hlen
  simp only [xstep] at hs
  split at hs
  · have h := (xgo_wp (xjust_inv hs hp)).2 ad H locs lsA hW hl hn hkL (fun v hv => by
        rcases List.mem_cons.mp hv with h | h
        · subst h; trivial
        · exact hkS v (List.mem_cons_of_mem _ (List.mem_cons_of_mem _ h)))
    exact lv_lshl hx hb hdl rfl h
  · cases hs
set_option maxHeartbeats 4000000 in
set_option maxRecDepth 100000 in
theorem xs_lshr (C : xCtx Γ ad0 σ0 y d A H0 p R s m args meth c) {rk rr : Nat} {ks : List (Nat × List Nat)} {pc len : Nat} {aux ps : List Nat} {ls : xL} {st : List xV} {σ : xS} {o : Option Nat} {g : Nat → xB} (hchk : xchk (xmeth y).1 (xmeth y).2.1 (xmeth y).2.2.1 (pc, .lshr, len, aux) ps = true) (hs : xstep rk rr ks y (pc, .lshr, len, aux) ls st σ = some (.inr (.inl (o, g)))) (hp : xsP (xG Γ ad0 σ0 A H0 p l e R s m args below meth c Q y) o g)  : ∀ (ad : Nat → Nat → Nat) (H : Heap) (locs : List Loc) (lsA : Array Slot), xWd Γ ad0 σ0 A H0 s ad σ H locs → lv_has lsA (xmeth y).2.2.1 (xlv ad 0 ls) → ls.length = (xmeth y).2.2.1 → xokL σ ls → xokS σ st → W p l e R s m args below meth c H locs (σ.2.2.2.2.1 - σ0.2.2.2.2.1) (σ.2.2.2.2.2 - σ0.2.2.2.2.2) Q (F0 m pc lsA (st.map (xtv ad))) := by
  obtain ⟨hx, hb, hml, hown, hts, hnw, hK, hA, hfr, hlo, hnm, hsc⟩ := C
  have hdl : decode (xmeth y).2.1 pc = .ok (.lshr, len) := of_decide_eq_true (Bool.and_eq_true_iff.mp hchk).1
  have hc := (Bool.and_eq_true_iff.mp hchk).2
  intro ad H locs lsA hW hl hn hkL hkS
  have hlen := Nat.eq_of_beq_eq_true hc
  subst hlen
  simp only [xstep] at hs
  split at hs
  · have h := (xgo_wp (xjust_inv hs hp)).2 ad H locs lsA hW hl hn hkL (fun v hv => by
        rcases List.mem_cons.mp hv with h | h
        · subst h; trivial
        · exact hkS v (List.mem_cons_of_mem _ (List.mem_cons_of_mem _ h)))
    exact lv_lshr hx hb hdl rfl h
  · cases hs
set_option maxHeartbeats 4000000 in
set_option maxRecDepth 100000 in
theorem xs_lushr (C : xCtx Γ ad0 σ0 y d A H0 p R s m args meth c) {rk rr : Nat} {ks : List (Nat × List Nat)} {pc len : Nat} {aux ps : List Nat} {ls : xL} {st : List xV} {σ : xS} {o : Option Nat} {g : Nat → xB} (hchk : xchk (xmeth y).1 (xmeth y).2.1 (xmeth y).2.2.1 (pc, .lushr, len, aux) ps = true) (hs : xstep rk rr ks y (pc, .lushr, len, aux) ls st σ = some (.inr (.inl (o, g)))) (hp : xsP (xG Γ ad0 σ0 A H0 p l e R s m args below meth c Q y) o g)  : ∀ (ad : Nat → Nat → Nat) (H : Heap) (locs : List Loc) (lsA : Array Slot), xWd Γ ad0 σ0 A H0 s ad σ H locs → lv_has lsA (xmeth y).2.2.1 (xlv ad 0 ls) → ls.length = (xmeth y).2.2.1 → xokL σ ls → xokS σ st → W p l e R s m args below meth c H locs (σ.2.2.2.2.1 - σ0.2.2.2.2.1) (σ.2.2.2.2.2 - σ0.2.2.2.2.2) Q (F0 m pc lsA (st.map (xtv ad))) := by
  obtain ⟨hx, hb, hml, hown, hts, hnw, hK, hA, hfr, hlo, hnm, hsc⟩ := C
  have hdl : decode (xmeth y).2.1 pc = .ok (.lushr, len) := of_decide_eq_true (Bool.and_eq_true_iff.mp hchk).1
  have hc := (Bool.and_eq_true_iff.mp hchk).2
  intro ad H locs lsA hW hl hn hkL hkS
  have hlen := Nat.eq_of_beq_eq_true hc
  subst hlen
  simp only [xstep] at hs
  split at hs
  · have h := (xgo_wp (xjust_inv hs hp)).2 ad H locs lsA hW hl hn hkL (fun v hv => by
        rcases List.mem_cons.mp hv with h | h
        · subst h; trivial
        · exact hkS v (List.mem_cons_of_mem _ (List.mem_cons_of_mem _ h)))
    exact lv_lushr hx hb hdl rfl h
  · cases hs
set_option maxHeartbeats 4000000 in
set_option maxRecDepth 100000 in
theorem xs_lcmp (C : xCtx Γ ad0 σ0 y d A H0 p R s m args meth c) {rk rr : Nat} {ks : List (Nat × List Nat)} {pc len : Nat} {aux ps : List Nat} {ls : xL} {st : List xV} {σ : xS} {o : Option Nat} {g : Nat → xB} (hchk : xchk (xmeth y).1 (xmeth y).2.1 (xmeth y).2.2.1 (pc, .lcmp, len, aux) ps = true) (hs : xstep rk rr ks y (pc, .lcmp, len, aux) ls st σ = some (.inr (.inl (o, g)))) (hp : xsP (xG Γ ad0 σ0 A H0 p l e R s m args below meth c Q y) o g)  : ∀ (ad : Nat → Nat → Nat) (H : Heap) (locs : List Loc) (lsA : Array Slot), xWd Γ ad0 σ0 A H0 s ad σ H locs → lv_has lsA (xmeth y).2.2.1 (xlv ad 0 ls) → ls.length = (xmeth y).2.2.1 → xokL σ ls → xokS σ st → W p l e R s m args below meth c H locs (σ.2.2.2.2.1 - σ0.2.2.2.2.1) (σ.2.2.2.2.2 - σ0.2.2.2.2.2) Q (F0 m pc lsA (st.map (xtv ad))) := by
  obtain ⟨hx, hb, hml, hown, hts, hnw, hK, hA, hfr, hlo, hnm, hsc⟩ := C
  have hdl : decode (xmeth y).2.1 pc = .ok (.lcmp, len) := of_decide_eq_true (Bool.and_eq_true_iff.mp hchk).1
  have hc := (Bool.and_eq_true_iff.mp hchk).2
  intro ad H locs lsA hW hl hn hkL hkS
  have hlen := Nat.eq_of_beq_eq_true hc
  subst hlen
  simp only [xstep] at hs
  split at hs
  · have h := (xgo_wp (xjust_inv hs hp)).2 ad H locs lsA hW hl hn hkL (fun v hv => by
        rcases List.mem_cons.mp hv with h | h
        · subst h; trivial
        · exact hkS v (List.mem_cons_of_mem _ (List.mem_cons_of_mem _ h)))
    exact W.lcmp hx hb hdl h
  · cases hs
set_option maxHeartbeats 4000000 in
set_option maxRecDepth 100000 in
theorem xs_i2l (C : xCtx Γ ad0 σ0 y d A H0 p R s m args meth c) {rk rr : Nat} {ks : List (Nat × List Nat)} {pc len : Nat} {aux ps : List Nat} {ls : xL} {st : List xV} {σ : xS} {o : Option Nat} {g : Nat → xB} (hchk : xchk (xmeth y).1 (xmeth y).2.1 (xmeth y).2.2.1 (pc, .i2l, len, aux) ps = true) (hs : xstep rk rr ks y (pc, .i2l, len, aux) ls st σ = some (.inr (.inl (o, g)))) (hp : xsP (xG Γ ad0 σ0 A H0 p l e R s m args below meth c Q y) o g)  : ∀ (ad : Nat → Nat → Nat) (H : Heap) (locs : List Loc) (lsA : Array Slot), xWd Γ ad0 σ0 A H0 s ad σ H locs → lv_has lsA (xmeth y).2.2.1 (xlv ad 0 ls) → ls.length = (xmeth y).2.2.1 → xokL σ ls → xokS σ st → W p l e R s m args below meth c H locs (σ.2.2.2.2.1 - σ0.2.2.2.2.1) (σ.2.2.2.2.2 - σ0.2.2.2.2.2) Q (F0 m pc lsA (st.map (xtv ad))) := by
  obtain ⟨hx, hb, hml, hown, hts, hnw, hK, hA, hfr, hlo, hnm, hsc⟩ := C
  have hdl : decode (xmeth y).2.1 pc = .ok (.i2l, len) := of_decide_eq_true (Bool.and_eq_true_iff.mp hchk).1
  have hc := (Bool.and_eq_true_iff.mp hchk).2
  intro ad H locs lsA hW hl hn hkL hkS
  have hlen := Nat.eq_of_beq_eq_true hc
  subst hlen
  simp only [xstep] at hs
  split at hs
  · have h := (xgo_wp (xjust_inv hs hp)).2 ad H locs lsA hW hl hn hkL (fun v hv => by
        rcases List.mem_cons.mp hv with h | h
        · subst h; trivial
        · exact hkS v (List.mem_cons_of_mem _ h))
    exact lv_i2l hx hb hdl rfl h
  · cases hs
set_option maxHeartbeats 4000000 in
set_option maxRecDepth 100000 in
theorem xs_l2i (C : xCtx Γ ad0 σ0 y d A H0 p R s m args meth c) {rk rr : Nat} {ks : List (Nat × List Nat)} {pc len : Nat} {aux ps : List Nat} {ls : xL} {st : List xV} {σ : xS} {o : Option Nat} {g : Nat → xB} (hchk : xchk (xmeth y).1 (xmeth y).2.1 (xmeth y).2.2.1 (pc, .l2i, len, aux) ps = true) (hs : xstep rk rr ks y (pc, .l2i, len, aux) ls st σ = some (.inr (.inl (o, g)))) (hp : xsP (xG Γ ad0 σ0 A H0 p l e R s m args below meth c Q y) o g)  : ∀ (ad : Nat → Nat → Nat) (H : Heap) (locs : List Loc) (lsA : Array Slot), xWd Γ ad0 σ0 A H0 s ad σ H locs → lv_has lsA (xmeth y).2.2.1 (xlv ad 0 ls) → ls.length = (xmeth y).2.2.1 → xokL σ ls → xokS σ st → W p l e R s m args below meth c H locs (σ.2.2.2.2.1 - σ0.2.2.2.2.1) (σ.2.2.2.2.2 - σ0.2.2.2.2.2) Q (F0 m pc lsA (st.map (xtv ad))) := by
  obtain ⟨hx, hb, hml, hown, hts, hnw, hK, hA, hfr, hlo, hnm, hsc⟩ := C
  have hdl : decode (xmeth y).2.1 pc = .ok (.l2i, len) := of_decide_eq_true (Bool.and_eq_true_iff.mp hchk).1
  have hc := (Bool.and_eq_true_iff.mp hchk).2
  intro ad H locs lsA hW hl hn hkL hkS
  have hlen := Nat.eq_of_beq_eq_true hc
  subst hlen
  simp only [xstep] at hs
  split at hs
  · have h := (xgo_wp (xjust_inv hs hp)).2 ad H locs lsA hW hl hn hkL (fun v hv => by
        rcases List.mem_cons.mp hv with h | h
        · subst h; trivial
        · exact hkS v (List.mem_cons_of_mem _ h))
    exact lv_l2i hx hb hdl rfl h
  · cases hs
set_option maxHeartbeats 4000000 in
set_option maxRecDepth 100000 in
theorem xs_i2b (C : xCtx Γ ad0 σ0 y d A H0 p R s m args meth c) {rk rr : Nat} {ks : List (Nat × List Nat)} {pc len : Nat} {aux ps : List Nat} {ls : xL} {st : List xV} {σ : xS} {o : Option Nat} {g : Nat → xB} (hchk : xchk (xmeth y).1 (xmeth y).2.1 (xmeth y).2.2.1 (pc, .i2b, len, aux) ps = true) (hs : xstep rk rr ks y (pc, .i2b, len, aux) ls st σ = some (.inr (.inl (o, g)))) (hp : xsP (xG Γ ad0 σ0 A H0 p l e R s m args below meth c Q y) o g)  : ∀ (ad : Nat → Nat → Nat) (H : Heap) (locs : List Loc) (lsA : Array Slot), xWd Γ ad0 σ0 A H0 s ad σ H locs → lv_has lsA (xmeth y).2.2.1 (xlv ad 0 ls) → ls.length = (xmeth y).2.2.1 → xokL σ ls → xokS σ st → W p l e R s m args below meth c H locs (σ.2.2.2.2.1 - σ0.2.2.2.2.1) (σ.2.2.2.2.2 - σ0.2.2.2.2.2) Q (F0 m pc lsA (st.map (xtv ad))) := by
  obtain ⟨hx, hb, hml, hown, hts, hnw, hK, hA, hfr, hlo, hnm, hsc⟩ := C
  have hdl : decode (xmeth y).2.1 pc = .ok (.i2b, len) := of_decide_eq_true (Bool.and_eq_true_iff.mp hchk).1
  have hc := (Bool.and_eq_true_iff.mp hchk).2
  intro ad H locs lsA hW hl hn hkL hkS
  have hlen := Nat.eq_of_beq_eq_true hc
  subst hlen
  simp only [xstep] at hs
  split at hs
  · have h := (xgo_wp (xjust_inv hs hp)).2 ad H locs lsA hW hl hn hkL (fun v hv => by
        rcases List.mem_cons.mp hv with h | h
        · subst h; trivial
        · exact hkS v (List.mem_cons_of_mem _ h))
    exact lv_i2b hx hb hdl rfl h
  · cases hs
set_option maxHeartbeats 4000000 in
set_option maxRecDepth 100000 in
theorem xs_i2s (C : xCtx Γ ad0 σ0 y d A H0 p R s m args meth c) {rk rr : Nat} {ks : List (Nat × List Nat)} {pc len : Nat} {aux ps : List Nat} {ls : xL} {st : List xV} {σ : xS} {o : Option Nat} {g : Nat → xB} (hchk : xchk (xmeth y).1 (xmeth y).2.1 (xmeth y).2.2.1 (pc, .i2s, len, aux) ps = true) (hs : xstep rk rr ks y (pc, .i2s, len, aux) ls st σ = some (.inr (.inl (o, g)))) (hp : xsP (xG Γ ad0 σ0 A H0 p l e R s m args below meth c Q y) o g)  : ∀ (ad : Nat → Nat → Nat) (H : Heap) (locs : List Loc) (lsA : Array Slot), xWd Γ ad0 σ0 A H0 s ad σ H locs → lv_has lsA (xmeth y).2.2.1 (xlv ad 0 ls) → ls.length = (xmeth y).2.2.1 → xokL σ ls → xokS σ st → W p l e R s m args below meth c H locs (σ.2.2.2.2.1 - σ0.2.2.2.2.1) (σ.2.2.2.2.2 - σ0.2.2.2.2.2) Q (F0 m pc lsA (st.map (xtv ad))) := by
  obtain ⟨hx, hb, hml, hown, hts, hnw, hK, hA, hfr, hlo, hnm, hsc⟩ := C
  have hdl : decode (xmeth y).2.1 pc = .ok (.i2s, len) := of_decide_eq_true (Bool.and_eq_true_iff.mp hchk).1
  have hc := (Bool.and_eq_true_iff.mp hchk).2
  intro ad H locs lsA hW hl hn hkL hkS
  have hlen := Nat.eq_of_beq_eq_true hc
  subst hlen
  simp only [xstep] at hs
  split at hs
  · have h := (xgo_wp (xjust_inv hs hp)).2 ad H locs lsA hW hl hn hkL (fun v hv => by
        rcases List.mem_cons.mp hv with h | h
        · subst h; trivial
        · exact hkS v (List.mem_cons_of_mem _ h))
    exact lv_i2s hx hb hdl rfl h
  · cases hs
set_option maxHeartbeats 4000000 in
set_option maxRecDepth 100000 in
theorem xs_iconst (C : xCtx Γ ad0 σ0 y d A H0 p R s m args meth c) {rk rr : Nat} {ks : List (Nat × List Nat)} {pc len : Nat} {aux ps : List Nat} {ls : xL} {st : List xV} {σ : xS} {o : Option Nat} {g : Nat → xB} {n : Int} (hchk : xchk (xmeth y).1 (xmeth y).2.1 (xmeth y).2.2.1 (pc, (.iconst n), len, aux) ps = true) (hs : xstep rk rr ks y (pc, (.iconst n), len, aux) ls st σ = some (.inr (.inl (o, g)))) (hp : xsP (xG Γ ad0 σ0 A H0 p l e R s m args below meth c Q y) o g)  : ∀ (ad : Nat → Nat → Nat) (H : Heap) (locs : List Loc) (lsA : Array Slot), xWd Γ ad0 σ0 A H0 s ad σ H locs → lv_has lsA (xmeth y).2.2.1 (xlv ad 0 ls) → ls.length = (xmeth y).2.2.1 → xokL σ ls → xokS σ st → W p l e R s m args below meth c H locs (σ.2.2.2.2.1 - σ0.2.2.2.2.1) (σ.2.2.2.2.2 - σ0.2.2.2.2.2) Q (F0 m pc lsA (st.map (xtv ad))) := by
  obtain ⟨hx, hb, hml, hown, hts, hnw, hK, hA, hfr, hlo, hnm, hsc⟩ := C
  have hdl : decode (xmeth y).2.1 pc = .ok ((.iconst n), len) := of_decide_eq_true (Bool.and_eq_true_iff.mp hchk).1
  have hc := (Bool.and_eq_true_iff.mp hchk).2
  intro ad H locs lsA hW hl hn hkL hkS
  simp only [Bool.and_eq_true] at hc
  have hlen := Nat.eq_of_beq_eq_true hc.1
  subst hlen
  simp only [xstep] at hs
  have hs := xcN_of hc.2 hs
  have h := (xgo_wp (xjust_inv hs hp)).2 ad H locs lsA hW hl hn hkL (fun v hv => by
    rcases List.mem_cons.mp hv with h | h
    · subst h; trivial
    · exact hkS v h)
  exact lv_iconst hx hb hdl rfl h
set_option maxHeartbeats 4000000 in
set_option maxRecDepth 100000 in
theorem xs_bipush (C : xCtx Γ ad0 σ0 y d A H0 p R s m args meth c) {rk rr : Nat} {ks : List (Nat × List Nat)} {pc len : Nat} {aux ps : List Nat} {ls : xL} {st : List xV} {σ : xS} {o : Option Nat} {g : Nat → xB} {n : Int} (hchk : xchk (xmeth y).1 (xmeth y).2.1 (xmeth y).2.2.1 (pc, (.bipush n), len, aux) ps = true) (hs : xstep rk rr ks y (pc, (.bipush n), len, aux) ls st σ = some (.inr (.inl (o, g)))) (hp : xsP (xG Γ ad0 σ0 A H0 p l e R s m args below meth c Q y) o g)  : ∀ (ad : Nat → Nat → Nat) (H : Heap) (locs : List Loc) (lsA : Array Slot), xWd Γ ad0 σ0 A H0 s ad σ H locs → lv_has lsA (xmeth y).2.2.1 (xlv ad 0 ls) → ls.length = (xmeth y).2.2.1 → xokL σ ls → xokS σ st → W p l e R s m args below meth c H locs (σ.2.2.2.2.1 - σ0.2.2.2.2.1) (σ.2.2.2.2.2 - σ0.2.2.2.2.2) Q (F0 m pc lsA (st.map (xtv ad))) := by
  obtain ⟨hx, hb, hml, hown, hts, hnw, hK, hA, hfr, hlo, hnm, hsc⟩ := C
  have hdl : decode (xmeth y).2.1 pc = .ok ((.bipush n), len) := of_decide_eq_true (Bool.and_eq_true_iff.mp hchk).1
  have hc := (Bool.and_eq_true_iff.mp hchk).2
  intro ad H locs lsA hW hl hn hkL hkS
  simp only [Bool.and_eq_true] at hc
  have hlen := Nat.eq_of_beq_eq_true hc.1
  subst hlen
  simp only [xstep] at hs
  have hs := xcN_of hc.2 hs
  have h := (xgo_wp (xjust_inv hs hp)).2 ad H locs lsA hW hl hn hkL (fun v hv => by
    rcases List.mem_cons.mp hv with h | h
    · subst h; trivial
    · exact hkS v h)
  exact lv_bipush hx hb hdl rfl h
set_option maxHeartbeats 4000000 in
set_option maxRecDepth 100000 in
theorem xs_sipush (C : xCtx Γ ad0 σ0 y d A H0 p R s m args meth c) {rk rr : Nat} {ks : List (Nat × List Nat)} {pc len : Nat} {aux ps : List Nat} {ls : xL} {st : List xV} {σ : xS} {o : Option Nat} {g : Nat → xB} {n : Int} (hchk : xchk (xmeth y).1 (xmeth y).2.1 (xmeth y).2.2.1 (pc, (.sipush n), len, aux) ps = true) (hs : xstep rk rr ks y (pc, (.sipush n), len, aux) ls st σ = some (.inr (.inl (o, g)))) (hp : xsP (xG Γ ad0 σ0 A H0 p l e R s m args below meth c Q y) o g)  : ∀ (ad : Nat → Nat → Nat) (H : Heap) (locs : List Loc) (lsA : Array Slot), xWd Γ ad0 σ0 A H0 s ad σ H locs → lv_has lsA (xmeth y).2.2.1 (xlv ad 0 ls) → ls.length = (xmeth y).2.2.1 → xokL σ ls → xokS σ st → W p l e R s m args below meth c H locs (σ.2.2.2.2.1 - σ0.2.2.2.2.1) (σ.2.2.2.2.2 - σ0.2.2.2.2.2) Q (F0 m pc lsA (st.map (xtv ad))) := by
  obtain ⟨hx, hb, hml, hown, hts, hnw, hK, hA, hfr, hlo, hnm, hsc⟩ := C
  have hdl : decode (xmeth y).2.1 pc = .ok ((.sipush n), len) := of_decide_eq_true (Bool.and_eq_true_iff.mp hchk).1
  have hc := (Bool.and_eq_true_iff.mp hchk).2
  intro ad H locs lsA hW hl hn hkL hkS
  simp only [Bool.and_eq_true] at hc
  have hlen := Nat.eq_of_beq_eq_true hc.1
  subst hlen
  simp only [xstep] at hs
  have hs := xcN_of hc.2 hs
  have h := (xgo_wp (xjust_inv hs hp)).2 ad H locs lsA hW hl hn hkL (fun v hv => by
    rcases List.mem_cons.mp hv with h | h
    · subst h; trivial
    · exact hkS v h)
  exact lv_sipush hx hb hdl rfl h
set_option maxHeartbeats 4000000 in
set_option maxRecDepth 100000 in
theorem xs_lconst (C : xCtx Γ ad0 σ0 y d A H0 p R s m args meth c) {rk rr : Nat} {ks : List (Nat × List Nat)} {pc len : Nat} {aux ps : List Nat} {ls : xL} {st : List xV} {σ : xS} {o : Option Nat} {g : Nat → xB} {n : Fin 2} (hchk : xchk (xmeth y).1 (xmeth y).2.1 (xmeth y).2.2.1 (pc, (.lconst n), len, aux) ps = true) (hs : xstep rk rr ks y (pc, (.lconst n), len, aux) ls st σ = some (.inr (.inl (o, g)))) (hp : xsP (xG Γ ad0 σ0 A H0 p l e R s m args below meth c Q y) o g)  : ∀ (ad : Nat → Nat → Nat) (H : Heap) (locs : List Loc) (lsA : Array Slot), xWd Γ ad0 σ0 A H0 s ad σ H locs → lv_has lsA (xmeth y).2.2.1 (xlv ad 0 ls) → ls.length = (xmeth y).2.2.1 → xokL σ ls → xokS σ st → W p l e R s m args below meth c H locs (σ.2.2.2.2.1 - σ0.2.2.2.2.1) (σ.2.2.2.2.2 - σ0.2.2.2.2.2) Q (F0 m pc lsA (st.map (xtv ad))) := by
  obtain ⟨hx, hb, hml, hown, hts, hnw, hK, hA, hfr, hlo, hnm, hsc⟩ := C
  have hdl : decode (xmeth y).2.1 pc = .ok ((.lconst n), len) := of_decide_eq_true (Bool.and_eq_true_iff.mp hchk).1
  have hc := (Bool.and_eq_true_iff.mp hchk).2
  intro ad H locs lsA hW hl hn hkL hkS
  simp only [Bool.and_eq_true] at hc
  have hlen := Nat.eq_of_beq_eq_true hc.1
  subst hlen
  simp only [xstep] at hs
  split at hs
  · have h := (xgo_wp (xjust_inv hs hp)).2 ad H locs lsA hW hl hn hkL (fun v hv => by
      rcases List.mem_cons.mp hv with h | h
      · subst h; trivial
      · exact hkS v h)
    exact lv_lconst hx hb hdl (of_decide_eq_true hc.2) h
  · cases hs
set_option maxHeartbeats 4000000 in
set_option maxRecDepth 100000 in
theorem xs_ldc (C : xCtx Γ ad0 σ0 y d A H0 p R s m args meth c) {rk rr : Nat} {ks : List (Nat × List Nat)} {pc len : Nat} {aux ps : List Nat} {ls : xL} {st : List xV} {σ : xS} {o : Option Nat} {g : Nat → xB} {i : Nat} (hchk : xchk (xmeth y).1 (xmeth y).2.1 (xmeth y).2.2.1 (pc, (.ldc i), len, aux) ps = true) (hs : xstep rk rr ks y (pc, (.ldc i), len, aux) ls st σ = some (.inr (.inl (o, g)))) (hp : xsP (xG Γ ad0 σ0 A H0 p l e R s m args below meth c Q y) o g)  : ∀ (ad : Nat → Nat → Nat) (H : Heap) (locs : List Loc) (lsA : Array Slot), xWd Γ ad0 σ0 A H0 s ad σ H locs → lv_has lsA (xmeth y).2.2.1 (xlv ad 0 ls) → ls.length = (xmeth y).2.2.1 → xokL σ ls → xokS σ st → W p l e R s m args below meth c H locs (σ.2.2.2.2.1 - σ0.2.2.2.2.1) (σ.2.2.2.2.2 - σ0.2.2.2.2.2) Q (F0 m pc lsA (st.map (xtv ad))) := by
  obtain ⟨hx, hb, hml, hown, hts, hnw, hK, hA, hfr, hlo, hnm, hsc⟩ := C
  have hdl : decode (xmeth y).2.1 pc = .ok ((.ldc i), len) := of_decide_eq_true (Bool.and_eq_true_iff.mp hchk).1
  have hc := (Bool.and_eq_true_iff.mp hchk).2
  intro ad H locs lsA hW hl hn hkL hkS
  simp only [Bool.and_eq_true] at hc
  have hlen := Nat.eq_of_beq_eq_true hc.1
  subst hlen
  simp only [xstep] at hs
  split at hs
  · have h := (xgo_wp (xjust_inv hs hp)).2 ad H locs lsA hW hl hn hkL (fun v hv => by
      rcases List.mem_cons.mp hv with h | h
      · subst h; trivial
      · exact hkS v h)
    obtain ⟨w1, w2⟩ := xg_mem hc.2
    exact lv_ldc hx hb hown (hts _ w1 w2) hdl h
  · cases hs
set_option maxHeartbeats 4000000 in
set_option maxRecDepth 100000 in
theorem xs_ldc_w (C : xCtx Γ ad0 σ0 y d A H0 p R s m args meth c) {rk rr : Nat} {ks : List (Nat × List Nat)} {pc len : Nat} {aux ps : List Nat} {ls : xL} {st : List xV} {σ : xS} {o : Option Nat} {g : Nat → xB} {i : Nat} (hchk : xchk (xmeth y).1 (xmeth y).2.1 (xmeth y).2.2.1 (pc, (.ldc_w i), len, aux) ps = true) (hs : xstep rk rr ks y (pc, (.ldc_w i), len, aux) ls st σ = some (.inr (.inl (o, g)))) (hp : xsP (xG Γ ad0 σ0 A H0 p l e R s m args below meth c Q y) o g)  : ∀ (ad : Nat → Nat → Nat) (H : Heap) (locs : List Loc) (lsA : Array Slot), xWd Γ ad0 σ0 A H0 s ad σ H locs → lv_has lsA (xmeth y).2.2.1 (xlv ad 0 ls) → ls.length = (xmeth y).2.2.1 → xokL σ ls → xokS σ st → W p l e R s m args below meth c H locs (σ.2.2.2.2.1 - σ0.2.2.2.2.1) (σ.2.2.2.2.2 - σ0.2.2.2.2.2) Q (F0 m pc lsA (st.map (xtv ad))) := by
  obtain ⟨hx, hb, hml, hown, hts, hnw, hK, hA, hfr, hlo, hnm, hsc⟩ := C
  have hdl : decode (xmeth y).2.1 pc = .ok ((.ldc_w i), len) := of_decide_eq_true (Bool.and_eq_true_iff.mp hchk).1
  have hc := (Bool.and_eq_true_iff.mp hchk).2
  intro ad H locs lsA hW hl hn hkL hkS
  simp only [Bool.and_eq_true] at hc
  have hlen := Nat.eq_of_beq_eq_true hc.1
  subst hlen
  simp only [xstep] at hs
  split at hs
  · have h := (xgo_wp (xjust_inv hs hp)).2 ad H locs lsA hW hl hn hkL (fun v hv => by
      rcases List.mem_cons.mp hv with h | h
      · subst h; trivial
      · exact hkS v h)
    obtain ⟨w1, w2⟩ := xg_mem hc.2
    exact lv_ldcw hx hb hown (hts _ w1 w2) hdl h
  · cases hs
set_option maxHeartbeats 4000000 in
set_option maxRecDepth 100000 in
theorem xs_ldc2_w (C : xCtx Γ ad0 σ0 y d A H0 p R s m args meth c) {rk rr : Nat} {ks : List (Nat × List Nat)} {pc len : Nat} {aux ps : List Nat} {ls : xL} {st : List xV} {σ : xS} {o : Option Nat} {g : Nat → xB} {i : Nat} (hchk : xchk (xmeth y).1 (xmeth y).2.1 (xmeth y).2.2.1 (pc, (.ldc2_w i), len, aux) ps = true) (hs : xstep rk rr ks y (pc, (.ldc2_w i), len, aux) ls st σ = some (.inr (.inl (o, g)))) (hp : xsP (xG Γ ad0 σ0 A H0 p l e R s m args below meth c Q y) o g)  : ∀ (ad : Nat → Nat → Nat) (H : Heap) (locs : List Loc) (lsA : Array Slot), xWd Γ ad0 σ0 A H0 s ad σ H locs → lv_has lsA (xmeth y).2.2.1 (xlv ad 0 ls) → ls.length = (xmeth y).2.2.1 → xokL σ ls → xokS σ st → W p l e R s m args below meth c H locs (σ.2.2.2.2.1 - σ0.2.2.2.2.1) (σ.2.2.2.2.2 - σ0.2.2.2.2.2) Q (F0 m pc lsA (st.map (xtv ad))) := by
  obtain ⟨hx, hb, hml, hown, hts, hnw, hK, hA, hfr, hlo, hnm, hsc⟩ := C
  have hdl : decode (xmeth y).2.1 pc = .ok ((.ldc2_w i), len) := of_decide_eq_true (Bool.and_eq_true_iff.mp hchk).1
  have hc := (Bool.and_eq_true_iff.mp hchk).2
  intro ad H locs lsA hW hl hn hkL hkS
  simp only [Bool.and_eq_true] at hc
  have hlen := Nat.eq_of_beq_eq_true hc.1
  subst hlen
  simp only [xstep] at hs
  split at hs
  · have h := (xgo_wp (xjust_inv hs hp)).2 ad H locs lsA hW hl hn hkL (fun v hv => by
      rcases List.mem_cons.mp hv with h | h
      · subst h; trivial
      · exact hkS v h)
    obtain ⟨w1, w2⟩ := xg_mem hc.2
    exact lv_ldc2 hx hb hown (hts _ w1 w2) hdl h
  · cases hs
set_option maxHeartbeats 4000000 in
set_option maxRecDepth 100000 in
theorem xs_aconst_null (C : xCtx Γ ad0 σ0 y d A H0 p R s m args meth c) {rk rr : Nat} {ks : List (Nat × List Nat)} {pc len : Nat} {aux ps : List Nat} {ls : xL} {st : List xV} {σ : xS} {o : Option Nat} {g : Nat → xB} (hchk : xchk (xmeth y).1 (xmeth y).2.1 (xmeth y).2.2.1 (pc, .aconst_null, len, aux) ps = true) (hs : xstep rk rr ks y (pc, .aconst_null, len, aux) ls st σ = some (.inr (.inl (o, g)))) (hp : xsP (xG Γ ad0 σ0 A H0 p l e R s m args below meth c Q y) o g)  : ∀ (ad : Nat → Nat → Nat) (H : Heap) (locs : List Loc) (lsA : Array Slot), xWd Γ ad0 σ0 A H0 s ad σ H locs → lv_has lsA (xmeth y).2.2.1 (xlv ad 0 ls) → ls.length = (xmeth y).2.2.1 → xokL σ ls → xokS σ st → W p l e R s m args below meth c H locs (σ.2.2.2.2.1 - σ0.2.2.2.2.1) (σ.2.2.2.2.2 - σ0.2.2.2.2.2) Q (F0 m pc lsA (st.map (xtv ad))) := by
  obtain ⟨hx, hb, hml, hown, hts, hnw, hK, hA, hfr, hlo, hnm, hsc⟩ := C
  have hdl : decode (xmeth y).2.1 pc = .ok (.aconst_null, len) := of_decide_eq_true (Bool.and_eq_true_iff.mp hchk).1
  have hc := (Bool.and_eq_true_iff.mp hchk).2
  intro ad H locs lsA hW hl hn hkL hkS
  have hlen := Nat.eq_of_beq_eq_true hc
  subst hlen
  simp only [xstep] at hs
  split at hs
  · have h := (xgo_wp (xjust_inv hs hp)).2 ad H locs lsA hW hl hn hkL (fun v hv => by
      rcases List.mem_cons.mp hv with h | h
      · subst h; trivial
      · exact hkS v h)
    exact lv_null hx hb hdl h
  · cases hs
set_option maxHeartbeats 4000000 in
set_option maxRecDepth 100000 in
theorem xs_iload_n (C : xCtx Γ ad0 σ0 y d A H0 p R s m args meth c) {rk rr : Nat} {ks : List (Nat × List Nat)} {pc len : Nat} {aux ps : List Nat} {ls : xL} {st : List xV} {σ : xS} {o : Option Nat} {g : Nat → xB} {k : Fin 4} (hchk : xchk (xmeth y).1 (xmeth y).2.1 (xmeth y).2.2.1 (pc, (.iload_n k), len, aux) ps = true) (hs : xstep rk rr ks y (pc, (.iload_n k), len, aux) ls st σ = some (.inr (.inl (o, g)))) (hp : xsP (xG Γ ad0 σ0 A H0 p l e R s m args below meth c Q y) o g)  : ∀ (ad : Nat → Nat → Nat) (H : Heap) (locs : List Loc) (lsA : Array Slot), xWd Γ ad0 σ0 A H0 s ad σ H locs → lv_has lsA (xmeth y).2.2.1 (xlv ad 0 ls) → ls.length = (xmeth y).2.2.1 → xokL σ ls → xokS σ st → W p l e R s m args below meth c H locs (σ.2.2.2.2.1 - σ0.2.2.2.2.1) (σ.2.2.2.2.2 - σ0.2.2.2.2.2) Q (F0 m pc lsA (st.map (xtv ad))) := by
  obtain ⟨hx, hb, hml, hown, hts, hnw, hK, hA, hfr, hlo, hnm, hsc⟩ := C
  have hdl : decode (xmeth y).2.1 pc = .ok ((.iload_n k), len) := of_decide_eq_true (Bool.and_eq_true_iff.mp hchk).1
  have hc := (Bool.and_eq_true_iff.mp hchk).2
  intro ad H locs lsA hW hl hn hkL hkS
  have hlen := Nat.eq_of_beq_eq_true hc
  subst hlen
  simp only [xstep] at hs
  split at hs
  · rename_i x hk
    have h := (xgo_wp (xjust_inv hs hp)).2 ad H locs lsA hW hl hn hkL (fun v hv => by
      rcases List.mem_cons.mp hv with h | h
      · subst h; trivial
      · exact hkS v h)
    exact lv_iload_n hx hb hdl rfl (xlv_get hl hk) h
  · cases hs
set_option maxHeartbeats 4000000 in
set_option maxRecDepth 100000 in
theorem xs_iload (C : xCtx Γ ad0 σ0 y d A H0 p R s m args meth c) {rk rr : Nat} {ks : List (Nat × List Nat)} {pc len : Nat} {aux ps : List Nat} {ls : xL} {st : List xV} {σ : xS} {o : Option Nat} {g : Nat → xB} {k : Nat} (hchk : xchk (xmeth y).1 (xmeth y).2.1 (xmeth y).2.2.1 (pc, (.iload k), len, aux) ps = true) (hs : xstep rk rr ks y (pc, (.iload k), len, aux) ls st σ = some (.inr (.inl (o, g)))) (hp : xsP (xG Γ ad0 σ0 A H0 p l e R s m args below meth c Q y) o g)  : ∀ (ad : Nat → Nat → Nat) (H : Heap) (locs : List Loc) (lsA : Array Slot), xWd Γ ad0 σ0 A H0 s ad σ H locs → lv_has lsA (xmeth y).2.2.1 (xlv ad 0 ls) → ls.length = (xmeth y).2.2.1 → xokL σ ls → xokS σ st → W p l e R s m args below meth c H locs (σ.2.2.2.2.1 - σ0.2.2.2.2.1) (σ.2.2.2.2.2 - σ0.2.2.2.2.2) Q (F0 m pc lsA (st.map (xtv ad))) := by
  obtain ⟨hx, hb, hml, hown, hts, hnw, hK, hA, hfr, hlo, hnm, hsc⟩ := C
  have hdl : decode (xmeth y).2.1 pc = .ok ((.iload k), len) := of_decide_eq_true (Bool.and_eq_true_iff.mp hchk).1
  have hc := (Bool.and_eq_true_iff.mp hchk).2
  intro ad H locs lsA hW hl hn hkL hkS
  have hlen := Nat.eq_of_beq_eq_true hc
  subst hlen
  simp only [xstep] at hs
  split at hs
  · rename_i x hk
    have h := (xgo_wp (xjust_inv hs hp)).2 ad H locs lsA hW hl hn hkL (fun v hv => by
      rcases List.mem_cons.mp hv with h | h
      · subst h; trivial
      · exact hkS v h)
    exact lv_iload hx hb hdl (xlv_get hl hk) h
  · cases hs
set_option maxHeartbeats 4000000 in
set_option maxRecDepth 100000 in
theorem xs_lload_n (C : xCtx Γ ad0 σ0 y d A H0 p R s m args meth c) {rk rr : Nat} {ks : List (Nat × List Nat)} {pc len : Nat} {aux ps : List Nat} {ls : xL} {st : List xV} {σ : xS} {o : Option Nat} {g : Nat → xB} {k : Fin 4} (hchk : xchk (xmeth y).1 (xmeth y).2.1 (xmeth y).2.2.1 (pc, (.lload_n k), len, aux) ps = true) (hs : xstep rk rr ks y (pc, (.lload_n k), len, aux) ls st σ = some (.inr (.inl (o, g)))) (hp : xsP (xG Γ ad0 σ0 A H0 p l e R s m args below meth c Q y) o g)  : ∀ (ad : Nat → Nat → Nat) (H : Heap) (locs : List Loc) (lsA : Array Slot), xWd Γ ad0 σ0 A H0 s ad σ H locs → lv_has lsA (xmeth y).2.2.1 (xlv ad 0 ls) → ls.length = (xmeth y).2.2.1 → xokL σ ls → xokS σ st → W p l e R s m args below meth c H locs (σ.2.2.2.2.1 - σ0.2.2.2.2.1) (σ.2.2.2.2.2 - σ0.2.2.2.2.2) Q (F0 m pc lsA (st.map (xtv ad))) := by
  obtain ⟨hx, hb, hml, hown, hts, hnw, hK, hA, hfr, hlo, hnm, hsc⟩ := C
  have hdl : decode (xmeth y).2.1 pc = .ok ((.lload_n k), len) := of_decide_eq_true (Bool.and_eq_true_iff.mp hchk).1
  have hc := (Bool.and_eq_true_iff.mp hchk).2
  intro ad H locs lsA hW hl hn hkL hkS
  have hlen := Nat.eq_of_beq_eq_true hc
  subst hlen
  simp only [xstep] at hs
  split at hs
  · rename_i x hk
    have h := (xgo_wp (xjust_inv hs hp)).2 ad H locs lsA hW hl hn hkL (fun v hv => by
      rcases List.mem_cons.mp hv with h | h
      · subst h; trivial
      · exact hkS v h)
    exact lv_lload_n hx hb hdl rfl (xlv_get hl hk) h
  · cases hs
set_option maxHeartbeats 4000000 in
set_option maxRecDepth 100000 in
theorem xs_lload (C : xCtx Γ ad0 σ0 y d A H0 p R s m args meth c) {rk rr : Nat} {ks : List (Nat × List Nat)} {pc len : Nat} {aux ps : List Nat} {ls : xL} {st : List xV} {σ : xS} {o : Option Nat} {g : Nat → xB} {k : Nat} (hchk : xchk (xmeth y).1 (xmeth y).2.1 (xmeth y).2.2.1 (pc, (.lload k), len, aux) ps = true) (hs : xstep rk rr ks y (pc, (.lload k), len, aux) ls st σ = some (.inr (.inl (o, g)))) (hp : xsP (xG Γ ad0 σ0 A H0 p l e R s m args below meth c Q y) o g)  : ∀ (ad : Nat → Nat → Nat) (H : Heap) (locs : List Loc) (lsA : Array Slot), xWd Γ ad0 σ0 A H0 s ad σ H locs → lv_has lsA (xmeth y).2.2.1 (xlv ad 0 ls) → ls.length = (xmeth y).2.2.1 → xokL σ ls → xokS σ st → W p l e R s m args below meth c H locs (σ.2.2.2.2.1 - σ0.2.2.2.2.1) (σ.2.2.2.2.2 - σ0.2.2.2.2.2) Q (F0 m pc lsA (st.map (xtv ad))) := by
  obtain ⟨hx, hb, hml, hown, hts, hnw, hK, hA, hfr, hlo, hnm, hsc⟩ := C
  have hdl : decode (xmeth y).2.1 pc = .ok ((.lload k), len) := of_decide_eq_true (Bool.and_eq_true_iff.mp hchk).1
  have hc := (Bool.and_eq_true_iff.mp hchk).2
  intro ad H locs lsA hW hl hn hkL hkS
  have hlen := Nat.eq_of_beq_eq_true hc
  subst hlen
  simp only [xstep] at hs
  split at hs
  · rename_i x hk
    have h := (xgo_wp (xjust_inv hs hp)).2 ad H locs lsA hW hl hn hkL (fun v hv => by
      rcases List.mem_cons.mp hv with h | h
      · subst h; trivial
      · exact hkS v h)
    exact lv_lload hx hb hdl (xlv_get hl hk) h
  · cases hs
set_option maxHeartbeats 4000000 in
set_option maxRecDepth 100000 in
theorem xs_aload_n (C : xCtx Γ ad0 σ0 y d A H0 p R s m args meth c) {rk rr : Nat} {ks : List (Nat × List Nat)} {pc len : Nat} {aux ps : List Nat} {ls : xL} {st : List xV} {σ : xS} {o : Option Nat} {g : Nat → xB} {k : Fin 4} (hchk : xchk (xmeth y).1 (xmeth y).2.1 (xmeth y).2.2.1 (pc, (.aload_n k), len, aux) ps = true) (hs : xstep rk rr ks y (pc, (.aload_n k), len, aux) ls st σ = some (.inr (.inl (o, g)))) (hp : xsP (xG Γ ad0 σ0 A H0 p l e R s m args below meth c Q y) o g)  : ∀ (ad : Nat → Nat → Nat) (H : Heap) (locs : List Loc) (lsA : Array Slot), xWd Γ ad0 σ0 A H0 s ad σ H locs → lv_has lsA (xmeth y).2.2.1 (xlv ad 0 ls) → ls.length = (xmeth y).2.2.1 → xokL σ ls → xokS σ st → W p l e R s m args below meth c H locs (σ.2.2.2.2.1 - σ0.2.2.2.2.1) (σ.2.2.2.2.2 - σ0.2.2.2.2.2) Q (F0 m pc lsA (st.map (xtv ad))) := by
  obtain ⟨hx, hb, hml, hown, hts, hnw, hK, hA, hfr, hlo, hnm, hsc⟩ := C
  have hdl : decode (xmeth y).2.1 pc = .ok ((.aload_n k), len) := of_decide_eq_true (Bool.and_eq_true_iff.mp hchk).1
  have hc := (Bool.and_eq_true_iff.mp hchk).2
  intro ad H locs lsA hW hl hn hkL hkS
  have hlen := Nat.eq_of_beq_eq_true hc
  subst hlen
  simp only [xstep] at hs
  split at hs
  · rename_i x hk
    have h := (xgo_wp (xjust_inv hs hp)).2 ad H locs lsA hW hl hn hkL (fun v hv => by
      rcases List.mem_cons.mp hv with h | h
      · subst h; exact hkL _ _ hk
      · exact hkS v h)
    have hv := xlv_get hl hk
    obtain ⟨r, w⟩ := x
    cases w with
    | none => exact lv_aload_nN hx hb hdl rfl hv h
    | some i => exact lv_aload_n hx hb hdl rfl hv h
  · cases hs
set_option maxHeartbeats 4000000 in
set_option maxRecDepth 100000 in
theorem xs_aload (C : xCtx Γ ad0 σ0 y d A H0 p R s m args meth c) {rk rr : Nat} {ks : List (Nat × List Nat)} {pc len : Nat} {aux ps : List Nat} {ls : xL} {st : List xV} {σ : xS} {o : Option Nat} {g : Nat → xB} {k : Nat} (hchk : xchk (xmeth y).1 (xmeth y).2.1 (xmeth y).2.2.1 (pc, (.aload k), len, aux) ps = true) (hs : xstep rk rr ks y (pc, (.aload k), len, aux) ls st σ = some (.inr (.inl (o, g)))) (hp : xsP (xG Γ ad0 σ0 A H0 p l e R s m args below meth c Q y) o g)  : ∀ (ad : Nat → Nat → Nat) (H : Heap) (locs : List Loc) (lsA : Array Slot), xWd Γ ad0 σ0 A H0 s ad σ H locs → lv_has lsA (xmeth y).2.2.1 (xlv ad 0 ls) → ls.length = (xmeth y).2.2.1 → xokL σ ls → xokS σ st → W p l e R s m args below meth c H locs (σ.2.2.2.2.1 - σ0.2.2.2.2.1) (σ.2.2.2.2.2 - σ0.2.2.2.2.2) Q (F0 m pc lsA (st.map (xtv ad))) := by
  obtain ⟨hx, hb, hml, hown, hts, hnw, hK, hA, hfr, hlo, hnm, hsc⟩ := C
  have hdl : decode (xmeth y).2.1 pc = .ok ((.aload k), len) := of_decide_eq_true (Bool.and_eq_true_iff.mp hchk).1
  have hc := (Bool.and_eq_true_iff.mp hchk).2
  intro ad H locs lsA hW hl hn hkL hkS
  have hlen := Nat.eq_of_beq_eq_true hc
  subst hlen
  simp only [xstep] at hs
  split at hs
  · rename_i x hk
    have h := (xgo_wp (xjust_inv hs hp)).2 ad H locs lsA hW hl hn hkL (fun v hv => by
      rcases List.mem_cons.mp hv with h | h
      · subst h; exact hkL _ _ hk
      · exact hkS v h)
    have hv := xlv_get hl hk
    obtain ⟨r, w⟩ := x
    cases w with
    | none => exact lv_aloadN hx hb hdl  hv h
    | some i => exact lv_aload hx hb hdl  hv h
  · cases hs
set_option maxHeartbeats 4000000 in
set_option maxRecDepth 100000 in
theorem xs_istore_n (C : xCtx Γ ad0 σ0 y d A H0 p R s m args meth c) {rk rr : Nat} {ks : List (Nat × List Nat)} {pc len : Nat} {aux ps : List Nat} {ls : xL} {st : List xV} {σ : xS} {o : Option Nat} {g : Nat → xB} {k : Fin 4} (hchk : xchk (xmeth y).1 (xmeth y).2.1 (xmeth y).2.2.1 (pc, (.istore_n k), len, aux) ps = true) (hs : xstep rk rr ks y (pc, (.istore_n k), len, aux) ls st σ = some (.inr (.inl (o, g)))) (hp : xsP (xG Γ ad0 σ0 A H0 p l e R s m args below meth c Q y) o g)  : ∀ (ad : Nat → Nat → Nat) (H : Heap) (locs : List Loc) (lsA : Array Slot), xWd Γ ad0 σ0 A H0 s ad σ H locs → lv_has lsA (xmeth y).2.2.1 (xlv ad 0 ls) → ls.length = (xmeth y).2.2.1 → xokL σ ls → xokS σ st → W p l e R s m args below meth c H locs (σ.2.2.2.2.1 - σ0.2.2.2.2.1) (σ.2.2.2.2.2 - σ0.2.2.2.2.2) Q (F0 m pc lsA (st.map (xtv ad))) := by
  obtain ⟨hx, hb, hml, hown, hts, hnw, hK, hA, hfr, hlo, hnm, hsc⟩ := C
  have hdl : decode (xmeth y).2.1 pc = .ok ((.istore_n k), len) := of_decide_eq_true (Bool.and_eq_true_iff.mp hchk).1
  have hc := (Bool.and_eq_true_iff.mp hchk).2
  intro ad H locs lsA hW hl hn hkL hkS
  simp only [Bool.and_eq_true] at hc
  have hlen := Nat.eq_of_beq_eq_true hc.1
  subst hlen
  
  have hlt := Nat.le_of_ble_eq_true hc.2
  simp only [xstep] at hs
  split at hs
  · rw [xforce_eq] at hs
    refine lv_istore_n hx hb hdl rfl hl hlt rfl fun ls' hl' => ?_
    exact (xgo_wp (xjust_inv hs hp)).2 ad H locs ls' hW (xput_has hl') ((xput_len _ _ _).trans hn) (fun k1 v hk => by
      rcases xput_get hk with ⟨-, h⟩ | ⟨-, h, -⟩
      · subst h; trivial
      · exact hkL k1 v h) (fun v hv => hkS v (List.mem_cons_of_mem _ hv))
  · cases hs
set_option maxHeartbeats 4000000 in
set_option maxRecDepth 100000 in
theorem xs_istore (C : xCtx Γ ad0 σ0 y d A H0 p R s m args meth c) {rk rr : Nat} {ks : List (Nat × List Nat)} {pc len : Nat} {aux ps : List Nat} {ls : xL} {st : List xV} {σ : xS} {o : Option Nat} {g : Nat → xB} {k : Nat} (hchk : xchk (xmeth y).1 (xmeth y).2.1 (xmeth y).2.2.1 (pc, (.istore k), len, aux) ps = true) (hs : xstep rk rr ks y (pc, (.istore k), len, aux) ls st σ = some (.inr (.inl (o, g)))) (hp : xsP (xG Γ ad0 σ0 A H0 p l e R s m args below meth c Q y) o g)  : ∀ (ad : Nat → Nat → Nat) (H : Heap) (locs : List Loc) (lsA : Array Slot), xWd Γ ad0 σ0 A H0 s ad σ H locs → lv_has lsA (xmeth y).2.2.1 (xlv ad 0 ls) → ls.length = (xmeth y).2.2.1 → xokL σ ls → xokS σ st → W p l e R s m args below meth c H locs (σ.2.2.2.2.1 - σ0.2.2.2.2.1) (σ.2.2.2.2.2 - σ0.2.2.2.2.2) Q (F0 m pc lsA (st.map (xtv ad))) := by
  obtain ⟨hx, hb, hml, hown, hts, hnw, hK, hA, hfr, hlo, hnm, hsc⟩ := C
  have hdl : decode (xmeth y).2.1 pc = .ok ((.istore k), len) := of_decide_eq_true (Bool.and_eq_true_iff.mp hchk).1
  have hc := (Bool.and_eq_true_iff.mp hchk).2
  intro ad H locs lsA hW hl hn hkL hkS
  simp only [Bool.and_eq_true] at hc
  have hlen := Nat.eq_of_beq_eq_true hc.1
  subst hlen
  
  have hlt := Nat.le_of_ble_eq_true hc.2
  simp only [xstep] at hs
  split at hs
  · rw [xforce_eq] at hs
    refine lv_istore hx hb hdl hl hlt rfl fun ls' hl' => ?_
    exact (xgo_wp (xjust_inv hs hp)).2 ad H locs ls' hW (xput_has hl') ((xput_len _ _ _).trans hn) (fun k1 v hk => by
      rcases xput_get hk with ⟨-, h⟩ | ⟨-, h, -⟩
      · subst h; trivial
      · exact hkL k1 v h) (fun v hv => hkS v (List.mem_cons_of_mem _ hv))
  · cases hs
set_option maxHeartbeats 4000000 in
set_option maxRecDepth 100000 in
theorem xs_lstore_n (C : xCtx Γ ad0 σ0 y d A H0 p R s m args meth c) {rk rr : Nat} {ks : List (Nat × List Nat)} {pc len : Nat} {aux ps : List Nat} {ls : xL} {st : List xV} {σ : xS} {o : Option Nat} {g : Nat → xB} {k : Fin 4} (hchk : xchk (xmeth y).1 (xmeth y).2.1 (xmeth y).2.2.1 (pc, (.lstore_n k), len, aux) ps = true) (hs : xstep rk rr ks y (pc, (.lstore_n k), len, aux) ls st σ = some (.inr (.inl (o, g)))) (hp : xsP (xG Γ ad0 σ0 A H0 p l e R s m args below meth c Q y) o g)  : ∀ (ad : Nat → Nat → Nat) (H : Heap) (locs : List Loc) (lsA : Array Slot), xWd Γ ad0 σ0 A H0 s ad σ H locs → lv_has lsA (xmeth y).2.2.1 (xlv ad 0 ls) → ls.length = (xmeth y).2.2.1 → xokL σ ls → xokS σ st → W p l e R s m args below meth c H locs (σ.2.2.2.2.1 - σ0.2.2.2.2.1) (σ.2.2.2.2.2 - σ0.2.2.2.2.2) Q (F0 m pc lsA (st.map (xtv ad))) := by
  obtain ⟨hx, hb, hml, hown, hts, hnw, hK, hA, hfr, hlo, hnm, hsc⟩ := C
  have hdl : decode (xmeth y).2.1 pc = .ok ((.lstore_n k), len) := of_decide_eq_true (Bool.and_eq_true_iff.mp hchk).1
  have hc := (Bool.and_eq_true_iff.mp hchk).2
  intro ad H locs lsA hW hl hn hkL hkS
  simp only [Bool.and_eq_true] at hc
  have hlen := Nat.eq_of_beq_eq_true hc.1
  subst hlen
  
  have hlt := Nat.le_of_ble_eq_true hc.2
  simp only [xstep] at hs
  split at hs
  · rw [xforce_eq] at hs
    refine lv_lstore_n hx hb hdl rfl hl hlt rfl fun ls' hl' => ?_
    exact (xgo_wp (xjust_inv hs hp)).2 ad H locs ls' hW (xput_has2 hl') (((xset_len _ _ _).trans (xput_len _ _ _)).trans hn) (fun k1 v hk => by
      rw [xget_xset] at hk
      split at hk
      · cases hk
      · rcases xput_get hk with ⟨-, h⟩ | ⟨-, h, -⟩
        · subst h; trivial
        · exact hkL k1 v h) (fun v hv => hkS v (List.mem_cons_of_mem _ hv))
  · cases hs
set_option maxHeartbeats 4000000 in
set_option maxRecDepth 100000 in
theorem xs_lstore (C : xCtx Γ ad0 σ0 y d A H0 p R s m args meth c) {rk rr : Nat} {ks : List (Nat × List Nat)} {pc len : Nat} {aux ps : List Nat} {ls : xL} {st : List xV} {σ : xS} {o : Option Nat} {g : Nat → xB} {k : Nat} (hchk : xchk (xmeth y).1 (xmeth y).2.1 (xmeth y).2.2.1 (pc, (.lstore k), len, aux) ps = true) (hs : xstep rk rr ks y (pc, (.lstore k), len, aux) ls st σ = some (.inr (.inl (o, g)))) (hp : xsP (xG Γ ad0 σ0 A H0 p l e R s m args below meth c Q y) o g)  : ∀ (ad : Nat → Nat → Nat) (H : Heap) (locs : List Loc) (lsA : Array Slot), xWd Γ ad0 σ0 A H0 s ad σ H locs → lv_has lsA (xmeth y).2.2.1 (xlv ad 0 ls) → ls.length = (xmeth y).2.2.1 → xokL σ ls → xokS σ st → W p l e R s m args below meth c H locs (σ.2.2.2.2.1 - σ0.2.2.2.2.1) (σ.2.2.2.2.2 - σ0.2.2.2.2.2) Q (F0 m pc lsA (st.map (xtv ad))) := by
  obtain ⟨hx, hb, hml, hown, hts, hnw, hK, hA, hfr, hlo, hnm, hsc⟩ := C
  have hdl : decode (xmeth y).2.1 pc = .ok ((.lstore k), len) := of_decide_eq_true (Bool.and_eq_true_iff.mp hchk).1
  have hc := (Bool.and_eq_true_iff.mp hchk).2
  intro ad H locs lsA hW hl hn hkL hkS
  simp only [Bool.and_eq_true] at hc
  have hlen := Nat.eq_of_beq_eq_true hc.1
  subst hlen
  
  have hlt := Nat.le_of_ble_eq_true hc.2
  simp only [xstep] at hs
  split at hs
  · rw [xforce_eq] at hs
    refine lv_lstore hx hb hdl hl hlt rfl fun ls' hl' => ?_
    exact (xgo_wp (xjust_inv hs hp)).2 ad H locs ls' hW (xput_has2 hl') (((xset_len _ _ _).trans (xput_len _ _ _)).trans hn) (fun k1 v hk => by
      rw [xget_xset] at hk
      split at hk
      · cases hk
      · rcases xput_get hk with ⟨-, h⟩ | ⟨-, h, -⟩
        · subst h; trivial
        · exact hkL k1 v h) (fun v hv => hkS v (List.mem_cons_of_mem _ hv))
  · cases hs
set_option maxHeartbeats 4000000 in
set_option maxRecDepth 100000 in
theorem xs_astore_n (C : xCtx Γ ad0 σ0 y d A H0 p R s m args meth c) {rk rr : Nat} {ks : List (Nat × List Nat)} {pc len : Nat} {aux ps : List Nat} {ls : xL} {st : List xV} {σ : xS} {o : Option Nat} {g : Nat → xB} {k : Fin 4} (hchk : xchk (xmeth y).1 (xmeth y).2.1 (xmeth y).2.2.1 (pc, (.astore_n k), len, aux) ps = true) (hs : xstep rk rr ks y (pc, (.astore_n k), len, aux) ls st σ = some (.inr (.inl (o, g)))) (hp : xsP (xG Γ ad0 σ0 A H0 p l e R s m args below meth c Q y) o g)  : ∀ (ad : Nat → Nat → Nat) (H : Heap) (locs : List Loc) (lsA : Array Slot), xWd Γ ad0 σ0 A H0 s ad σ H locs → lv_has lsA (xmeth y).2.2.1 (xlv ad 0 ls) → ls.length = (xmeth y).2.2.1 → xokL σ ls → xokS σ st → W p l e R s m args below meth c H locs (σ.2.2.2.2.1 - σ0.2.2.2.2.1) (σ.2.2.2.2.2 - σ0.2.2.2.2.2) Q (F0 m pc lsA (st.map (xtv ad))) := by
  obtain ⟨hx, hb, hml, hown, hts, hnw, hK, hA, hfr, hlo, hnm, hsc⟩ := C
  have hdl : decode (xmeth y).2.1 pc = .ok ((.astore_n k), len) := of_decide_eq_true (Bool.and_eq_true_iff.mp hchk).1
  have hc := (Bool.and_eq_true_iff.mp hchk).2
  intro ad H locs lsA hW hl hn hkL hkS
  simp only [Bool.and_eq_true] at hc
  have hlen := Nat.eq_of_beq_eq_true hc.1
  subst hlen
  
  have hlt := Nat.le_of_ble_eq_true hc.2
  simp only [xstep] at hs
  split at hs
  · rename_i x st'
    rw [xforce_eq] at hs
    have hfin : ∀ ls' : Array Slot, lv_has ls' (xmeth y).2.2.1 ((k.val, xtv ad (.inr (.inr x))) :: (xlv ad 0 ls).filter (fun q => !(q.1 == k.val) && !(q.1 + 1 == k.val && q.2.category == 2))) → W p l e R s m args below meth c H locs (σ.2.2.2.2.1 - σ0.2.2.2.2.1) (σ.2.2.2.2.2 - σ0.2.2.2.2.2) Q (F0 m (pc + 1) ls' (st'.map (xtv ad))) := fun ls' hl' =>
      (xgo_wp (xjust_inv hs hp)).2 ad H locs ls' hW (xput_has hl') ((xput_len _ _ _).trans hn) (fun k1 v hk => by
        rcases xput_get hk with ⟨-, h⟩ | ⟨-, h, -⟩
        · subst h; exact hkS _ List.mem_cons_self
        · exact hkL k1 v h) (fun v hv => hkS v (List.mem_cons_of_mem _ hv))
    obtain ⟨r, w⟩ := x
    cases w with
    | none => exact lv_astore_nN hx hb hdl rfl hl hlt rfl hfin
    | some i => exact lv_astore_n hx hb hdl rfl hl hlt rfl hfin
  · cases hs
set_option maxHeartbeats 4000000 in
set_option maxRecDepth 100000 in
theorem xs_astore (C : xCtx Γ ad0 σ0 y d A H0 p R s m args meth c) {rk rr : Nat} {ks : List (Nat × List Nat)} {pc len : Nat} {aux ps : List Nat} {ls : xL} {st : List xV} {σ : xS} {o : Option Nat} {g : Nat → xB} {k : Nat} (hchk : xchk (xmeth y).1 (xmeth y).2.1 (xmeth y).2.2.1 (pc, (.astore k), len, aux) ps = true) (hs : xstep rk rr ks y (pc, (.astore k), len, aux) ls st σ = some (.inr (.inl (o, g)))) (hp : xsP (xG Γ ad0 σ0 A H0 p l e R s m args below meth c Q y) o g)  : ∀ (ad : Nat → Nat → Nat) (H : Heap) (locs : List Loc) (lsA : Array Slot), xWd Γ ad0 σ0 A H0 s ad σ H locs → lv_has lsA (xmeth y).2.2.1 (xlv ad 0 ls) → ls.length = (xmeth y).2.2.1 → xokL σ ls → xokS σ st → W p l e R s m args below meth c H locs (σ.2.2.2.2.1 - σ0.2.2.2.2.1) (σ.2.2.2.2.2 - σ0.2.2.2.2.2) Q (F0 m pc lsA (st.map (xtv ad))) := by
  obtain ⟨hx, hb, hml, hown, hts, hnw, hK, hA, hfr, hlo, hnm, hsc⟩ := C
  have hdl : decode (xmeth y).2.1 pc = .ok ((.astore k), len) := of_decide_eq_true (Bool.and_eq_true_iff.mp hchk).1
  have hc := (Bool.and_eq_true_iff.mp hchk).2
  intro ad H locs lsA hW hl hn hkL hkS
  simp only [Bool.and_eq_true] at hc
  have hlen := Nat.eq_of_beq_eq_true hc.1
  subst hlen
  
  have hlt := Nat.le_of_ble_eq_true hc.2
  simp only [xstep] at hs
  split at hs
  · rename_i x st'
    rw [xforce_eq] at hs
    have hfin : ∀ ls' : Array Slot, lv_has ls' (xmeth y).2.2.1 ((k, xtv ad (.inr (.inr x))) :: (xlv ad 0 ls).filter (fun q => !(q.1 == k) && !(q.1 + 1 == k && q.2.category == 2))) → W p l e R s m args below meth c H locs (σ.2.2.2.2.1 - σ0.2.2.2.2.1) (σ.2.2.2.2.2 - σ0.2.2.2.2.2) Q (F0 m (pc + 2) ls' (st'.map (xtv ad))) := fun ls' hl' =>
      (xgo_wp (xjust_inv hs hp)).2 ad H locs ls' hW (xput_has hl') ((xput_len _ _ _).trans hn) (fun k1 v hk => by
        rcases xput_get hk with ⟨-, h⟩ | ⟨-, h, -⟩
        · subst h; exact hkS _ List.mem_cons_self
        · exact hkL k1 v h) (fun v hv => hkS v (List.mem_cons_of_mem _ hv))
    obtain ⟨r, w⟩ := x
    cases w with
    | none => exact lv_astoreN hx hb hdl hl hlt rfl hfin
    | some i => exact lv_astore hx hb hdl hl hlt rfl hfin
  · cases hs
set_option maxHeartbeats 4000000 in
set_option maxRecDepth 100000 in
theorem xs_iinc (C : xCtx Γ ad0 σ0 y d A H0 p R s m args meth c) {rk rr : Nat} {ks : List (Nat × List Nat)} {pc len : Nat} {aux ps : List Nat} {ls : xL} {st : List xV} {σ : xS} {o : Option Nat} {g : Nat → xB} {k : Nat} {n : Int} (hchk : xchk (xmeth y).1 (xmeth y).2.1 (xmeth y).2.2.1 (pc, (.iinc k n), len, aux) ps = true) (hs : xstep rk rr ks y (pc, (.iinc k n), len, aux) ls st σ = some (.inr (.inl (o, g)))) (hp : xsP (xG Γ ad0 σ0 A H0 p l e R s m args below meth c Q y) o g)  : ∀ (ad : Nat → Nat → Nat) (H : Heap) (locs : List Loc) (lsA : Array Slot), xWd Γ ad0 σ0 A H0 s ad σ H locs → lv_has lsA (xmeth y).2.2.1 (xlv ad 0 ls) → ls.length = (xmeth y).2.2.1 → xokL σ ls → xokS σ st → W p l e R s m args below meth c H locs (σ.2.2.2.2.1 - σ0.2.2.2.2.1) (σ.2.2.2.2.2 - σ0.2.2.2.2.2) Q (F0 m pc lsA (st.map (xtv ad))) := by
  obtain ⟨hx, hb, hml, hown, hts, hnw, hK, hA, hfr, hlo, hnm, hsc⟩ := C
  have hdl : decode (xmeth y).2.1 pc = .ok ((.iinc k n), len) := of_decide_eq_true (Bool.and_eq_true_iff.mp hchk).1
  have hc := (Bool.and_eq_true_iff.mp hchk).2
  intro ad H locs lsA hW hl hn hkL hkS
  simp only [Bool.and_eq_true] at hc
  have hlen := Nat.eq_of_beq_eq_true hc.1
  subst hlen
  
  simp only [xstep] at hs
  split at hs
  · rename_i x hk
    have hs := xcN_of hc.2 hs
    rw [xforce_eq] at hs
    obtain ⟨j, hj⟩ := List.getElem?_of_mem (xlv_mem (ad := ad).mpr ⟨k, _, hk, rfl⟩)
    rw [Nat.zero_add] at hj
    refine lv_iinc hx hb hdl hl hj rfl (by have := xget_lt hk; omega) rfl fun ls' hl' => ?_
    exact (xgo_wp (xjust_inv hs hp)).2 ad H locs ls' hW (xput_has hl') ((xput_len _ _ _).trans hn) (fun k1 v hk => by
      rcases xput_get hk with ⟨-, h⟩ | ⟨-, h, -⟩
      · subst h; trivial
      · exact hkL k1 v h) hkS
  · cases hs
set_option maxHeartbeats 4000000 in
set_option maxRecDepth 100000 in
theorem xs_dup (C : xCtx Γ ad0 σ0 y d A H0 p R s m args meth c) {rk rr : Nat} {ks : List (Nat × List Nat)} {pc len : Nat} {aux ps : List Nat} {ls : xL} {st : List xV} {σ : xS} {o : Option Nat} {g : Nat → xB} (hchk : xchk (xmeth y).1 (xmeth y).2.1 (xmeth y).2.2.1 (pc, .dup, len, aux) ps = true) (hs : xstep rk rr ks y (pc, .dup, len, aux) ls st σ = some (.inr (.inl (o, g)))) (hp : xsP (xG Γ ad0 σ0 A H0 p l e R s m args below meth c Q y) o g)  : ∀ (ad : Nat → Nat → Nat) (H : Heap) (locs : List Loc) (lsA : Array Slot), xWd Γ ad0 σ0 A H0 s ad σ H locs → lv_has lsA (xmeth y).2.2.1 (xlv ad 0 ls) → ls.length = (xmeth y).2.2.1 → xokL σ ls → xokS σ st → W p l e R s m args below meth c H locs (σ.2.2.2.2.1 - σ0.2.2.2.2.1) (σ.2.2.2.2.2 - σ0.2.2.2.2.2) Q (F0 m pc lsA (st.map (xtv ad))) := by
  obtain ⟨hx, hb, hml, hown, hts, hnw, hK, hA, hfr, hlo, hnm, hsc⟩ := C
  have hdl : decode (xmeth y).2.1 pc = .ok (.dup, len) := of_decide_eq_true (Bool.and_eq_true_iff.mp hchk).1
  have hc := (Bool.and_eq_true_iff.mp hchk).2
  intro ad H locs lsA hW hl hn hkL hkS
  have hlen := Nat.eq_of_beq_eq_true hc
  subst hlen
  
  simp only [xstep] at hs
  split at hs
  · have h := (xgo_wp (xjust_inv hs hp)).2 ad H locs lsA hW hl hn hkL (fun v hv => by
      rcases List.mem_cons.mp hv with h | h
      · subst h; trivial
      · exact hkS v h)
    exact lv_dup hx hb hdl rfl h
  · rename_i x st'
    have h := (xgo_wp (xjust_inv hs hp)).2 ad H locs lsA hW hl hn hkL (fun v hv => by
      rcases List.mem_cons.mp hv with h | h
      · subst h; exact hkS _ List.mem_cons_self
      · exact hkS v h)
    obtain ⟨r, w⟩ := x
    cases w with
    | none => exact lv_dup hx hb hdl rfl h
    | some i => exact lv_dup hx hb hdl rfl h
  · cases hs
set_option maxHeartbeats 4000000 in
set_option maxRecDepth 100000 in
theorem xs_dup2 (C : xCtx Γ ad0 σ0 y d A H0 p R s m args meth c) {rk rr : Nat} {ks : List (Nat × List Nat)} {pc len : Nat} {aux ps : List Nat} {ls : xL} {st : List xV} {σ : xS} {o : Option Nat} {g : Nat → xB} (hchk : xchk (xmeth y).1 (xmeth y).2.1 (xmeth y).2.2.1 (pc, .dup2, len, aux) ps = true) (hs : xstep rk rr ks y (pc, .dup2, len, aux) ls st σ = some (.inr (.inl (o, g)))) (hp : xsP (xG Γ ad0 σ0 A H0 p l e R s m args below meth c Q y) o g)  : ∀ (ad : Nat → Nat → Nat) (H : Heap) (locs : List Loc) (lsA : Array Slot), xWd Γ ad0 σ0 A H0 s ad σ H locs → lv_has lsA (xmeth y).2.2.1 (xlv ad 0 ls) → ls.length = (xmeth y).2.2.1 → xokL σ ls → xokS σ st → W p l e R s m args below meth c H locs (σ.2.2.2.2.1 - σ0.2.2.2.2.1) (σ.2.2.2.2.2 - σ0.2.2.2.2.2) Q (F0 m pc lsA (st.map (xtv ad))) := by
  obtain ⟨hx, hb, hml, hown, hts, hnw, hK, hA, hfr, hlo, hnm, hsc⟩ := C
  have hdl : decode (xmeth y).2.1 pc = .ok (.dup2, len) := of_decide_eq_true (Bool.and_eq_true_iff.mp hchk).1
  have hc := (Bool.and_eq_true_iff.mp hchk).2
  intro ad H locs lsA hW hl hn hkL hkS
  have hlen := Nat.eq_of_beq_eq_true hc
  subst hlen
  
  simp only [xstep] at hs
  split at hs
  · rename_i a b st'
    have h := (xgo_wp (xjust_inv hs hp)).2 ad H locs lsA hW hl hn hkL (fun v hv => by
      rcases List.mem_cons.mp hv with h | h
      · subst h; trivial
      · rcases List.mem_cons.mp h with h | h
        · subst h; exact hkS _ (List.mem_cons_of_mem _ List.mem_cons_self)
        · exact hkS v h)
    obtain ⟨r, w⟩ := b
    cases w with
    | none => exact lv_dup2_11 hx hb hdl rfl rfl h
    | some i => exact lv_dup2_11 hx hb hdl rfl rfl h
  · cases hs
set_option maxHeartbeats 4000000 in
set_option maxRecDepth 100000 in
theorem xs_goto (C : xCtx Γ ad0 σ0 y d A H0 p R s m args meth c) {rk rr : Nat} {ks : List (Nat × List Nat)} {pc len : Nat} {aux ps : List Nat} {ls : xL} {st : List xV} {σ : xS} {o : Option Nat} {g : Nat → xB} {off : Int} (hchk : xchk (xmeth y).1 (xmeth y).2.1 (xmeth y).2.2.1 (pc, (.goto off), len, aux) ps = true) (hs : xstep rk rr ks y (pc, (.goto off), len, aux) ls st σ = some (.inr (.inl (o, g)))) (hp : xsP (xG Γ ad0 σ0 A H0 p l e R s m args below meth c Q y) o g)  : ∀ (ad : Nat → Nat → Nat) (H : Heap) (locs : List Loc) (lsA : Array Slot), xWd Γ ad0 σ0 A H0 s ad σ H locs → lv_has lsA (xmeth y).2.2.1 (xlv ad 0 ls) → ls.length = (xmeth y).2.2.1 → xokL σ ls → xokS σ st → W p l e R s m args below meth c H locs (σ.2.2.2.2.1 - σ0.2.2.2.2.1) (σ.2.2.2.2.2 - σ0.2.2.2.2.2) Q (F0 m pc lsA (st.map (xtv ad))) := by
  obtain ⟨hx, hb, hml, hown, hts, hnw, hK, hA, hfr, hlo, hnm, hsc⟩ := C
  have hdl : decode (xmeth y).2.1 pc = .ok ((.goto off), len) := of_decide_eq_true (Bool.and_eq_true_iff.mp hchk).1
  have hc := (Bool.and_eq_true_iff.mp hchk).2
  intro ad H locs lsA hW hl hn hkL hkS
  simp only [Bool.and_eq_true] at hc
  have hlen := Nat.eq_of_beq_eq_true hc.1
  subst hlen
  
  simp only [xstep] at hs
  split at hs
  · have h := (xgo_wp (xjust_inv hs hp)).2 ad H locs lsA hW hl hn hkL hkS
    exact lv_goto hx hb hdl (xcJ_of hc.2) h
  · cases hs
set_option maxHeartbeats 4000000 in
set_option maxRecDepth 100000 in
theorem xs_ifCond (C : xCtx Γ ad0 σ0 y d A H0 p R s m args meth c) {rk rr : Nat} {ks : List (Nat × List Nat)} {pc len : Nat} {aux ps : List Nat} {ls : xL} {st : List xV} {σ : xS} {o : Option Nat} {g : Nat → xB} {cc : ClassFile.Cond} {off : Int} (hchk : xchk (xmeth y).1 (xmeth y).2.1 (xmeth y).2.2.1 (pc, (.ifCond cc off), len, aux) ps = true) (hs : xstep rk rr ks y (pc, (.ifCond cc off), len, aux) ls st σ = some (.inr (.inl (o, g)))) (hp : xsP (xG Γ ad0 σ0 A H0 p l e R s m args below meth c Q y) o g)  : ∀ (ad : Nat → Nat → Nat) (H : Heap) (locs : List Loc) (lsA : Array Slot), xWd Γ ad0 σ0 A H0 s ad σ H locs → lv_has lsA (xmeth y).2.2.1 (xlv ad 0 ls) → ls.length = (xmeth y).2.2.1 → xokL σ ls → xokS σ st → W p l e R s m args below meth c H locs (σ.2.2.2.2.1 - σ0.2.2.2.2.1) (σ.2.2.2.2.2 - σ0.2.2.2.2.2) Q (F0 m pc lsA (st.map (xtv ad))) := by
  obtain ⟨hx, hb, hml, hown, hts, hnw, hK, hA, hfr, hlo, hnm, hsc⟩ := C
  have hdl : decode (xmeth y).2.1 pc = .ok ((.ifCond cc off), len) := of_decide_eq_true (Bool.and_eq_true_iff.mp hchk).1
  have hc := (Bool.and_eq_true_iff.mp hchk).2
  intro ad H locs lsA hW hl hn hkL hkS
  simp only [Bool.and_eq_true] at hc
  have hlen := Nat.eq_of_beq_eq_true hc.1
  subst hlen
  
  simp only [xstep] at hs
  split at hs
  · cases cc with
    | eq =>
      obtain ⟨ht, hf⟩ := xif_inv hs hp
      exact lv_if_eq hx hb hdl (xcJ_of hc.2) (fun h => (xgo_wp (ht h)).2 ad H locs lsA hW hl hn hkL (fun v hv => hkS v (List.mem_cons_of_mem _ hv))) (fun h => (xgo_wp (hf h)).2 ad H locs lsA hW hl hn hkL (fun v hv => hkS v (List.mem_cons_of_mem _ hv)))
    | ne =>
      obtain ⟨ht, hf⟩ := xif_inv hs hp
      exact lv_if_ne hx hb hdl (xcJ_of hc.2) (fun h => (xgo_wp (ht h)).2 ad H locs lsA hW hl hn hkL (fun v hv => hkS v (List.mem_cons_of_mem _ hv))) (fun h => (xgo_wp (hf (fun n => n h))).2 ad H locs lsA hW hl hn hkL (fun v hv => hkS v (List.mem_cons_of_mem _ hv)))
    | lt =>
      obtain ⟨ht, hf⟩ := xif_inv hs hp
      exact lv_if_lt hx hb hdl (xcJ_of hc.2) (fun h => (xgo_wp (ht h)).2 ad H locs lsA hW hl hn hkL (fun v hv => hkS v (List.mem_cons_of_mem _ hv))) (fun h => (xgo_wp (hf h)).2 ad H locs lsA hW hl hn hkL (fun v hv => hkS v (List.mem_cons_of_mem _ hv)))
    | ge =>
      obtain ⟨ht, hf⟩ := xif_inv hs hp
      exact lv_if_ge hx hb hdl (xcJ_of hc.2) (fun h => (xgo_wp (ht h)).2 ad H locs lsA hW hl hn hkL (fun v hv => hkS v (List.mem_cons_of_mem _ hv))) (fun h => (xgo_wp (hf h)).2 ad H locs lsA hW hl hn hkL (fun v hv => hkS v (List.mem_cons_of_mem _ hv)))
    | gt =>
      obtain ⟨ht, hf⟩ := xif_inv hs hp
      exact lv_if_gt hx hb hdl (xcJ_of hc.2) (fun h => (xgo_wp (ht h)).2 ad H locs lsA hW hl hn hkL (fun v hv => hkS v (List.mem_cons_of_mem _ hv))) (fun h => (xgo_wp (hf h)).2 ad H locs lsA hW hl hn hkL (fun v hv => hkS v (List.mem_cons_of_mem _ hv)))
    | le =>
      obtain ⟨ht, hf⟩ := xif_inv hs hp
      exact lv_if_le hx hb hdl (xcJ_of hc.2) (fun h => (xgo_wp (ht h)).2 ad H locs lsA hW hl hn hkL (fun v hv => hkS v (List.mem_cons_of_mem _ hv))) (fun h => (xgo_wp (hf h)).2 ad H locs lsA hW hl hn hkL (fun v hv => hkS v (List.mem_cons_of_mem _ hv)))
  · cases hs
set_option maxHeartbeats 4000000 in
set_option maxRecDepth 100000 in
theorem xs_if_icmp (C : xCtx Γ ad0 σ0 y d A H0 p R s m args meth c) {rk rr : Nat} {ks : List (Nat × List Nat)} {pc len : Nat} {aux ps : List Nat} {ls : xL} {st : List xV} {σ : xS} {o : Option Nat} {g : Nat → xB} {cc : ClassFile.Cond} {off : Int} (hchk : xchk (xmeth y).1 (xmeth y).2.1 (xmeth y).2.2.1 (pc, (.if_icmp cc off), len, aux) ps = true) (hs : xstep rk rr ks y (pc, (.if_icmp cc off), len, aux) ls st σ = some (.inr (.inl (o, g)))) (hp : xsP (xG Γ ad0 σ0 A H0 p l e R s m args below meth c Q y) o g)  : ∀ (ad : Nat → Nat → Nat) (H : Heap) (locs : List Loc) (lsA : Array Slot), xWd Γ ad0 σ0 A H0 s ad σ H locs → lv_has lsA (xmeth y).2.2.1 (xlv ad 0 ls) → ls.length = (xmeth y).2.2.1 → xokL σ ls → xokS σ st → W p l e R s m args below meth c H locs (σ.2.2.2.2.1 - σ0.2.2.2.2.1) (σ.2.2.2.2.2 - σ0.2.2.2.2.2) Q (F0 m pc lsA (st.map (xtv ad))) := by
  obtain ⟨hx, hb, hml, hown, hts, hnw, hK, hA, hfr, hlo, hnm, hsc⟩ := C
  have hdl : decode (xmeth y).2.1 pc = .ok ((.if_icmp cc off), len) := of_decide_eq_true (Bool.and_eq_true_iff.mp hchk).1
  have hc := (Bool.and_eq_true_iff.mp hchk).2
  intro ad H locs lsA hW hl hn hkL hkS
  simp only [Bool.and_eq_true] at hc
  have hlen := Nat.eq_of_beq_eq_true hc.1
  subst hlen
  
  simp only [xstep] at hs
  split at hs
  · cases cc with
    | eq =>
      obtain ⟨ht, hf⟩ := xif_inv hs hp
      exact lv_icmp_eq hx hb hdl (xcJ_of hc.2) (fun h => (xgo_wp (ht h)).2 ad H locs lsA hW hl hn hkL (fun v hv => hkS v (List.mem_cons_of_mem _ (List.mem_cons_of_mem _ hv)))) (fun h => (xgo_wp (hf h)).2 ad H locs lsA hW hl hn hkL (fun v hv => hkS v (List.mem_cons_of_mem _ (List.mem_cons_of_mem _ hv))))
    | ne =>
      obtain ⟨ht, hf⟩ := xif_inv hs hp
      exact lv_icmp_ne hx hb hdl (xcJ_of hc.2) (fun h => (xgo_wp (ht h)).2 ad H locs lsA hW hl hn hkL (fun v hv => hkS v (List.mem_cons_of_mem _ (List.mem_cons_of_mem _ hv)))) (fun h => (xgo_wp (hf (fun n => n h))).2 ad H locs lsA hW hl hn hkL (fun v hv => hkS v (List.mem_cons_of_mem _ (List.mem_cons_of_mem _ hv))))
    | lt =>
      obtain ⟨ht, hf⟩ := xif_inv hs hp
      exact lv_icmp_lt hx hb hdl (xcJ_of hc.2) (fun h => (xgo_wp (ht h)).2 ad H locs lsA hW hl hn hkL (fun v hv => hkS v (List.mem_cons_of_mem _ (List.mem_cons_of_mem _ hv)))) (fun h => (xgo_wp (hf h)).2 ad H locs lsA hW hl hn hkL (fun v hv => hkS v (List.mem_cons_of_mem _ (List.mem_cons_of_mem _ hv))))
    | ge =>
      obtain ⟨ht, hf⟩ := xif_inv hs hp
      exact lv_icmp_ge hx hb hdl (xcJ_of hc.2) (fun h => (xgo_wp (ht h)).2 ad H locs lsA hW hl hn hkL (fun v hv => hkS v (List.mem_cons_of_mem _ (List.mem_cons_of_mem _ hv)))) (fun h => (xgo_wp (hf h)).2 ad H locs lsA hW hl hn hkL (fun v hv => hkS v (List.mem_cons_of_mem _ (List.mem_cons_of_mem _ hv))))
    | gt =>
      obtain ⟨ht, hf⟩ := xif_inv hs hp
      exact lv_icmp_gt hx hb hdl (xcJ_of hc.2) (fun h => (xgo_wp (ht h)).2 ad H locs lsA hW hl hn hkL (fun v hv => hkS v (List.mem_cons_of_mem _ (List.mem_cons_of_mem _ hv)))) (fun h => (xgo_wp (hf h)).2 ad H locs lsA hW hl hn hkL (fun v hv => hkS v (List.mem_cons_of_mem _ (List.mem_cons_of_mem _ hv))))
    | le =>
      obtain ⟨ht, hf⟩ := xif_inv hs hp
      exact lv_icmp_le hx hb hdl (xcJ_of hc.2) (fun h => (xgo_wp (ht h)).2 ad H locs lsA hW hl hn hkL (fun v hv => hkS v (List.mem_cons_of_mem _ (List.mem_cons_of_mem _ hv)))) (fun h => (xgo_wp (hf h)).2 ad H locs lsA hW hl hn hkL (fun v hv => hkS v (List.mem_cons_of_mem _ (List.mem_cons_of_mem _ hv))))
  · cases hs
set_option maxHeartbeats 4000000 in
set_option maxRecDepth 100000 in
theorem xs_ifnull (C : xCtx Γ ad0 σ0 y d A H0 p R s m args meth c) {rk rr : Nat} {ks : List (Nat × List Nat)} {pc len : Nat} {aux ps : List Nat} {ls : xL} {st : List xV} {σ : xS} {o : Option Nat} {g : Nat → xB} {off : Int} (hchk : xchk (xmeth y).1 (xmeth y).2.1 (xmeth y).2.2.1 (pc, (.ifnull off), len, aux) ps = true) (hs : xstep rk rr ks y (pc, (.ifnull off), len, aux) ls st σ = some (.inr (.inl (o, g)))) (hp : xsP (xG Γ ad0 σ0 A H0 p l e R s m args below meth c Q y) o g)  : ∀ (ad : Nat → Nat → Nat) (H : Heap) (locs : List Loc) (lsA : Array Slot), xWd Γ ad0 σ0 A H0 s ad σ H locs → lv_has lsA (xmeth y).2.2.1 (xlv ad 0 ls) → ls.length = (xmeth y).2.2.1 → xokL σ ls → xokS σ st → W p l e R s m args below meth c H locs (σ.2.2.2.2.1 - σ0.2.2.2.2.1) (σ.2.2.2.2.2 - σ0.2.2.2.2.2) Q (F0 m pc lsA (st.map (xtv ad))) := by
  obtain ⟨hx, hb, hml, hown, hts, hnw, hK, hA, hfr, hlo, hnm, hsc⟩ := C
  have hdl : decode (xmeth y).2.1 pc = .ok ((.ifnull off), len) := of_decide_eq_true (Bool.and_eq_true_iff.mp hchk).1
  have hc := (Bool.and_eq_true_iff.mp hchk).2
  intro ad H locs lsA hW hl hn hkL hkS
  simp only [Bool.and_eq_true] at hc
  have hlen := Nat.eq_of_beq_eq_true hc.1
  subst hlen
  
  simp only [xstep] at hs
  split at hs
  · rename_i t r w st'
    obtain ⟨ht, hf⟩ := xif_inv hs hp
    cases w with
    | none => exact lv_ifnullN hx hb hdl (xcJ_of hc.2) ((xgo_wp (ht rfl)).2 ad H locs lsA hW hl hn hkL (fun v hv => hkS v (List.mem_cons_of_mem _ hv)))
    | some i => exact lv_ifnull hx hb hdl ((xgo_wp (hf (fun h => by cases h))).2 ad H locs lsA hW hl hn hkL (fun v hv => hkS v (List.mem_cons_of_mem _ hv)))
  · cases hs
set_option maxHeartbeats 4000000 in
set_option maxRecDepth 100000 in
theorem xs_ifnonnull (C : xCtx Γ ad0 σ0 y d A H0 p R s m args meth c) {rk rr : Nat} {ks : List (Nat × List Nat)} {pc len : Nat} {aux ps : List Nat} {ls : xL} {st : List xV} {σ : xS} {o : Option Nat} {g : Nat → xB} {off : Int} (hchk : xchk (xmeth y).1 (xmeth y).2.1 (xmeth y).2.2.1 (pc, (.ifnonnull off), len, aux) ps = true) (hs : xstep rk rr ks y (pc, (.ifnonnull off), len, aux) ls st σ = some (.inr (.inl (o, g)))) (hp : xsP (xG Γ ad0 σ0 A H0 p l e R s m args below meth c Q y) o g)  : ∀ (ad : Nat → Nat → Nat) (H : Heap) (locs : List Loc) (lsA : Array Slot), xWd Γ ad0 σ0 A H0 s ad σ H locs → lv_has lsA (xmeth y).2.2.1 (xlv ad 0 ls) → ls.length = (xmeth y).2.2.1 → xokL σ ls → xokS σ st → W p l e R s m args below meth c H locs (σ.2.2.2.2.1 - σ0.2.2.2.2.1) (σ.2.2.2.2.2 - σ0.2.2.2.2.2) Q (F0 m pc lsA (st.map (xtv ad))) := by
  obtain ⟨hx, hb, hml, hown, hts, hnw, hK, hA, hfr, hlo, hnm, hsc⟩ := C
  have hdl : decode (xmeth y).2.1 pc = .ok ((.ifnonnull off), len) := of_decide_eq_true (Bool.and_eq_true_iff.mp hchk).1
  have hc := (Bool.and_eq_true_iff.mp hchk).2
  intro ad H locs lsA hW hl hn hkL hkS
  simp only [Bool.and_eq_true] at hc
  have hlen := Nat.eq_of_beq_eq_true hc.1
  subst hlen
  
  simp only [xstep] at hs
  split at hs
  · rename_i t r w st'
    obtain ⟨ht, hf⟩ := xif_inv hs hp
    cases w with
    | none => exact lv_ifnonnullN hx hb hdl ((xgo_wp (ht rfl)).2 ad H locs lsA hW hl hn hkL (fun v hv => hkS v (List.mem_cons_of_mem _ hv)))
    | some i => exact lv_ifnonnull hx hb hdl (xcJ_of hc.2) ((xgo_wp (hf (fun h => by cases h))).2 ad H locs lsA hW hl hn hkL (fun v hv => hkS v (List.mem_cons_of_mem _ hv)))
  · cases hs
end SND
