/-! THE MAIN THEOREM: what the abstract machine gives, the real one does -/
section SND
variable {p : Program} {l : Launch} {e : Env} {R : Room} {s : State} {m : MethodId} {args : Array Value} {below : List Frame} {meth : Method} {c : Code} {Q : State → Prop}
variable {Γ : xΓ} {y d : Nat} {A : Nat → Prop} {H0 : Heap} {σ0 : xS} {ad0 : Nat → Nat → Nat}
theorem xzret {cc : ByteArray} {H : Heap} {locs : List Loc} {cells slots : Nat} {Qc : Array Value → State → Outcome → State → Prop} {free : Addr → Prop} {v : Int32} (hexec : p.tables.exec = Jvm.exec) (hb : c.code = cc) (hr : meth.sig.returnType = some .boolean)
    (hq : ∀ t : State, t.heap = H → s.WarmedH t.vm → Qc args s (.returned (some (.int (v &&& 1)))) t) (hf : ∀ q ∈ locs, free q.base)
    {pc : Nat} {ls : Array Slot} (hdg : decode cc pc = .ok (.ireturn, 1)) (hlocks : meth.locks = false) : W p l e R s m args below meth c H locs cells slots (MQ below Qc args s cells slots free) (F0 m pc ls [.int v]) := by
  intro T hT X
  obtain ⟨fs, hret, hrun, hended, hW, hframe⟩ := X.leave (v := some (.int (v &&& 1))) (fun h => by rw [hr] at h; cases h)
  have hmeth' : T.vm.method? m = some meth := X.method'
  refine ⟨T.setFrames fs, ?_, .returned (some (.int (v &&& 1))), hrun, hended, hq _ hT hW, locs, ⟨⟨_, rfl⟩, hW, hframe⟩, hf⟩
  jvm_step X.here [X.here.top, hexec, hb, hdg, hmeth', hr, narrow]
  (try refine ⟨rfl, ?_⟩); (try refine ⟨rfl, ?_⟩)
  first | (intro acts; rw [hret _ acts rfl rfl rfl]) | rw [hret _ _ rfl rfl rfl]
  exact Steps.refl _
def xEnd (Γ : xΓ) (ad0 : Nat → Nat → Nat) (σ0 : xS) (A : Nat → Prop) (H0 : Heap) (p : Program) (l : Launch) (e : Env) (R : Room) (s : State) (m : MethodId) (args : Array Value) (below : List Frame) (meth : Method) (c : Code) (Q : State → Prop) (y : Nat) (q : xR) : Prop :=
  ∀ (pc : Nat) (ins : Instr) (len : Nat) (aux ps : List Nat) (ls : xL) (st : List xV) (σ : xS), xchk (xmeth y).1 (xmeth y).2.1 (xmeth y).2.2.1 (pc, ins, len, aux) ps = true → xstep (xmeth y).2.2.2.1 (xmeth y).2.2.2.2.1 (xmeth y).2.2.2.2.2.2.2 y (pc, ins, len, aux) ls st σ = some (.inl q) → ∀ (ad : Nat → Nat → Nat) (H : Heap) (locs : List Loc) (lsA : Array Slot), xWd Γ ad0 σ0 A H0 s ad σ H locs → lv_has lsA (xmeth y).2.2.1 (xlv ad 0 ls) → xokS σ st →
    W p l e R s m args below meth c H locs (σ.2.2.2.2.1 - σ0.2.2.2.2.1) (σ.2.2.2.2.2 - σ0.2.2.2.2.2) Q (F0 m pc lsA (st.map (xtv ad)))
def xPrim (Γ : xΓ) (ad0 : Nat → Nat → Nat) (σ0 : xS) (A : Nat → Prop) (H0 : Heap) (p : Program) (l : Launch) (e : Env) (R : Room) (s : State) (m : MethodId) (args : Array Value) (below : List Frame) (meth : Method) (c : Code) (Q : State → Prop) (y : Nat) : Prop :=
  (xmeth y).1.cls = RL → ∀ (pc : Nat) (ins : Instr) (len : Nat) (aux ps : List Nat) (ls : xL) (st : List xV) (σ : xS) (o : Option Nat) (g : Nat → xB), (∃ i, (ins = .invokevirtual i ∧ aux = [6]) ∨ (ins = .invokestatic i ∧ aux = [7])) → (pc, ins, len, aux) ∈ (xmeth y).2.2.2.2.2.2.1 → xchk (xmeth y).1 (xmeth y).2.1 (xmeth y).2.2.1 (pc, ins, len, aux) ps = true → xstep (xmeth y).2.2.2.1 (xmeth y).2.2.2.2.1 (xmeth y).2.2.2.2.2.2.2 y (pc, ins, len, aux) ls st σ = some (.inr (.inl (o, g))) →
  xsP (xG Γ ad0 σ0 A H0 p l e R s m args below meth c Q y) o g → ∀ (ad : Nat → Nat → Nat) (H : Heap) (locs : List Loc) (lsA : Array Slot), xWd Γ ad0 σ0 A H0 s ad σ H locs → lv_has lsA (xmeth y).2.2.1 (xlv ad 0 ls) → ls.length = (xmeth y).2.2.1 → xokL σ ls → xokS σ st →
    W p l e R s m args below meth c H locs (σ.2.2.2.2.1 - σ0.2.2.2.2.1) (σ.2.2.2.2.2 - σ0.2.2.2.2.2) Q (F0 m pc lsA (st.map (xtv ad)))
set_option maxHeartbeats 4000000 in
theorem xend_met {h : Nat} {q : xR} (C : xCtx Γ ad0 σ0 y d A s.heap p R s m args meth c) (hh : xhead (xmeth y) h = true) (hr : meth.sig.returnType = (xmeth y).2.2.2.2.2.1) (hlk : meth.locks = false) :
    xEnd Γ ad0 σ0 A s.heap p l e R s m args below meth c (MQ below (xQc Γ ad0 σ0 A q (xmeth y).2.2.2.1 (xmeth y).2.2.2.2.1) args s (q.2.2.2.2.2.1 - σ0.2.2.2.2.1) (q.2.2.2.2.2.2 - σ0.2.2.2.2.2) A) y q := by
  intro pc ins len aux ps ls st σ hchk hs ad H locs lsA hW hl hkS
  obtain ⟨hx, hb, hml, hown, hts, hnw, hK, hA, hfr, hlo, hnm, hsc⟩ := C
  obtain ⟨hP, hD, hS, hwf, hag, hpre⟩ := hW
  have hdl : decode (xmeth y).2.1 pc = .ok (ins, len) := of_decide_eq_true (Bool.and_eq_true_iff.mp hchk).1
  have hc := (Bool.and_eq_true_iff.mp hchk).2
  have hm := xmn_step (σ := σ) (rk := (xmeth y).2.2.2.1) (rr := (xmeth y).2.2.2.2.1) (ks := (xmeth y).2.2.2.2.2.2.2) (y := y) (e := (pc, ins, len, aux)) (ls := ls) (st := st)
  rw [hs] at hm
  have hir : xisR ins = true := hm.1
  have hk := xhead_kind hh
  have key : ∀ (v : Int32 × Int64 × Option Nat), q = (v, σ) → (∀ w ∈ xpush (xmeth y).2.2.2.1 (xmeth y).2.2.2.2.1 v [], xok σ w) → ∀ t : State, t.heap = H → s.WarmedH t.vm → xQc Γ ad0 σ0 A q (xmeth y).2.2.2.1 (xmeth y).2.2.2.2.1 args s (.returned (xret ad (xmeth y).2.2.2.1 (xmeth y).2.2.2.2.1 v)) t := by
    intro v hq hv t ht _
    subst hq
    exact ⟨⟨ad, hag, rfl, by rw [ht]; exact hP, hD, hwf, hpre, hv⟩, hS.F ht⟩
  generalize (xmeth y).2.2.2.1 = rk at hk hs key ⊢
  generalize (xmeth y).2.2.2.2.1 = rr at hk hs key ⊢
  generalize (xmeth y).2.2.2.2.2.1 = rt at hk hr
  unfold xisR at hir
  split at hir
  · have hlen := Nat.eq_of_beq_eq_true hc
    subst hlen
    simp only [xstep] at hs
    split at hs
    · rename_i a
      rcases hk with hk | hk | hk | hk | hk
      · rw [hk.1] at hs; cases hs
      · obtain ⟨h1, h2⟩ := hk
        subst h1
        cases hs
        exact W.iret hx hb (hr.trans h2) (key _ rfl (fun w hw => by rw [List.mem_singleton.mp hw]; trivial)) hS.2.2 hdl hlk
      · rw [hk.1] at hs; cases hs
      · obtain ⟨h1, h2⟩ := hk
        subst h1
        cases hs
        exact xzret hx hb (hr.trans h2) (key _ rfl (fun w hw => by rw [List.mem_singleton.mp hw]; trivial)) hS.2.2 hdl hlk
      · rw [hk.1] at hs; cases hs
    · cases hs
  · have hlen := Nat.eq_of_beq_eq_true hc
    subst hlen
    simp only [xstep] at hs
    split at hs
    · rcases hk with hk | hk | hk | hk | hk
      · rw [hk.1] at hs; cases hs
      · rw [hk.1] at hs; cases hs
      · obtain ⟨h1, h2⟩ := hk
        subst h1
        cases hs
        exact W.lret hx hb (hr.trans h2) (key _ rfl (fun w hw => by rw [List.mem_singleton.mp hw]; trivial)) hS.2.2 hdl hlk
      · rw [hk.1] at hs; cases hs
      · rw [hk.1] at hs; cases hs
    · cases hs
  · have hlen := Nat.eq_of_beq_eq_true hc
    subst hlen
    simp only [xstep] at hs
    split at hs
    · rename_i r o
      rcases hk with hk | hk | hk | hk | hk
      · rw [hk.1] at hs; cases hs
      · rw [hk.1] at hs; cases hs
      · rw [hk.1] at hs; cases hs
      · rw [hk.1] at hs; cases hs
      · obtain ⟨h1, n, h2⟩ := hk
        subst h1
        cases hrr : Nat.beq rr r with
        | false => rw [hrr] at hs; cases hs
        | true =>
          have hrr := Nat.eq_of_beq_eq_true hrr
          subst hrr
          simp only [Nat.beq_refl, Bool.and_self, cond_true] at hs
          cases hs
          exact W.aret hx hb (hr.trans h2) (Or.inl ⟨n, rfl⟩) (va_rf_or _) (key (0, 0, o) rfl (fun w hw => by rw [List.mem_singleton.mp hw]; exact hkS _ List.mem_cons_self)) hS.2.2 hdl hlk
    · cases hs
  · have hlen := Nat.eq_of_beq_eq_true hc
    subst hlen
    simp only [xstep] at hs
    split at hs
    · rcases hk with hk | hk | hk | hk | hk
      · obtain ⟨h1, h2⟩ := hk
        subst h1
        cases hs
        exact W.vret hx hb (hr.trans h2) (key _ rfl (fun w hw => by cases hw)) hS.2.2 hdl hlk
      · rw [hk.1] at hs; cases hs
      · rw [hk.1] at hs; cases hs
      · rw [hk.1] at hs; cases hs
      · rw [hk.1] at hs; cases hs
    · cases hs
  · cases hir
end SND
