/-! WHAT THROWS: the carriers' fail -/
def wkS (A : Nat → Prop) (U : State) (H : Heap) : Prop := vx_Zq Bundle.tN "UNASSIGNED_STACK" Bundle.steD A U H ∧ vx_Zq Bundle.tN "SUPPRESSED_SENTINEL" Bundle.listD A U H
theorem wkS.moved {A : Nat → Prop} {u U : State} {H : Heap} (hvm : u.vm.Alike U.vm) (h : wkS A u H) : wkS A U H := ⟨vx_Zq.moved hvm h.1, vx_Zq.moved hvm h.2⟩
theorem wkS.kept {A : Nat → Prop} {U : State} {H H1 : Heap} (h : wkS A U H) (hq : ∀ a : Nat, a < H.size → ¬ A a → H1[a]? = H[a]?) : wkS A U H1 := ⟨h.1.kept hq, h.2.kept hq⟩
theorem wkS.narrow {A B : Nat → Prop} {U : State} {H : Heap} (h : wkS A U H) (hAB : ∀ q, B q → A q) : wkS B U H := ⟨h.1.narrow hAB, h.2.narrow hAB⟩
def xnd : Jvm.Cond → Bool
  | .declares .. => true
  | w => xnest w
theorem xnd_tab {w : Jvm.Cond} (h : xnd w = true) : w.onTables = true := by
  unfold xnd at h
  split at h
  · rfl
  · exact xnw_tab h
theorem xnd_warm {w : Jvm.Cond} (hn : xnd w = true) {s U : State} (hW : s.WarmedH U.vm) (h : va_Nw w s) : va_Nw w U := by
  unfold xnd at hn
  split at hn
  · exact va_Nw.warmD hW h
  · exact xnw_warm hn hW h
/-- these, and the texts' words -/
def xne : Jvm.Cond → Bool
  | .stringRef .. => true
  | w => xnd w
theorem xne_d {w : Jvm.Cond} (h : xnd w = true) : xne w = true := by
  unfold xne
  split
  · rfl
  · exact h
theorem xne_args {w : Jvm.Cond} (hn : xne w = true) {A B : Array Value} {U : State} (h : w.before A U = true) : w.before B U = true := by
  unfold xne at hn
  split at hn
  · exact h
  · exact va_tabs (xnd_tab hn) rfl h
theorem xne_same {w : Jvm.Cond} (hn : xne w = true) {u U : State} (hv : u.vm = U.vm) (h : va_Nw w u) : va_Nw w U := by
  unfold xne at hn
  split at hn
  · unfold va_Nw at h ⊢
    simp only [Cond.before, Cond.holds, Cond.value, State.names, State.poolOf?, State.resolvedAt?, hv] at h ⊢
    exact h
  · exact va_Nw.same (xnd_tab hn) hv h
theorem xne_warm {w : Jvm.Cond} (hn : xne w = true) {s U : State} (hW : s.WarmedH U.vm) (h : va_Nw w s) : va_Nw w U := by
  have hn0 := hn
  unfold xne at hn
  split at hn
  · exact xne_same (u := s.setVm U.vm) hn0 rfl (Cond.stringRef_warmed hW h)
  · exact xnd_warm hn hW h
def wkNames : List String := ["java/lang/RuntimeException", "java/lang/Exception"]
def wkT (own cls : String) (ik ic : Nat) : Bool := (Cond.classLink own ik cls :: Cond.initialized cls :: vx_atS own ic cls wkNames).all fun w => decide (w ∈ lw_tbl) && (goodWord w || xnd w)
theorem wkT_0 : wkT RX0 "java/lang/IllegalStateException" 18 22 = true := by decide +kernel
theorem wkT_4 : wkT RX4 "java/lang/UnsupportedOperationException" 26 30 = true := by decide +kernel
theorem wkT_8 : wkT RX8 "java/lang/IllegalArgumentException" 29 33 = true := by decide +kernel
theorem wkT_11a : wkT RX11 "java/lang/IllegalArgumentException" 234 238 = true := by decide +kernel
theorem wkT_11b : wkT RX11 "java/lang/IllegalStateException" 244 248 = true := by decide +kernel
theorem wk_hat {own cls : String} {ik ic : Nat} {s : State} {args : Array Value} (h : wkT own cls ik ic = true) (hts : ∀ w ∈ lw_tbl, goodWord w = true → w.before args s = true) (hnw : ∀ w ∈ lw_tbl, xnd w = true → va_Nw w s) : ∀ w ∈ Cond.classLink own ik cls :: Cond.initialized cls :: vx_atS own ic cls wkNames, w.before args s = true ∧ vx_ot w = true := by
  intro w hw
  have h1 := List.all_eq_true.mp h w hw
  simp only [Bool.and_eq_true, Bool.or_eq_true, decide_eq_true_eq] at h1
  rcases h1.2 with g | g
  · exact ⟨hts w h1.1 g, by unfold vx_ot; rw [g, Bool.or_true]⟩
  · exact ⟨va_Nw.use (xnd_tab g) (hnw w h1.1 g), by unfold vx_ot; rw [xnd_tab g, Bool.true_or]⟩
section WF
variable {p : Program} {l : Launch} {e : Env} {R : Room} {s : State} {m : MethodId} {args : Array Value} {below : List Frame} {meth : Method} {c : Code} {H : Heap} {locs : List Loc} {cells slots : Nat}
variable {cc : ByteArray} {pc : Nat} {ls : Array Slot} {rest : List Value} {A : Nat → Prop} {Qc : Array Value → State → Outcome → State → Prop} {XC : String → State → State → Prop} {mc ms : Nat} {free : Addr → Prop}
/-- new cls(text) thrown and not caught -/
theorem wk_throw (hx : p.tables.exec = Jvm.exec) (hb : c.code = cc) (hl : l.stackTraces = false) {own cls text : String} {ik is ic : Nat} (hown : s.vm.findClass own = some m.cls) (hT : wkT own cls ik ic = true) (hf : Bundle.fit cls = true) (hts : ∀ w ∈ lw_tbl, goodWord w = true → w.before args s = true) (hnw : ∀ w ∈ lw_tbl, xne w = true → va_Nw w s) (hstr : Jvm.Cond.stringRef own is text ∈ lw_tbl) (hZ : wkS A s s.heap) (hS : va_S A s.heap H locs) (hsize : ls.size = c.maxLocals)
    (d0 : decode cc pc = .ok (.new ik, 3)) (d3 : decode cc (pc + 3) = .ok (.dup, 1)) (d4 : decode cc (pc + 4) = .ok (.ldc is, 2)) (d6 : decode cc (pc + 6) = .ok (.invokespecial ic, 3)) (d9 : decode cc (pc + 9) = .ok (.athrow, 1)) (hout : ∀ x ∈ c.exceptionTable.toList, False) (hR : 5 < R.frames) (hR2 : (rest.map fun v => v.category).sum + 82 ≤ R.locals) (hR3 : cells + 1 ≤ R.cells) (hR4 : slots + 6 ≤ R.slots) (hlocks : meth.locks = false)
    (hxc : ∀ t : State, s.vm.Alike t.vm → H.size ≤ t.heap.size → (∀ q : Nat, q < H.size → t.heap[q]? = H[q]?) → XC cls s t) (hfr : ∀ z ∈ locs, free z.base) (hc : cells + 1 ≤ mc) (hs : slots + 6 ≤ ms) : W p l e R s m args below meth c H locs cells slots (vx_MQ below Qc XC args s mc ms free) (F0 m pc ls rest) := by
  have hw := wk_hat (args := args) hT hts (fun w h1 h2 => hnw w h1 (xne_d h2))
  have hst : (Jvm.Cond.stringRef own is text).before args s = true := xne_args rfl (hnw _ hstr rfl)
  obtain ⟨_, _, _, sa, _, _, _, _, _, hev⟩ := Cond.stringRef_spec hown hst
  exact vx_throwS (names := wkNames) hx hb hl hown hf (by decide +kernel) (hw _ List.mem_cons_self).1 (hw _ (List.mem_cons_of_mem _ List.mem_cons_self)).1 (vk_R.of (a := sa) hst hev) (fun w h => (hw w (List.mem_cons_of_mem _ (List.mem_cons_of_mem _ h))).1) (fun w h => (hw w h).2) hZ.1 hZ.2 hS hsize d0 d3 d4 d6 d9 (fun x hx => absurd (hout x hx) id) hR hR2 hR3 hR4 hlocks hxc hfr hc hs
end WF
/-- what fail needs, gives, throws -/
def wfPc (Γ : xΓ) (ad : Nat → Nat → Nat) (σ : xS) (i sz : Nat) : Array Value → State → Prop := va_Pc [.ref (ad 16 i)] (fun U => U.heap.size = sz ∧ va_P Γ.1 vwCl (xW Γ ad σ) U.heap ∧ va_K Γ.1 vwCl (xtys Γ) U ∧ (∀ w ∈ lw_tbl, xne w = true → va_Nw w U) ∧ wkS (fun q => sz ≤ q) U U.heap)
def wfQc (σ : xS) (i sz : Nat) (b : Bool) : Array Value → State → Outcome → State → Prop := va_Qv (fun _ : Unit => b = true ∨ rI σ 16 i 1 = 0) (fun _ _ => True) (fun q => sz ≤ q)
def wfXC (σ : xS) (i sz : Nat) (cls : String) : String → State → State → Prop := vx_X (fun _ : Unit => ¬ rI σ 16 i 1 = 0) (fun E _ _ => E = cls) (fun q => sz ≤ q)
set_option maxHeartbeats 4000000 in
theorem wk_fail (l : Launch) (hlf : l.stackTraces = false) {own ref cls text : String} {idx ik is ic : Nat} {cc : ByteArray} {Γ : xΓ} {ad : Nat → Nat → Nat} {σ : xS} {i ci sz : Nat} {C : String} {T : u_T} (hpl : plainName own = true) (hT : wkT own cls ik ic = true) (hf : Bundle.fit cls = true) (hstr : Jvm.Cond.stringRef own is text ∈ lw_tbl)
    (hc : vwCl[ci]? = some (C, T, 2)) (hlk : Jvm.Cond.fieldLink own idx ref (T 1).2.1 (T 1).2.2.1 ∈ lw_tbl ∧ goodWord (Jvm.Cond.fieldLink own idx ref (T 1).2.1 (T 1).2.2.1) = true) (hsm : (T 1).1 = ref ∨ (Jvm.Cond.sameField ref (T 1).1 (T 1).2.1 (T 1).2.2.1 ∈ lw_tbl ∧ goodWord (Jvm.Cond.sameField ref (T 1).1 (T 1).2.1 (T 1).2.2.1) = true))
    (hi : i < xcnt σ 16) (hci : (rC σ).getD i 0 = ci)
    (d0 : decode cc 0 = .ok (.aload_n 0, 1)) (d1 : decode cc 1 = .ok (.getfield idx, 3)) (d4 : decode cc 4 = .ok (.ifCond .eq 13, 3)) (e0 : decode cc 7 = .ok (.new ik, 3)) (e3 : decode cc (7 + 3) = .ok (.dup, 1)) (e4 : decode cc (7 + 4) = .ok (.ldc is, 2)) (e6 : decode cc (7 + 6) = .ok (.invokespecial ic, 3)) (e9 : decode cc (7 + 9) = .ok (.athrow, 1)) (d17 : decode cc 17 = .ok (.return_, 1)) :
    vx_Met l ⟨own, "fail", "()V"⟩ (.code ⟨own, "fail", "()V"⟩ cc 1 none :: xTs) { frames := 8, cells := 1, slots := 6, locals := 512 } (wfPc Γ ad σ i sz) (wfQc σ i sz false) (wfXC σ i sz cls) 1 6 (fun q => sz ≤ q) := by
  refine vx_ofW hpl rfl ?_
  intro p e s m args below meth c s₁ B hml hout hv
  obtain ⟨rfl, hsz, hP, hK, hnw, hZ⟩ := hv
  have hx := B.exec
  have hb := B.bytes
  have hr := B.returns
  have htw := atoms_spec (ws := .code ⟨own, "fail", "()V"⟩ cc 1 none :: xTs) B.pre
  have hts : ∀ w ∈ lw_tbl, goodWord w = true → w.before (#[.ref (ad 16 i)] : Array Value) s = true := fun w h1 h2 => htw w (List.mem_cons_of_mem _ (List.mem_filter.mpr ⟨h1, h2⟩))
  have hown : s.vm.findClass own = some m.cls := findClass_of_methodNamed B.named
  have hlocks := B.notSynchronized
  subst hsz
  have hS : va_S (fun q => s.heap.size ≤ q) s.heap s.heap [] := va_S.rf
  have hl := lv_entry ([.ref (ad 16 i)]) (n := 1) (Nat.le_of_ble_eq_true rfl)
  rw [lg_entry_eq]
  generalize (lg_sl ([.ref (ad 16 i)]) ++ List.replicate (1 - (lg_sl ([.ref (ad 16 i)])).length) Slot.unset).toArray = ls at hl ⊢
  have hl : lv_has ls 1 [(0, .ref (ad 16 i))] := hl
  have h16 : (xreg 16).1 = 0 := by decide +kernel
  obtain ⟨q, hq, -⟩ := xW_get Γ ad (r := 16) (by decide) hi
  rw [xcell_obj h16] at hq
  have hcl : xcls σ 16 i = ci := by unfold xcls; rw [if_pos rfl]; exact hci
  rw [hcl] at hq
  have hfv := xfs_get (ad := ad) (i := i) (fI := rI σ 16 i) (fL := rL σ 16 i) (fP := rP σ 16 i) (r := 16) (k := 1) (by decide +kernel)
  have hfv : (xfs ad 16 i (rI σ 16 i) (rL σ 16 i) (rP σ 16 i))[1]? = some (.int (rI σ 16 i 1)) := hfv
  refine lv_aload_n hx hb d0 rfl (lv_at hl 0 rfl) ?_
  refine va_get hx hb (xTs_of hts) (xcl_ws hc) hown hK hP q hq hc 1 (by decide) (hts _ hlk.1 hlk.2) (fun x h => ?_) hfv d1 ?_
  · rcases hsm with g | g
    · rw [← g]; exact h
    · exact u_same (hts _ g.1 g.2) x h
  refine lv_if_eq hx hb d4 (tgt := 17) rfl (fun h0 => ?_) (fun h0 => ?_)
  · refine vx_ret (W.widen (k := 1) (n := 6) (by decide) (by decide) ?_)
    exact W.vret hx hb hr (fun t ht hW => ⟨⟨(), rfl, Or.inr h0, trivial⟩, hS.F ht⟩) hS.2.2 d17
  · refine wk_throw hx hb hlf hown hT hf hts hnw hstr hZ hS (hl.1.trans hml.symm) e0 e3 e4 e6 e9 hout (Nat.le_of_ble_eq_true rfl) (Nat.le_of_ble_eq_true rfl) (Nat.le_of_ble_eq_true rfl) (Nat.le_of_ble_eq_true rfl) hlocks (fun t _ h1 h2 => ⟨(), h0, rfl, h1, fun q h3 _ => h2 q h3⟩) hS.2.2 (by decide) (by decide)
/-- a fail that does nothing -/
theorem wk_nofail (l : Launch) {Γ : xΓ} {ad : Nat → Nat → Nat} {σ : xS} {i sz : Nat} : vx_Met l yX1_fail (.code yX1_fail cX1_fail 1 none :: xTs) { frames := 8, cells := 1, slots := 6, locals := 512 } (wfPc Γ ad σ i sz) (wfQc σ i sz true) (wfXC σ i sz "") 1 6 (fun q => sz ≤ q) := by
  refine vx_ofW (by decide) rfl ?_
  intro p e s m args below meth c s₁ B hml hout hv
  obtain ⟨rfl, hsz, hP, hK, hnw, hZ⟩ := hv
  have hx := B.exec
  have hb := B.bytes
  have hr := B.returns
  have hlocks := B.notSynchronized
  subst hsz
  have hS : va_S (fun q => s.heap.size ≤ q) s.heap s.heap [] := va_S.rf
  rw [lg_entry_eq]
  refine vx_ret (W.widen (k := 1) (n := 6) (by decide) (by decide) ?_)
  exact W.vret hx hb hr (fun t ht hW => ⟨⟨(), rfl, Or.inl rfl, trivial⟩, hS.F ht⟩) hS.2.2 (by decide +kernel)
