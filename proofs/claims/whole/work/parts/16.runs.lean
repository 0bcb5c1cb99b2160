/-! THE KINDS OF CALLS, THE ENDS, THE ENTRY -/
theorem xcP_of {x : MethodName} {n : Nat} (h : xcP x n = true) : (∀ sig, parseMethodDescriptor x.desc = some sig → n = sig.parameters.length) ∧ x.cls ≠ "java/lang/invoke/MethodHandle" ∧ x.cls ≠ "java/lang/invoke/VarHandle" := by
  unfold xcP at h
  simp only [Bool.and_eq_true, decide_eq_true_eq] at h
  refine ⟨fun sig hs => ?_, h.1.2, h.2⟩
  have h1 := h.1.1
  rw [hs] at h1
  exact (Option.some.inj h1).symm
theorem xcR_of {y1 k r w : Nat} (h : xcR y1 k r w = true) : w ≤ (xmeth y1).2.2.1 ∧ (xmeth y1).2.2.2.1 = k ∧ (xmeth y1).2.2.2.2.1 = r ∧ y1 < xMeth.length ∧ y1 ≠ 79 := by
  unfold xcR at h
  simp only [Bool.and_eq_true, Bool.not_eq_true'] at h
  refine ⟨Nat.le_of_ble_eq_true h.1.1.1.1, Nat.eq_of_beq_eq_true h.1.1.1.2, Nat.eq_of_beq_eq_true h.1.1.2, Nat.le_of_ble_eq_true h.1.2, fun e => ?_⟩
  rw [e] at h
  exact absurd h.2 (by decide)
theorem xhead_kind {m : xM} {i : Nat} (h : xhead m i = true) : (m.2.2.2.1 = 0 ∧ m.2.2.2.2.2.1 = none) ∨ (m.2.2.2.1 = 1 ∧ m.2.2.2.2.2.1 = some .int) ∨ (m.2.2.2.1 = 2 ∧ m.2.2.2.2.2.1 = some .long) ∨ (m.2.2.2.1 = 4 ∧ m.2.2.2.2.2.1 = some .boolean) ∨ (m.2.2.2.1 = 3 ∧ ∃ n, m.2.2.2.2.2.1 = some (.object n)) := by
  obtain ⟨nm, bytes, maxL, rk, rr, rt, code, ks⟩ := m
  unfold xhead at h
  simp only [Bool.and_eq_true] at h
  obtain ⟨-, h⟩ := h
  dsimp only
  split at h
  · exact Or.inl ⟨rfl, rfl⟩
  · exact Or.inr (Or.inl ⟨rfl, rfl⟩)
  · exact Or.inr (Or.inr (Or.inl ⟨rfl, rfl⟩))
  · exact Or.inr (Or.inr (Or.inr (Or.inl ⟨rfl, rfl⟩)))
  · exact Or.inr (Or.inr (Or.inr (Or.inr ⟨rfl, _, rfl⟩)))
  · cases h
theorem xhead_code {m : xM} {i : Nat} (h : xhead m i = true) : Jvm.Cond.code m.1 m.2.1 m.2.2.1 m.2.2.2.2.2.1 ∈ lw_tbl ∧ goodWord (Jvm.Cond.code m.1 m.2.1 m.2.2.1 m.2.2.2.2.2.1) = true := by
  obtain ⟨nm, bytes, maxL, rk, rr, rt, code, ks⟩ := m
  unfold xhead at h
  simp only [Bool.and_eq_true] at h
  exact xg_mem h.1.1.1
theorem xhead_plain {m : xM} {i : Nat} (h : xhead m i = true) : plainName m.1.cls = true := by
  obtain ⟨nm, bytes, maxL, rk, rr, rt, code, ks⟩ := m
  unfold xhead at h
  simp only [Bool.and_eq_true] at h
  exact h.1.1.2
section SND
variable {p : Program} {l : Launch} {e : Env} {R : Room} {s : State} {m : MethodId} {args : Array Value} {below : List Frame} {meth : Method} {c : Code} {Q : State → Prop}
variable {Γ : xΓ} {y d : Nat} {A : Nat → Prop} {H0 : Heap} {σ0 : xS} {ad0 : Nat → Nat → Nat}
variable {ad : Nat → Nat → Nat} {σ : xS} {H : Heap} {locs : List Loc} {lsA : Array Slot} {as st' : List xV} {q : xR} {y1 h idx n k r w pc : Nat} {ps : List Nat}
theorem xf_room {nc : Nat} (hpre : σ0.2.2.2.2.1 ≤ σ.2.2.2.2.1 ∧ σ0.2.2.2.2.2 ≤ σ.2.2.2.2.2) (hle : xle σ q.2) (hf : q.2.2.2.2.2.1 ≤ R.cells + σ0.2.2.2.2.1 ∧ q.2.2.2.2.2.2 ≤ R.slots + σ0.2.2.2.2.2) : (σ.2.2.2.2.1 - σ0.2.2.2.2.1) + (q.2.2.2.2.2.1 - σ.2.2.2.2.1) ≤ R.cells ∧ (σ.2.2.2.2.2 - σ0.2.2.2.2.2) + (q.2.2.2.2.2.2 - σ.2.2.2.2.2) ≤ R.slots := by
  have h1 := hle.1
  have h2 := hle.2
  omega
theorem xrun_S (C : xCtx Γ ad0 σ0 y (d + 1) A H0 p R s m args meth c) (hh : xhead (xmeth y1) h = true) (hc : xcC (xmeth y).1.cls idx [0, y1, n, k, r, w] ps = true) (hM : xMet l Γ d y1 as σ q ad H.size) (hW : xWd Γ ad0 σ0 A H0 s ad σ H locs) (hle : xle σ q.2) (hf : q.2.2.2.2.2.1 ≤ R.cells + σ0.2.2.2.2.1 ∧ q.2.2.2.2.2.2 ≤ R.slots + σ0.2.2.2.2.2) (hn : as.length = n) (hw : xwords st' ≤ 16) (hsz : lsA.size = (xmeth y).2.2.1) (hdg : decode (xmeth y).2.1 pc = .ok (.invokestatic idx, 3)) :
    va_Run p l e R s m args below meth c H locs (σ.2.2.2.2.1 - σ0.2.2.2.2.1) (σ.2.2.2.2.2 - σ0.2.2.2.2.2) (q.2.2.2.2.2.1 - σ.2.2.2.2.1) (q.2.2.2.2.2.2 - σ.2.2.2.2.2) (F0 m pc lsA ((as.map (xtv ad)).reverse ++ st'.map (xtv ad))) (st'.map (xtv ad)) (xQc Γ ad σ (va_A (xW Γ ad σ) H.size) q k r (as.map (xtv ad)).toArray) (va_A (xW Γ ad σ) H.size) := by
  unfold xcC at hc
  simp only [Bool.and_eq_true, Bool.or_eq_true] at hc
  obtain ⟨⟨⟨⟨hlk, hst⟩, hin⟩, hP⟩, hR⟩ := hc
  obtain ⟨r1, rfl, rfl, r4, r5⟩ := xcR_of hR
  obtain ⟨p1, p2⟩ := xcP_of hP
  have hK := xback (l := l) (e := e) (below := below) C hh hin hM
  have hcd := xhead_code hh
  have hPc := xpreS C hW as
  obtain ⟨hx, hb, hml, hown, hts, hnw, -⟩ := C
  refine xrun_of fun T hT X => ?_
  have hlen : ∀ sig, parseMethodDescriptor (xmeth y1).1.desc = some sig → (as.map (xtv ad)).length = sig.parameters.length := fun sig hs => by rw [List.length_map, hn]; exact p1 sig hs
  have hwd : 2 * (F0 m pc lsA ((as.map (xtv ad)).reverse ++ st'.map (xtv ad))).monitorRoom + ((st'.map (xtv ad)).map fun v => v.category).sum ≤ 16 := by
    rw [xwords_sum ad st']
    show 2 * 0 + xwords st' ≤ 16
    omega
  have hpre : ∀ vm₁, s.WarmedH vm₁ → PreOf R (q.2.2.2.2.2.1 - σ.2.2.2.2.1) (q.2.2.2.2.2.2 - σ.2.2.2.2.2) (xPc Γ ad σ as H.size) ⟨T.setVm vm₁, locs, σ.2.2.2.2.1 - σ0.2.2.2.2.1, σ.2.2.2.2.2 - σ0.2.2.2.2.2⟩ (as.map (xtv ad)).toArray := fun vm₁ hW₁ => by
    obtain ⟨f1, f2⟩ := xf_room (R := R) (nc := 0) ⟨hW.2.2.2.2.2.2.1, hW.2.2.2.2.2.2.2.1⟩ hle hf
    exact ⟨f1, f2, hPc (T.setVm vm₁) hT hW₁⟩
  rcases hlk with hlk | hlk
  · exact callS X hx hown (hts _ (xg_mem hlk).1 (xg_mem hlk).2) (hts _ (xg_mem hst).1 (xg_mem hst).2) (hts _ (xg_mem hin).1 (xg_mem hin).2) (hts _ hcd.1 hcd.2) p2 hK rfl (hsz.trans hml.symm) hlen rfl hwd (by rw [hb]; exact hdg) hpre
  · exact va_callSN X hx hown (va_Nw.use rfl (hnw _ (xw_mem hlk) rfl)) (hts _ (xg_mem hst).1 (xg_mem hst).2) (hts _ (xg_mem hin).1 (xg_mem hin).2) (hts _ hcd.1 hcd.2) p2 hK rfl (hsz.trans hml.symm) hlen rfl hwd (by rw [hb]; exact hdg) hpre
theorem xobj_at {ro iO ci : Nat} (hK0 : va_K Γ.1 vwCl (xtys Γ) s) (hW : xWd Γ ad0 σ0 A H0 s ad σ H locs) (h0 : (xreg ro).1 = 0) (hi : iO < xcnt σ ro) (hci : xcls σ ro iO = ci) (h13 : ci < 13) : ∃ cell : Cell, H[ad ro iO]? = some cell ∧ cell.vm.isStatics = false ∧ s.vm.findClass (vwCl.getD ci (RX0, TX0, 2)).1 = some cell.cls ∧ ∃ kB : Class, s.vm.classes[cell.cls]? = some kB := by
  obtain ⟨Cn, T, N, hc, hcd⟩ := xcl_get h13
  obtain ⟨q, hq, -⟩ := xW_get Γ ad (xtag_lt h0 (by omega) (by omega)) hi
  rw [xcell_obj h0, hci] at hq
  obtain ⟨cell, h1, h2, h3⟩ := va_recv hK0 hW.1 hc hq
  obtain ⟨hS, hfc, kC, hkC, hkind⟩ := hK0.1 ci _ hc
  have h3 : s.vm.findClass Cn = some cell.cls := h3
  have e : cell.cls = Γ.1.1 ci := Option.some.inj (h3.symm.trans hfc)
  exact ⟨cell, h1, h2, by rw [hcd]; exact h3, kC, by rw [e]; exact hkC⟩
theorem xrun_V {ro iO cn : Nat} (C : xCtx Γ ad0 σ0 y (d + 1) A H0 p R s m args meth c) (hh : xhead (xmeth y1) h = true) (hc : xcV (xmeth y).1.cls idx [1, y1, cn, n, k, r, w] ps = true) (hM : xMet l Γ d y1 (.inr (.inr (ro, some iO)) :: as) σ q ad H.size) (hW : xWd Γ ad0 σ0 A H0 s ad σ H locs) (hle : xle σ q.2) (hf : q.2.2.2.2.2.1 ≤ R.cells + σ0.2.2.2.2.1 ∧ q.2.2.2.2.2.2 ≤ R.slots + σ0.2.2.2.2.2) (hn : as.length = n) (hw : xwords st' ≤ 16) (hsz : lsA.size = (xmeth y).2.2.1) (h0 : (xreg ro).1 = 0) (hcn : (xreg ro).2.1 = cn) (hi : iO < xcnt σ ro) (hdg : decode (xmeth y).2.1 pc = .ok (.invokevirtual idx, 3)) :
    va_Run p l e R s m args below meth c H locs (σ.2.2.2.2.1 - σ0.2.2.2.2.1) (σ.2.2.2.2.2 - σ0.2.2.2.2.2) (q.2.2.2.2.2.1 - σ.2.2.2.2.1) (q.2.2.2.2.2.2 - σ.2.2.2.2.2) (F0 m pc lsA ((as.map (xtv ad)).reverse ++ .ref (ad ro iO) :: st'.map (xtv ad))) (st'.map (xtv ad)) (xQc Γ ad σ (va_A (xW Γ ad σ) H.size) q k r ((.inr (.inr (ro, some iO)) :: as : List xV).map (xtv ad)).toArray) (va_A (xW Γ ad σ) H.size) := by
  unfold xcV at hc
  simp only [Bool.and_eq_true, decide_eq_true_eq] at hc
  obtain ⟨⟨⟨⟨⟨⟨⟨hlk, hst⟩, hsl⟩, hin⟩, hcl⟩, h13⟩, hP⟩, hR⟩ := hc
  obtain ⟨r1, rfl, rfl, r4, r5⟩ := xcR_of hR
  obtain ⟨p1, p2⟩ := xcP_of hP
  have hK := xback (l := l) (e := e) (below := below) C hh hin hM
  have hci : xcls σ ro iO = cn := by
    unfold xcls
    rw [if_neg]
    · exact hcn
    · intro e
      have := (xcls_in hW.2.2.2.1 h0 hi).2.mpr e
      omega
  have hcd := xhead_code hh
  have hPc := xpreS C hW (.inr (.inr (ro, some iO)) :: as)
  obtain ⟨hx, hb, hml, hown, hts, hnw, hK0, -⟩ := C
  refine xrun_of fun T hT X => ?_
  have hlen : ∀ sig, parseMethodDescriptor (xmeth y1).1.desc = some sig → (as.map (xtv ad)).length = sig.parameters.length := fun sig hs => by rw [List.length_map, hn]; exact p1 sig hs
  have hwd : 2 * (F0 m pc lsA ((as.map (xtv ad)).reverse ++ .ref (ad ro iO) :: st'.map (xtv ad))).monitorRoom + ((st'.map (xtv ad)).map fun v => v.category).sum ≤ 16 := by
    rw [xwords_sum ad st']
    show 2 * 0 + xwords st' ≤ 16
    omega
  have hpre : ∀ vm₁, s.WarmedH vm₁ → PreOf R (q.2.2.2.2.2.1 - σ.2.2.2.2.1) (q.2.2.2.2.2.2 - σ.2.2.2.2.2) (xPc Γ ad σ (.inr (.inr (ro, some iO)) :: as) H.size) ⟨T.setVm vm₁, locs, σ.2.2.2.2.1 - σ0.2.2.2.2.1, σ.2.2.2.2.2 - σ0.2.2.2.2.2⟩ (.ref (ad ro iO) :: as.map (xtv ad)).toArray := fun vm₁ hW₁ => by
    obtain ⟨f1, f2⟩ := xf_room (R := R) (nc := 0) ⟨hW.2.2.2.2.2.2.1, hW.2.2.2.2.2.2.2.1⟩ hle hf
    exact ⟨f1, f2, hPc (T.setVm vm₁) hT hW₁⟩
  obtain ⟨cell, hcell, hsta, hfc, -⟩ := xobj_at hK0 hW h0 hi hci h13
  rw [hcl] at hfc
  exact callV X hx hown (hts _ (xg_mem hlk).1 (xg_mem hlk).2) (hts _ (xg_mem hst).1 (xg_mem hst).2) (hts _ (xg_mem hsl).1 (xg_mem hsl).2) (hts _ hcd.1 hcd.2) p2 hK (by rw [hT]; exact hcell) hsta hfc rfl (hsz.trans hml.symm) hlen rfl hwd (by rw [hb]; exact hdg) hpre
theorem xrun_U {ro iO sel hx0 : Nat} (C : xCtx Γ ad0 σ0 y (d + 1) A H0 p R s m args meth c) (hh0 : xhead (xmeth (xvt sel 0)) hx0 = true) (hh : xhead (xmeth y1) h = true) (hc : xcV (xmeth y).1.cls idx [2, sel, n, k, r, w] ps = true) (hy : y1 = xvt sel ((rC σ).getD iO 0)) (hM : xMet l Γ d y1 (.inr (.inr (ro, some iO)) :: as) σ q ad H.size) (hW : xWd Γ ad0 σ0 A H0 s ad σ H locs) (hle : xle σ q.2) (hf : q.2.2.2.2.2.1 ≤ R.cells + σ0.2.2.2.2.1 ∧ q.2.2.2.2.2.2 ≤ R.slots + σ0.2.2.2.2.2) (hn : as.length = n) (hw : xwords st' ≤ 16) (hsz : lsA.size = (xmeth y).2.2.1) (hro : ro = 16) (hi : iO < xcnt σ ro) (hdg : decode (xmeth y).2.1 pc = .ok (.invokevirtual idx, 3)) :
    va_Run p l e R s m args below meth c H locs (σ.2.2.2.2.1 - σ0.2.2.2.2.1) (σ.2.2.2.2.2 - σ0.2.2.2.2.2) (q.2.2.2.2.2.1 - σ.2.2.2.2.1) (q.2.2.2.2.2.2 - σ.2.2.2.2.2) (F0 m pc lsA ((as.map (xtv ad)).reverse ++ .ref (ad ro iO) :: st'.map (xtv ad))) (st'.map (xtv ad)) (xQc Γ ad σ (va_A (xW Γ ad σ) H.size) q k r ((.inr (.inr (ro, some iO)) :: as : List xV).map (xtv ad)).toArray) (va_A (xW Γ ad σ) H.size) := by
  unfold xcV at hc
  simp only [Bool.and_eq_true, decide_eq_true_eq, List.all_eq_true] at hc
  obtain ⟨⟨⟨⟨⟨⟨hX0, hlk⟩, hsm⟩, hst⟩, hP⟩, hR0⟩, hall⟩ := hc
  have h0 : (xreg ro).1 = 0 := by rw [hro]; decide +kernel
  have hci : xcls σ ro iO = (rC σ).getD iO 0 := by unfold xcls; rw [if_pos hro]
  have hcs : (rC σ).getD iO 0 ∈ xcsr := by
    have h1 := (xcls_in hW.2.2.2.1 h0 hi).1
    rw [hci, if_pos (by rw [hro]; decide +kernel)] at h1
    exact h1
  obtain ⟨j, hj, hjc⟩ : ∃ j, j < 8 ∧ xcsr.getD j 0 = (rC σ).getD iO 0 := by
    obtain ⟨j, hj, e⟩ := List.getElem_of_mem hcs
    exact ⟨j, hj, by rw [List.getD_eq_getElem?_getD, List.getElem?_eq_getElem hj]; exact e⟩
  have hq := hall j (List.mem_range.mpr hj)
  rw [hjc, ← hy] at hq
  obtain ⟨⟨⟨⟨⟨hsl, hst1⟩, hin⟩, hR⟩, hds⟩, hnm⟩ := hq
  obtain ⟨r1, rfl, rfl, r4, r5⟩ := xcR_of hR
  obtain ⟨p1, p2⟩ := xcP_of hP
  have hK := xback (l := l) (e := e) (below := below) C hh hin hM
  have hcd0 := xhead_code hh0
  have hcd := xhead_code hh
  have hPc := xpreS C hW (.inr (.inr (ro, some iO)) :: as)
  obtain ⟨hx, hb, hml, hown, hts, hnw, hK0, -⟩ := C
  refine xrun_of fun T hT X => ?_
  have hlen : ∀ sig, parseMethodDescriptor (xmeth (xvt sel 0)).1.desc = some sig → (as.map (xtv ad)).length = sig.parameters.length := fun sig hs => by rw [List.length_map, hn]; exact p1 sig hs
  have hwd : 2 * (F0 m pc lsA ((as.map (xtv ad)).reverse ++ .ref (ad ro iO) :: st'.map (xtv ad))).monitorRoom + ((st'.map (xtv ad)).map fun v => v.category).sum ≤ 16 := by
    rw [xwords_sum ad st']
    show 2 * 0 + xwords st' ≤ 16
    omega
  have hpre : ∀ vm₁, s.WarmedH vm₁ → PreOf R (q.2.2.2.2.2.1 - σ.2.2.2.2.1) (q.2.2.2.2.2.2 - σ.2.2.2.2.2) (xPc Γ ad σ (.inr (.inr (ro, some iO)) :: as) H.size) ⟨T.setVm vm₁, locs, σ.2.2.2.2.1 - σ0.2.2.2.2.1, σ.2.2.2.2.2 - σ0.2.2.2.2.2⟩ (.ref (ad ro iO) :: as.map (xtv ad)).toArray := fun vm₁ hW₁ => by
    obtain ⟨f1, f2⟩ := xf_room (R := R) (nc := 0) ⟨hW.2.2.2.2.2.2.1, hW.2.2.2.2.2.2.2.1⟩ hle hf
    exact ⟨f1, f2, hPc (T.setVm vm₁) hT hW₁⟩
  obtain ⟨cell, hcell, hsta, hfc, -⟩ := xobj_at hK0 hW h0 hi hci (xcsr_13 _ hcs)
  have hex : (⟨RX0, (xmeth (xvt sel 0)).1.name, (xmeth (xvt sel 0)).1.desc⟩ : MethodName) = (xmeth (xvt sel 0)).1 := by rw [← hX0]
  have hde : va_Decl s ⟨RX0, (xmeth (xvt sel 0)).1.name, (xmeth (xvt sel 0)).1.desc⟩ := by
    rw [hex]
    exact va_Decl.of (hts _ (xg_mem hst).1 (xg_mem hst).2) (hts _ hcd0.1 hcd0.2)
  exact va_callVU X hx hown (hts _ (xg_mem hlk).1 (xg_mem hlk).2) (by rw [hX0]; exact hts _ (xg_mem hsm).1 (xg_mem hsm).2) hde (by rw [← hX0]; exact p2) (hts _ (xg_mem hsl).1 (xg_mem hsl).2) (hts _ (xg_mem hst1).1 (xg_mem hst1).2) (hts _ hcd.1 hcd.2) hK (by rw [hT]; exact hcell) hsta hfc rfl (hsz.trans hml.symm) hlen rfl hwd (by rw [hb]; exact hdg) hpre
theorem xrun_P {ro iO : Nat} (C : xCtx Γ ad0 σ0 y (d + 1) A H0 p R s m args meth c) (hh : xhead (xmeth y1) h = true) (hc : xcS (xmeth y).1.cls idx [3, y1, n, k, r, w] ps = true) (hM : xMet l Γ d y1 (.inr (.inr (ro, some iO)) :: as) σ q ad H.size) (hW : xWd Γ ad0 σ0 A H0 s ad σ H locs) (hle : xle σ q.2) (hf : q.2.2.2.2.2.1 ≤ R.cells + σ0.2.2.2.2.1 ∧ q.2.2.2.2.2.2 ≤ R.slots + σ0.2.2.2.2.2) (hn : as.length = n) (hw : xwords st' ≤ 16) (hsz : lsA.size = (xmeth y).2.2.1) (hro : ro = 16) (hi : iO < xcnt σ ro) (hdg : decode (xmeth y).2.1 pc = .ok (.invokespecial idx, 3)) :
    va_Run p l e R s m args below meth c H locs (σ.2.2.2.2.1 - σ0.2.2.2.2.1) (σ.2.2.2.2.2 - σ0.2.2.2.2.2) (q.2.2.2.2.2.1 - σ.2.2.2.2.1) (q.2.2.2.2.2.2 - σ.2.2.2.2.2) (F0 m pc lsA ((as.map (xtv ad)).reverse ++ .ref (ad ro iO) :: st'.map (xtv ad))) (st'.map (xtv ad)) (xQc Γ ad σ (va_A (xW Γ ad σ) H.size) q k r ((.inr (.inr (ro, some iO)) :: as : List xV).map (xtv ad)).toArray) (va_A (xW Γ ad σ) H.size) := by
  unfold xcS at hc
  simp only [Bool.and_eq_true] at hc
  obtain ⟨⟨hP, hR⟩, hc⟩ := hc
  obtain ⟨r1, r2, r3, r4, r5⟩ := xcR_of hR
  obtain ⟨p1, p2⟩ := xcP_of hP
  have h0 : (xreg ro).1 = 0 := by rw [hro]; decide +kernel
  have hci : xcls σ ro iO = (rC σ).getD iO 0 := by unfold xcls; rw [if_pos hro]
  have hcs : (rC σ).getD iO 0 ∈ xcsr := by
    have h1 := (xcls_in hW.2.2.2.1 h0 hi).1
    rw [hci, if_pos (by rw [hro]; decide +kernel)] at h1
    exact h1
  split at hc
  · rename_i hnm
    simp only [Bool.and_eq_true] at hc
    obtain ⟨⟨⟨hlk, hst⟩, hin⟩, hk0⟩ := hc
    have hk0 := Nat.eq_of_beq_eq_true hk0
    subst hk0
    subst r3
    have hK := xback (l := l) (e := e) (below := below) C hh hin hM
    have hret : (xmeth y1).2.2.2.2.2.1 = none := by
      rcases xhead_kind hh with h1 | h1 | h1 | h1 | h1
      · exact h1.2
      · rw [r2] at h1; exact absurd h1.1 (by decide)
      · rw [r2] at h1; exact absurd h1.1 (by decide)
      · rw [r2] at h1; exact absurd h1.1 (by decide)
      · rw [r2] at h1; exact absurd h1.1 (by decide)
    have hcd := xhead_code hh
    have hPc := xpreS C hW (.inr (.inr (ro, some iO)) :: as)
    obtain ⟨hx, hb, hml, hown, hts, hnw, hK0, -⟩ := C
    refine xrun_of fun T hT X => ?_
    have hlen : ∀ sig, parseMethodDescriptor (xmeth y1).1.desc = some sig → (as.map (xtv ad)).length = sig.parameters.length := fun sig hs => by rw [List.length_map, hn]; exact p1 sig hs
    have hwd : 2 * (F0 m pc lsA ((as.map (xtv ad)).reverse ++ .ref (ad ro iO) :: st'.map (xtv ad))).monitorRoom + ((st'.map (xtv ad)).map fun v => v.category).sum ≤ 16 := by
      rw [xwords_sum ad st']
      show 2 * 0 + xwords st' ≤ 16
      omega
    have hpre : ∀ vm₁, s.WarmedH vm₁ → PreOf R (q.2.2.2.2.2.1 - σ.2.2.2.2.1) (q.2.2.2.2.2.2 - σ.2.2.2.2.2) (xPc Γ ad σ (.inr (.inr (ro, some iO)) :: as) H.size) ⟨T.setVm vm₁, locs, σ.2.2.2.2.1 - σ0.2.2.2.2.1, σ.2.2.2.2.2 - σ0.2.2.2.2.2⟩ (.ref (ad ro iO) :: as.map (xtv ad)).toArray := fun vm₁ hW₁ => by
      obtain ⟨f1, f2⟩ := xf_room (R := R) (nc := 0) ⟨hW.2.2.2.2.2.2.1, hW.2.2.2.2.2.2.2.1⟩ hle hf
      exact ⟨f1, f2, hPc (T.setVm vm₁) hT hW₁⟩
    rw [hret] at hcd
    rw [r2] at hK
    exact callI X hx hown hnm (hts _ (xg_mem hlk).1 (xg_mem hlk).2) (hts _ (xg_mem hst).1 (xg_mem hst).2) (hts _ hcd.1 hcd.2) p2 hK rfl (hsz.trans hml.symm) hlen rfl hwd (by rw [hb]; exact hdg) hpre
  · rename_i hnm
    simp only [Bool.and_eq_true, Bool.or_eq_true, decide_eq_true_eq] at hc
    obtain ⟨⟨⟨⟨⟨hlk, hsm⟩, hsp⟩, hst⟩, hin⟩, hup⟩ := hc
    subst r2
    subst r3
    have hK := xback (l := l) (e := e) (below := below) C hh hin hM
    have hcd := xhead_code hh
    have hPc := xpreS C hW (.inr (.inr (ro, some iO)) :: as)
    obtain ⟨hx, hb, hml, hown, hts, hnw, hK0, -⟩ := C
    refine xrun_of fun T hT X => ?_
    have hlen : ∀ sig, parseMethodDescriptor (xmeth y1).1.desc = some sig → (as.map (xtv ad)).length = sig.parameters.length := fun sig hs => by rw [List.length_map, hn]; exact p1 sig hs
    have hwd : 2 * (F0 m pc lsA ((as.map (xtv ad)).reverse ++ .ref (ad ro iO) :: st'.map (xtv ad))).monitorRoom + ((st'.map (xtv ad)).map fun v => v.category).sum ≤ 16 := by
      rw [xwords_sum ad st']
      show 2 * 0 + xwords st' ≤ 16
      omega
    have hpre : ∀ vm₁, s.WarmedH vm₁ → PreOf R (q.2.2.2.2.2.1 - σ.2.2.2.2.1) (q.2.2.2.2.2.2 - σ.2.2.2.2.2) (xPc Γ ad σ (.inr (.inr (ro, some iO)) :: as) H.size) ⟨T.setVm vm₁, locs, σ.2.2.2.2.1 - σ0.2.2.2.2.1, σ.2.2.2.2.2 - σ0.2.2.2.2.2⟩ (.ref (ad ro iO) :: as.map (xtv ad)).toArray := fun vm₁ hW₁ => by
      obtain ⟨f1, f2⟩ := xf_room (R := R) (nc := 0) ⟨hW.2.2.2.2.2.2.1, hW.2.2.2.2.2.2.2.1⟩ hle hf
      exact ⟨f1, f2, hPc (T.setVm vm₁) hT hW₁⟩
    obtain ⟨cell, hcell, hsta, -, kB, hkB⟩ := xobj_at hK0 hW h0 hi hci (xcsr_13 _ hcs)
    have hcode := hts _ hcd.1 hcd.2
    obtain ⟨mk, methM, hnamed, hmethM, hstM, habM⟩ := Cond.instanceMethod_spec (hts _ (xg_mem hst).1 (xg_mem hst).2)
    obtain ⟨methM', cM, hmethM', -, -, -, -, -, -, hsigM⟩ := Cond.code_spec hnamed hcode
    cases hmethM.symm.trans hmethM'
    obtain ⟨pS, dk, kp, hpS, hdk, hkp, hsuper, -, -, hnid⟩ := Cond.superclass_spec hown (hts _ (xg_mem hsp).1 (xg_mem hsp).2)
    have hfY := findClass_of_methodNamed hnamed
    have hsub : s.vm.isSubclass pS mk.cls = true := by
      rcases hup with hup | hup
      · have hpm : pS = mk.cls := Option.some.inj (hpS.symm.trans (by rw [hup]; exact hfY))
        rw [hpm]
        simp [Vm.isSubclass, Vm.isSubclassAux]
      · obtain ⟨pT, dk2, kp2, hpT, hdk2, hkp2, hsuper2, -⟩ := Cond.superclass_spec hpS (hts _ (xg_mem hup).1 (xg_mem hup).2)
        have hpm : pT = mk.cls := Option.some.inj (hpT.symm.trans hfY)
        subst hpm
        have hlt : pS < s.vm.classes.size := (Array.getElem?_eq_some_iff.mp hdk2).1
        obtain ⟨z, hz⟩ : ∃ z, s.vm.classes.size = z + 1 := Nat.exists_eq_succ_of_ne_zero (Nat.ne_of_gt (Nat.lt_of_le_of_lt (Nat.zero_le _) hlt))
        simp [Vm.isSubclass, Vm.isSubclassAux, hz, hdk2, hsuper2]
    have hdgc : decode c.code (F0 m pc lsA ((as.map (xtv ad)).reverse ++ .ref (ad ro iO) :: st'.map (xtv ad))).pc = .ok (.invokespecial idx, 3) := by rw [hb]; exact hdg
    obtain ⟨vm₁, X₁, hstep₁⟩ := X.invokespecialUp hx hown (hts _ (xg_mem hlk).1 (xg_mem hlk).2) (hts _ (xg_mem hsm).1 (xg_mem hsm).2) hnamed hmethM hstM habM hnm hdk hnid hpS hsuper hsub (a := ad ro iO) (cell := cell) (by rw [hT]; exact hcell)
      (fun z h => by rw [h] at hsta; cases hsta) hkB (g := F0 m pc lsA ((as.map (xtv ad)).reverse ++ .ref (ad ro iO) :: st'.map (xtv ad))) rfl (argsL := as.map (xtv ad)) (rest := st'.map (xtv ad)) (hlen _ hsigM) rfl hdgc
    obtain ⟨v, B, X', hpost, hsteps⟩ := hK m meth c ⟨T.setVm vm₁, locs, σ.2.2.2.2.1 - σ0.2.2.2.2.1, σ.2.2.2.2.2 - σ0.2.2.2.2.2⟩ (F0 m pc lsA (st'.map (xtv ad))) (.invokespecial idx) mk (.ref (ad ro iO) :: as.map (xtv ad)).toArray X₁ rfl (hsz.trans hml.symm) (by rw [hb]; exact hdg) hwd (X₁.named hnamed) (hpre vm₁ X₁.warmed)
    exact ⟨v, vm₁, B, X₁.warmed, X', hpost, fun target h => hstep₁ _ (by rw [doInvoke_state]; exact hsteps.trans h)⟩
end SND
