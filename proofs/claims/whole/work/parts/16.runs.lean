/-! THE KINDS OF CALLS, THE ENDS, THE ENTRY -/
theorem xcP_of {x : MethodName} {n : Nat} (h : xcP x n = true) : (∀ sig, parseMethodDescriptor x.desc = some sig → n = sig.parameters.length) ∧ x.cls ≠ "java/lang/invoke/MethodHandle" ∧ x.cls ≠ "java/lang/invoke/VarHandle" := by
  unfold xcP at h
  simp only [Bool.and_eq_true, decide_eq_true_eq] at h
  refine ⟨fun sig hs => ?_, h.1.2, h.2⟩
  have h1 := h.1.1
  rw [hs] at h1
  exact (Option.some.inj h1).symm
theorem xcR_of {y1 k r w : Nat} (h : xcR y1 k r w = true) : w ≤ (xmeth y1).2.2.1 ∧ (xmeth y1).2.2.2.1 = k ∧ (xmeth y1).2.2.2.2.1 = r ∧ y1 < xMeth.length ∧ y1 ≠ 79 := by
  unfold xcR at h
  simp only [Bool.and_eq_true, Bool.not_eq_true'] at h
  refine ⟨Nat.le_of_ble_eq_true h.1.1.1.1, Nat.eq_of_beq_eq_true h.1.1.1.2, Nat.eq_of_beq_eq_true h.1.1.2, Nat.le_of_ble_eq_true h.1.2, fun e => ?_⟩
  rw [e] at h
  exact absurd h.2 (by decide)
theorem xhead_kind {m : xM} {i : Nat} (h : xhead m i = true) : (m.2.2.2.1 = 0 ∧ m.2.2.2.2.2.1 = none) ∨ (m.2.2.2.1 = 1 ∧ m.2.2.2.2.2.1 = some .int) ∨ (m.2.2.2.1 = 2 ∧ m.2.2.2.2.2.1 = some .long) ∨ (m.2.2.2.1 = 4 ∧ m.2.2.2.2.2.1 = some .boolean) ∨ (m.2.2.2.1 = 3 ∧ ∃ n, m.2.2.2.2.2.1 = some (.object n)) := by
  obtain ⟨nm, bytes, maxL, rk, rr, rt, code, ks⟩ := m
  unfold xhead at h
  simp only [Bool.and_eq_true] at h
  obtain ⟨-, h⟩ := h
  dsimp only
  split at h
  · exact Or.inl ⟨rfl, rfl⟩
  · exact Or.inr (Or.inl ⟨rfl, rfl⟩)
  · exact Or.inr (Or.inr (Or.inl ⟨rfl, rfl⟩))
  · exact Or.inr (Or.inr (Or.inr (Or.inl ⟨rfl, rfl⟩)))
  · exact Or.inr (Or.inr (Or.inr (Or.inr ⟨rfl, _, rfl⟩)))
  · cases h
theorem xhead_code {m : xM} {i : Nat} (h : xhead m i = true) : Jvm.Cond.code m.1 m.2.1 m.2.2.1 m.2.2.2.2.2.1 ∈ lw_tbl ∧ goodWord (Jvm.Cond.code m.1 m.2.1 m.2.2.1 m.2.2.2.2.2.1) = true := by
  obtain ⟨nm, bytes, maxL, rk, rr, rt, code, ks⟩ := m
  unfold xhead at h
  simp only [Bool.and_eq_true] at h
  exact xg_mem h.1.1.1
theorem xhead_plain {m : xM} {i : Nat} (h : xhead m i = true) : plainName m.1.cls = true := by
  obtain ⟨nm, bytes, maxL, rk, rr, rt, code, ks⟩ := m
  unfold xhead at h
  simp only [Bool.and_eq_true] at h
  exact h.1.1.2
section SND
variable {p : Program} {l : Launch} {e : Env} {R : Room} {s : State} {m : MethodId} {args : Array Value} {below : List Frame} {meth : Method} {c : Code} {Q : State → Prop}
variable {Γ : xΓ} {y d : Nat} {A : Nat → Prop} {H0 : Heap} {σ0 : xS} {ad0 : Nat → Nat → Nat}
variable {ad : Nat → Nat → Nat} {σ : xS} {H : Heap} {locs : List Loc} {lsA : Array Slot} {as st' : List xV} {q : xR} {y1 h idx n k r w pc : Nat} {ps : List Nat}
theorem xf_room {nc : Nat} (hpre : σ0.2.2.2.2.1 ≤ σ.2.2.2.2.1 ∧ σ0.2.2.2.2.2 ≤ σ.2.2.2.2.2) (hle : xle σ q.2) (hf : q.2.2.2.2.2.1 ≤ R.cells + σ0.2.2.2.2.1 ∧ q.2.2.2.2.2.2 ≤ R.slots + σ0.2.2.2.2.2) : (σ.2.2.2.2.1 - σ0.2.2.2.2.1) + (q.2.2.2.2.2.1 - σ.2.2.2.2.1) ≤ R.cells ∧ (σ.2.2.2.2.2 - σ0.2.2.2.2.2) + (q.2.2.2.2.2.2 - σ.2.2.2.2.2) ≤ R.slots := by
  have h1 := hle.1
  have h2 := hle.2
  omega
theorem xrun_S (C : xCtx Γ ad0 σ0 y (d + 1) A H0 p R s m args meth c) (hh : xhead (xmeth y1) h = true) (hc : xcC (xmeth y).1.cls idx [0, y1, n, k, r, w] ps = true) (hM : xMet l Γ d y1 as σ q ad H.size) (hW : xWd Γ ad0 σ0 A H0 s ad σ H locs) (hle : xle σ q.2) (hf : q.2.2.2.2.2.1 ≤ R.cells + σ0.2.2.2.2.1 ∧ q.2.2.2.2.2.2 ≤ R.slots + σ0.2.2.2.2.2) (hn : as.length = n) (hw : xwords st' ≤ 16) (hsz : lsA.size = (xmeth y).2.2.1) (hdg : decode (xmeth y).2.1 pc = .ok (.invokestatic idx, 3)) :
    va_Run p l e R s m args below meth c H locs (σ.2.2.2.2.1 - σ0.2.2.2.2.1) (σ.2.2.2.2.2 - σ0.2.2.2.2.2) (q.2.2.2.2.2.1 - σ.2.2.2.2.1) (q.2.2.2.2.2.2 - σ.2.2.2.2.2) (F0 m pc lsA ((as.map (xtv ad)).reverse ++ st'.map (xtv ad))) (st'.map (xtv ad)) (xQc Γ ad σ (va_A (xW Γ ad σ) H.size) q k r (as.map (xtv ad)).toArray) (va_A (xW Γ ad σ) H.size) := by
  unfold xcC at hc
  simp only [Bool.and_eq_true, Bool.or_eq_true] at hc
  obtain ⟨⟨⟨⟨hlk, hst⟩, hin⟩, hP⟩, hR⟩ := hc
  obtain ⟨r1, rfl, rfl, r4, r5⟩ := xcR_of hR
  obtain ⟨p1, p2⟩ := xcP_of hP
  have hK := xback (l := l) (e := e) (below := below) C hh hin hM
  have hcd := xhead_code hh
  have hPc := xpreS C hW as
  obtain ⟨hx, hb, hml, hown, hts, hnw, -⟩ := C
  refine xrun_of fun T hT X => ?_
  have hlen : ∀ sig, parseMethodDescriptor (xmeth y1).1.desc = some sig → (as.map (xtv ad)).length = sig.parameters.length := fun sig hs => by rw [List.length_map, hn]; exact p1 sig hs
  have hwd : 2 * (F0 m pc lsA ((as.map (xtv ad)).reverse ++ st'.map (xtv ad))).monitorRoom + ((st'.map (xtv ad)).map fun v => v.category).sum ≤ 16 := by
    rw [xwords_sum ad st']
    show 2 * 0 + xwords st' ≤ 16
    omega
  have hpre : ∀ vm₁, s.WarmedH vm₁ → PreOf R (q.2.2.2.2.2.1 - σ.2.2.2.2.1) (q.2.2.2.2.2.2 - σ.2.2.2.2.2) (xPc Γ ad σ as H.size) ⟨T.setVm vm₁, locs, σ.2.2.2.2.1 - σ0.2.2.2.2.1, σ.2.2.2.2.2 - σ0.2.2.2.2.2⟩ (as.map (xtv ad)).toArray := fun vm₁ hW₁ => by
    obtain ⟨f1, f2⟩ := xf_room (R := R) (nc := 0) ⟨hW.2.2.2.2.2.2.1, hW.2.2.2.2.2.2.2.1⟩ hle hf
    exact ⟨f1, f2, hPc (T.setVm vm₁) hT hW₁⟩
  rcases hlk with hlk | hlk
  · exact callS X hx hown (hts _ (xg_mem hlk).1 (xg_mem hlk).2) (hts _ (xg_mem hst).1 (xg_mem hst).2) (hts _ (xg_mem hin).1 (xg_mem hin).2) (hts _ hcd.1 hcd.2) p2 hK rfl (hsz.trans hml.symm) hlen rfl hwd (by rw [hb]; exact hdg) hpre
  · exact va_callSN X hx hown (va_Nw.use rfl (hnw _ (xw_mem hlk) rfl)) (hts _ (xg_mem hst).1 (xg_mem hst).2) (hts _ (xg_mem hin).1 (xg_mem hin).2) (hts _ hcd.1 hcd.2) p2 hK rfl (hsz.trans hml.symm) hlen rfl hwd (by rw [hb]; exact hdg) hpre
end SND
