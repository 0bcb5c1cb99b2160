/-! element OF THE LAW: it catches -/
theorem wk_metH {l : Launch} {y : MethodName} {ws ws' : List Cond} {rm : Room} {Pc : Array Value → State → Prop} {Qc : Array Value → State → Outcome → State → Prop} {mc ms : Nat} {free : Addr → Prop} {cc : ByteArray} {maxL : Nat} {ret : Option FieldType} {hh : List (Nat × Nat × Nat × Nat)} (hy : plainName y.cls = true) (hw : ws = Cond.codeWith y cc maxL ret hh :: ws')
    (body : ∀ p e s m args below meth c s₁, BodyLoose p l y (headSpec ws rm) cc maxL ret e s m args below meth c s₁ → c.maxLocals = maxL → Pc args s → W p l e (headSpec ws rm).room s m args below meth c s.heap [] 0 0 (MQ below Qc args s mc ms free) (entryFrame m args maxL)) : Met l y ws rm Pc Qc mc ms free := by
  refine MetFree.of_bodyS (code := cc) (maxLocals := maxL) (ret := ret) hy ?_ ?_
  · intro args s m h hn
    obtain ⟨m9, meth, c, hn9, h1, h2, h3, h4, -, h5, h6, -⟩ := Cond.codeWith_spec (atoms_spec (ws := ws) h _ (by rw [hw]; exact List.mem_cons_self))
    cases hn.symm.trans hn9
    exact ⟨meth, c, h1, h2, h3, h4, h5, h6⟩
  · intro p e s m args below meth c s₁ B hml hP _
    have hh0 : s₁.heap = s.heap := by rw [B.state]; rfl
    obtain ⟨t, a1, o, b1, b2, b3⟩ := body p e s m args below meth c s₁ B hml hP s₁ hh0 (Stand.of_body B)
    exact ⟨t, o, a1, b1, b2, b3⟩
theorem wePre_blind {Γ : xΓ} {ad : Nat → Nat → Nat} {σ : xS} {as : List xV} {sz : Nat} : FrameBlind (wePre Γ ad σ as sz) := fun a U g mk q => by
  obtain ⟨q1, q2, q3⟩ := q
  exact ⟨xPc_blind a U g mk q1, fun w h1 h2 => va_Nw.same (xnd_tab h2) rfl (q2 w h1 h2), wkS.moved (u := U) (U := U.calling g mk a) (Vm.Alike.refl U.vm) q3⟩
section WL
variable {p : Program} {s : State} {m : MethodId} {args : Array Value} {c : Code} {H : Heap} {locs : List Loc} {cc : ByteArray} {nL : Nat} {A : Nat → Prop} {Γ : xΓ} {ad : Nat → Nat → Nat} {σ : xS}
theorem wk_wePre {own : String} (C : wkC p s m args c cc nL own Γ ad σ A) (hP : va_P Γ.1 vwCl (xW Γ ad σ) H) (hS : va_S A s.heap H locs) (as : List xV) : PreS s H (wePre Γ ad σ as H.size) (as.map (xtv ad)) := by
  have h1 := wk_xPc C hP hS as
  have h2 := wk_freeA C hS
  obtain ⟨hx, hb, hml, hown, hts, hnd, hK, hwf, hD, hA, hsc, hZ⟩ := C
  refine ⟨wePre_blind, fun U hU hW => ⟨h1.2 U hU hW, fun w g1 g2 => xnd_warm g2 hW (hnd w g1 g2), ?_⟩⟩
  rw [hU]
  exact wkS.moved hW.alike ((hZ.kept (fun a g1 g2 => hS.2.1 a g1 g2)).narrow h2)
end WL
