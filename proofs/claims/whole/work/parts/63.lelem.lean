/-! element OF THE LAW: it catches -/
theorem wk_metH {l : Launch} {y : MethodName} {ws ws' : List Cond} {rm : Room} {Pc : Array Value → State → Prop} {Qc : Array Value → State → Outcome → State → Prop} {mc ms : Nat} {free : Addr → Prop} {cc : ByteArray} {maxL : Nat} {ret : Option FieldType} {hh : List (Nat × Nat × Nat × Nat)} (hy : plainName y.cls = true) (hw : ws = Cond.codeWith y cc maxL ret hh :: ws')
    (body : ∀ p e s m args below meth c s₁, BodyLoose p l y (headSpec ws rm) cc maxL ret e s m args below meth c s₁ → c.maxLocals = maxL → Pc args s → W p l e (headSpec ws rm).room s m args below meth c s.heap [] 0 0 (MQ below Qc args s mc ms free) (entryFrame m args maxL)) : Met l y ws rm Pc Qc mc ms free := by
  refine MetFree.of_bodyS (code := cc) (maxLocals := maxL) (ret := ret) hy ?_ ?_
  · intro args s m h hn
    obtain ⟨m9, meth, c, hn9, h1, h2, h3, h4, -, h5, h6, -⟩ := Cond.codeWith_spec (atoms_spec (ws := ws) h _ (by rw [hw]; exact List.mem_cons_self))
    cases hn.symm.trans hn9
    exact ⟨meth, c, h1, h2, h3, h4, h5, h6⟩
  · intro p e s m args below meth c s₁ B hml hP _
    have hh0 : s₁.heap = s.heap := by rw [B.state]; rfl
    obtain ⟨t, a1, o, b1, b2, b3⟩ := body p e s m args below meth c s₁ B hml hP s₁ hh0 (Stand.of_body B)
    exact ⟨t, o, a1, b1, b2, b3⟩
theorem wePre_blind {Γ : xΓ} {ad : Nat → Nat → Nat} {σ : xS} {as : List xV} {sz : Nat} : FrameBlind (wePre Γ ad σ as sz) := fun a U g mk q => by
  obtain ⟨q1, q2, q3⟩ := q
  exact ⟨xPc_blind a U g mk q1, fun w h1 h2 => xne_same (u := U) (U := U.calling g mk a) h2 rfl (q2 w h1 h2), wkS.moved (u := U) (U := U.calling g mk a) (Vm.Alike.refl U.vm) q3⟩
section WL
variable {p : Program} {s : State} {m : MethodId} {args : Array Value} {c : Code} {H : Heap} {locs : List Loc} {cc : ByteArray} {nL : Nat} {A : Nat → Prop} {Γ : xΓ} {ad : Nat → Nat → Nat} {σ : xS}
theorem wk_wePre {own : String} (C : wkC p s m args c cc nL own Γ ad σ A) (hP : va_P Γ.1 vwCl (xW Γ ad σ) H) (hS : va_S A s.heap H locs) (as : List xV) : PreS s H (wePre Γ ad σ as H.size) (as.map (xtv ad)) := by
  have h1 := wk_xPc C hP hS as
  have h2 := wk_freeA C hS
  obtain ⟨hx, hb, hml, hown, hts, hnd, hK, hwf, hD, hA, hsc, hZ⟩ := C
  refine ⟨wePre_blind, fun U hU hW => ⟨h1.2 U hU hW, fun w g1 g2 => xne_warm g2 hW (hnd w g1 g2), ?_⟩⟩
  rw [hU]
  exact wkS.moved hW.alike ((hZ.kept (fun a g1 g2 => hS.2.1 a g1 g2)).narrow h2)
end WL
def leHH : List (Nat × Nat × Nat × Nat) := [(0, 9, 12, 13), (0, 9, 16, 15)]
theorem xW_wN {Γ : xΓ} {ad : Nat → Nat → Nat} {σ : xS} {a b : Nat} : xW Γ ad (wN σ a b) = xW Γ ad σ := rfl
/-- the state behind the law's element, at its cells -/
theorem xE_case (σ : xS) (d i : Int32) : (weOut σ d ∧ xElem σ d i = (1, wN σ 1 8)) ∨ (¬ weOut σ d ∧ weNo σ d i ∧ xElem σ d i = (2, wN σ 1 8)) ∨ (¬ weOut σ d ∧ ¬ weNo σ d i ∧ xElem σ d i = (0, wL (wN σ 1 8) 35 0 0 (rI σ 15 d.toNatClampNeg i.toNatClampNeg).toInt64)) := by
  unfold xElem
  by_cases h1 : weOut σ d
  · exact Or.inl ⟨h1, if_pos h1⟩
  · by_cases h2 : weNo σ d i
    · exact Or.inr (Or.inl ⟨h1, h2, (if_neg h1).trans (if_pos h2)⟩)
    · exact Or.inr (Or.inr ⟨h1, h2, (if_neg h1).trans (if_neg h2)⟩)
theorem xpre_wN {σ : xS} {a b : Nat} : xpre σ (wN σ a b) := ⟨⟨[], (List.append_nil _).symm⟩, Nat.le_add_right _ _, Nat.le_add_right _ _, fun _ => rfl⟩
theorem xset_35 {Γ : xΓ} {ad : Nat → Nat → Nat} {σ : xS} {A : Nat → Prop} {q : Nat} (x : Int64) (hD : va_D A (xW Γ ad σ)) (hq : (xnm σ)[q]? = some (35, 0)) : (xW Γ ad σ).set q (ad 35 0, .inl (Γ.2.2.1, 1, .inr (.inl (vp_updL (rL σ 35 0) (0 : Int32).toNatClampNeg x)))) = xW Γ ad (wL (wN σ 1 8) 35 0 0 x) := by
  have h35 : (xreg 35).2.1 = 1 := by decide +kernel
  have hc : (.inl (Γ.2.2.1, 1, .inr (.inl (vp_updL (rL σ 35 0) (0 : Int32).toNatClampNeg x))) : va_E) = xcell Γ ad (wL (wN σ 1 8) 35 0 0 x) 35 0 := by
    rw [xcell_longs (by decide +kernel), h35, rL_wL, if_pos ⟨rfl, rfl⟩]
    rfl
  rw [hc]
  exact xW_set (xnm_C rfl) hD hq (fun r' i' hne => xcell_same (xcls_C rfl r' i') rfl (by rw [rL_wL, if_neg hne]; rfl) rfl)
/-- what is given of the exceptions' classes -/
def weNc (U : State) : Prop := va_Nc "java/lang/IllegalStateException" "java/lang/IllegalArgumentException" U ∧ va_Nc "java/lang/IllegalArgumentException" "java/lang/IllegalStateException" U ∧ va_Nc "java/lang/UnsupportedOperationException" "java/lang/IllegalStateException" U ∧ va_Nc "java/lang/UnsupportedOperationException" "java/lang/IllegalArgumentException" U
theorem weNc.moved {u U : State} (hvm : u.vm.Alike U.vm) (h : weNc u) : weNc U := ⟨va_Nc.moved hvm h.1, va_Nc.moved hvm h.2.1, va_Nc.moved hvm h.2.2.1, va_Nc.moved hvm h.2.2.2⟩
def wcPre (Γ : xΓ) (ad : Nat → Nat → Nat) (σ : xS) (as : List xV) (sz : Nat) : Array Value → State → Prop := fun v U => wePre Γ ad σ as sz v U ∧ weNc U
theorem wcPre_blind {Γ : xΓ} {ad : Nat → Nat → Nat} {σ : xS} {as : List xV} {sz : Nat} : FrameBlind (wcPre Γ ad σ as sz) := fun a U g mk q => ⟨wePre_blind a U g mk q.1, weNc.moved (u := U) (U := U.calling g mk a) (Vm.Alike.refl U.vm) q.2⟩
