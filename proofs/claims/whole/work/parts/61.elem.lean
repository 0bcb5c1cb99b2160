/-! element OF THE CLASS: it returns or throws -/
section WE
variable {p : Program} {l : Launch} {e : Env} {R : Room} {s : State} {m : MethodId} {args : Array Value} {below : List Frame} {meth : Method} {c : Code} {H : Heap} {locs : List Loc} {cells slots : Nat} {Q : State → Prop}
variable {cc : ByteArray} {pc nL : Nat} {ls : Array Slot} {rest st0 : List Value} {A : Nat → Prop} {Γ : xΓ} {ad : Nat → Nat → Nat} {σ : xS}
theorem wk_get0 (C : wkC p s m args c cc nL RX11 Γ ad σ A) (hP : va_P Γ.1 vwCl (xW Γ ad σ) H) {k idx : Nat} (hk : k < 9) (hw : Jvm.Cond.fieldLink RX11 idx RX11 (TX11 k).2.1 (TX11 k).2.2.1 ∈ lw_tbl ∧ goodWord (Jvm.Cond.fieldLink RX11 idx RX11 (TX11 k).2.1 (TX11 k).2.2.1) = true) (hT : (TX11 k).1 = RX11) {v : Value} (hv : (xfs ad 0 0 (rI σ 0 0) (rL σ 0 0) (rP σ 0 0))[k]? = some v) (hdg : decode cc pc = .ok (.getfield idx, 3)) (kk : W p l e R s m args below meth c H locs cells slots Q (F0 m (pc + 3) ls (v :: rest))) : W p l e R s m args below meth c H locs cells slots Q (F0 m pc ls (.ref (ad 0 0) :: rest)) := by
  obtain ⟨hx, hb, hml, hown, hts, hnd, hK, hwf, hD, hA, hsc, hZ⟩ := C
  obtain ⟨q, hq, -⟩ := xW_get Γ ad (σ := σ) (r := 0) (i := 0) (by decide) (by show 0 < xcnt σ 0; exact Nat.zero_lt_one)
  rw [xcell_obj (by decide +kernel)] at hq
  exact va_get hx hb (xTs_of hts) (xcl_ws (ci := 11) rfl) hown hK hP q hq rfl k hk (hts _ hw.1 hw.2) (fun x h => by rw [← hT]; exact h) hv hdg kk
theorem wk_hold (C : wkC p s m args c cc nL RX11 Γ ad σ A) (hP : va_P Γ.1 vwCl (xW Γ ad σ) H) {v : Int32} (hv : inb v 8) (hdg : decode cc pc = .ok (.iaload, 1)) (kk : W p l e R s m args below meth c H locs cells slots Q (F0 m (pc + 1) ls (.int (rI σ 11 0 v.toNatClampNeg) :: rest))) : W p l e R s m args below meth c H locs cells slots Q (F0 m pc ls (.int v :: .ref (ad 11 0) :: rest)) := by
  obtain ⟨hx, hb, hml, hown, hts, hnd, hK, hwf, hD, hA, hsc, hZ⟩ := C
  obtain ⟨q, hq, -⟩ := xW_get Γ ad (σ := σ) (r := 11) (i := 0) (by decide) (by show 0 < xcnt σ 11; exact Nat.zero_lt_one)
  rw [xcell_ints (by decide +kernel)] at hq
  obtain ⟨k, hk, rfl⟩ := inb_of hv (by decide)
  exact va_iald hx hb hK hP q 0 hq rfl (by
    show vp_in (nI k) 8
    unfold vp_in
    rw [n_lt0 (by omega), n_cl (by omega)]
    rintro (h | h)
    · exact h
    · omega) hdg kk
theorem wk_row (C : wkC p s m args c cc nL RX11 Γ ad σ A) (hP : va_P Γ.1 vwCl (xW Γ ad σ) H) {k : Nat} (hk : k < 8) (hdg : decode cc pc = .ok (.aaload, 1)) (kk : W p l e R s m args below meth c H locs cells slots Q (F0 m (pc + 1) ls (.ref (ad 14 k) :: rest))) : W p l e R s m args below meth c H locs cells slots Q (F0 m pc ls (.int (nI k) :: .ref (ad 13 0) :: rest)) := by
  obtain ⟨hx, hb, hml, hown, hts, hnd, hK, hwf, hD, hA, hsc, hZ⟩ := C
  obtain ⟨q, hq, -⟩ := xW_get Γ ad (σ := σ) (r := 13) (i := 0) (by decide) (by show 0 < xcnt σ 13; exact Nat.zero_lt_one)
  rw [xcell_fixed (by decide +kernel)] at hq
  refine va_aldq hx hb hK hP q 3 hq rfl (by
    show vp_in (nI k) 8
    unfold vp_in
    rw [n_lt0 (by omega), n_cl (by omega)]
    rintro (h | h)
    · exact h
    · omega) hdg ?_
  rw [n_cl (by omega)]
  have h13 : (xreg 13).2.1 = 8 := by decide +kernel
  rw [h13, if_pos hk]
  exact kk
end WE
/-- what a walk of the class's element or toss finds, beside its arguments -/
def wePre (Γ : xΓ) (ad : Nat → Nat → Nat) (σ : xS) (as : List xV) (sz : Nat) : Array Value → State → Prop := fun v U =>
  xPc Γ ad σ as sz v U ∧ (∀ w ∈ lw_tbl, xne w = true → va_Nw w U) ∧ wkS (va_A (xW Γ ad σ) sz) U U.heap
def weOut (σ : xS) (d : Int32) : Prop := d < 0 ∨ 8 ≤ d
def weNo (σ : xS) (d i : Int32) : Prop := ¬ rI σ 11 0 d.toNatClampNeg = 2 ∨ i < 0 ∨ rI σ 14 d.toNatClampNeg 2 ≤ i ∨ 100 ≤ i
def weQc (Γ : xΓ) (ad : Nat → Nat → Nat) (σ : xS) (d i : Int32) (sz : Nat) : Array Value → State → Outcome → State → Prop := va_Ql (fun (r : Int64) (_ : Unit) => ¬ weOut σ d ∧ ¬ weNo σ d i ∧ r = (rI σ 15 d.toNatClampNeg i.toNatClampNeg).toInt64) (fun _ t => va_P Γ.1 vwCl (xW Γ ad σ) t.heap) (va_A (xW Γ ad σ) sz)
def weXC (Γ : xΓ) (ad : Nat → Nat → Nat) (σ : xS) (d i : Int32) (sz : Nat) : String → State → State → Prop := vx_X (fun _ : Unit => True) (fun E _ t => va_P Γ.1 vwCl (xW Γ ad σ) t.heap ∧ ((E = "java/lang/IllegalArgumentException" ∧ weOut σ d) ∨ (E = "java/lang/IllegalStateException" ∧ ¬ weOut σ d ∧ weNo σ d i))) (va_A (xW Γ ad σ) sz)
theorem we_out {d : Int32} (σ : xS) : weOut σ d ↔ ¬ inb d 8 := by
  unfold weOut inb
  rw [Int32.lt_iff_toInt_lt, Int32.le_iff_toInt_le]
  have h0 : (0 : Int32).toInt = 0 := by decide
  have h8 : (8 : Int32).toInt = 8 := by decide
  rw [h0, h8]
  omega
theorem we_has (σ : xS) {k : Nat} (i : Int32) : run 1 (xentry 124 [.inr (.inr (14, (some k))), .inl i] σ) = some ((bI (¬ (i < 0 ∨ rI σ 14 k 2 ≤ i ∨ 100 ≤ i)), 0, none), σ) := by
  rw [show (1 : Nat) = 0 + 1 from rfl, B124_0]
  by_cases h1 : i < 0
  · rw [xite_t h1, bI, xite_f (by simp [h1])]
    rfl
  · rw [xite_f h1]
    by_cases h2 : rI σ 14 k 2 ≤ i
    · rw [xite_t h2, bI, xite_f (by simp [h2])]
      rfl
    · rw [xite_f h2]
      by_cases h3 : nI 100 ≤ i
      · have h3' : (100 : Int32) ≤ i := h3
        rw [xite_t h3, bI, xite_f (by simp [h3'])]
        rfl
      · have h3' : ¬ (100 : Int32) ≤ i := h3
        rw [xite_f h3, bI, xite_t (by simp [h1, h2, h3'])]
        rfl
theorem we_cell (σ : xS) {k : Nat} (i : Int32) (h : ¬ (i < 0 ∨ rI σ 14 k 2 ≤ i ∨ 100 ≤ i)) : run 2 (xentry 126 [.inr (.inr (14, (some k))), .inl i] σ) = some ((rI σ 15 k i.toNatClampNeg, 0, none), σ) := by
  rw [show (2 : Nat) = 1 + 1 from rfl, B126_0, we_has σ i, bI_t h]
  have h1 : ¬ i < 0 := fun g => h (Or.inl g)
  have h2 : ¬ (100 : Int32) ≤ i := fun g => h (Or.inr (Or.inr g))
  have h3 : ¬ (i < 0 ∨ 100 ≤ i.toNatClampNeg) := by
    rintro (g | g)
    · exact h1 g
    · refine h2 ?_
      rw [Int32.le_iff_toInt_le]
      have e : (100 : Int32).toInt = 100 := by decide
      rw [e]
      unfold Int32.toNatClampNeg at g
      omega
  show xite (nI 1 = 0) _ _ = _
  rw [xite_f (by decide), xite_t h3]
