/-! CALLS OF THE MACHINE'S METHODS FROM OTHER WALKS: methods that leave the state as it was -/
theorem xmet_run {l : Launch} {d y1 h sz : Nat} {Γ : xΓ} {as : List xV} {σ : xS} {q : xR} {ad : Nat → Nat → Nat} {A : Nat → Prop} (hh : xhead (xmeth y1) h = true) (hRL : (xmeth y1).1.cls ≠ RL) (hlt : y1 < xMeth.length) (he : run d (xentry y1 as σ) = some q) (hwd : xwords as ≤ (xmeth y1).2.2.1) (hok : xokS σ as) (hwf : xwf σ) (hD : va_D A (xW Γ ad σ)) : xMet l Γ d y1 as σ q ad sz := by
  obtain ⟨n, hn⟩ := run_iff.mp he
  exact xmet_of (xmain_all l n) hh hRL hlt hn hwd hok hwf hD
section WP
variable {p : Program} {l : Launch} {e : Env} {R : Room} {s : State} {m : MethodId} {args : Array Value} {below : List Frame} {meth : Method} {c : Code} {H : Heap} {locs : List Loc} {cells slots : Nat} {Q : State → Prop}
variable {cc : ByteArray} {pc nL : Nat} {ls : Array Slot} {rest st0 : List Value} {A A1 : Nat → Prop} {H0 : Heap} {Γ : xΓ} {ad : Nat → Nat → Nat} {σ : xS} {mc ms : Nat} {free : Addr → Prop} {aa : Array Value}
theorem wk_cons {v : Int32} {k : Nat} (hk : k = 1 ∨ k = 4) (hr : va_Run p l e R s m args below meth c H locs cells slots mc ms (F0 m pc ls st0) rest (xQc Γ ad σ A1 ((v, 0, none), σ) k 0 aa) free) (hwf : xwf σ) (hS : va_S A H0 H locs) (hA : ∀ q, q < H.size → A1 q → A q) (hf : ∀ q, free q → A q)
    (kk : ∀ (H1 : Heap) (locs1 : List Loc), va_P Γ.1 vwCl (xW Γ ad σ) H1 → va_S A H0 H1 locs1 → H.size ≤ H1.size → (∀ q : Nat, q < H.size → ¬ A1 q → H1[q]? = H[q]?) → W p l e R s m args below meth c H1 locs1 (cells + mc) (slots + ms) Q (F0 m (pc + 3) ls (.int v :: rest))) : W p l e R s m args below meth c H locs cells slots Q (F0 m pc ls st0) := by
  intro T hT X
  obtain ⟨w, st₀, t, T', L, h0, X', hL, e1, e2, ⟨⟨ad', hag, ho, hP1, hD1, hwf1, hpre, hok⟩, hF⟩, st⟩ := hr T hT X
  obtain ⟨k1, k2, k3⟩ := vx_keep h0 e1 hS hA hf hL hF
  have hw : w = some (.int v) := by
    rcases hk with hk | hk <;> subst hk <;> exact Outcome.returned.inj ho
  subst hw
  have hP2 : va_P Γ.1 vwCl (xW Γ ad σ) T'.heap := by
    rw [e1, ← xW_agr hwf hag]
    exact hP1
  obtain ⟨t2, a1, b1⟩ := kk T'.heap (locs ++ L) hP2 k3 k1 k2 T' rfl X'
  exact ⟨t2, st t2 a1, b1⟩
/-- what stays true at every point of such a walk -/
def wkC (p : Program) (s : State) (m : MethodId) (args : Array Value) (c : Code) (cc : ByteArray) (nL : Nat) (own : String) (Γ : xΓ) (ad : Nat → Nat → Nat) (σ : xS) (A : Nat → Prop) : Prop :=
  p.tables.exec = Jvm.exec ∧ c.code = cc ∧ c.maxLocals = nL ∧ s.vm.findClass own = some m.cls ∧ (∀ w ∈ lw_tbl, goodWord w = true → w.before args s = true) ∧ (∀ w ∈ lw_tbl, xne w = true → va_Nw w s) ∧ va_K Γ.1 vwCl (xtys Γ) s ∧ xwf σ ∧ va_D A (xW Γ ad σ) ∧ (∀ q, s.heap.size ≤ q → A q) ∧ xscr ad σ s s.heap A ∧ wkS A s s.heap
theorem xnest_d {w : Jvm.Cond} (h : xnest w = true) : xnd w = true := by
  unfold xnd
  split
  · rfl
  · exact h
theorem wk_xPc {own : String} (C : wkC p s m args c cc nL own Γ ad σ A) (hP : va_P Γ.1 vwCl (xW Γ ad σ) H) (hS : va_S A s.heap H locs) (as : List xV) : PreS s H (xPc Γ ad σ as H.size) (as.map (xtv ad)) := by
  obtain ⟨hx, hb, hml, hown, hts, hnd, hK, hwf, hD, hA, hsc, hZ⟩ := C
  refine ⟨xPc_blind, fun U hU hW => ⟨rfl, by rw [hU], by rw [hU]; exact hP, fun w h1 h2 => xnw_warm h2 hW (hnd w h1 (xne_d (xnest_d h2))), va_K.moved hW.alike hK, ?_⟩⟩
  refine xscr_moved hW.alike ?_
  obtain ⟨L, xs, h1, h2, h3, h4, h5, h6⟩ := hsc
  rw [hU]
  refine ⟨L, xs, va_X.kept h1 (hS.2.1 _ h2 h3), Nat.lt_of_lt_of_le h2 hS.1, fun h => ?_, h4, h5, h6⟩
  rcases h with ⟨k, z, hz⟩ | h
  · exact h3 (hD.2 k _ hz)
  · exact absurd (Nat.lt_of_lt_of_le h2 hS.1) (Nat.not_lt.mpr h)
theorem wk_freeA {own : String} (C : wkC p s m args c cc nL own Γ ad σ A) (hS : va_S A s.heap H locs) : ∀ q, va_A (xW Γ ad σ) H.size q → A q := by
  obtain ⟨hx, hb, hml, hown, hts, hnd, hK, hwf, hD, hA, hsc, hZ⟩ := C
  intro q h
  rcases h with ⟨k, z, hz⟩ | h
  · exact hD.2 k _ hz
  · exact hA q (Nat.le_trans hS.1 h)
/-- a static method -/
theorem wk_pureS {own : String} (C : wkC p s m args c cc nL own Γ ad σ A) (hP : va_P Γ.1 vwCl (xW Γ ad σ) H) (hS : va_S A s.heap H locs) {y1 d n index h : Nat} {as : List xV} {v : Int32} (hh : xhead (xmeth y1) h = true) (hRL : (xmeth y1).1.cls ≠ RL) (hlt : y1 < xMeth.length) (he : run d (xentry y1 as σ) = some ((v, 0, none), σ)) (hwd : xwords as ≤ (xmeth y1).2.2.1) (hok : xokS σ as)
    (cw : CallB R s args own index (xmeth y1).1 (xmeth y1).2.1 (xmeth y1).2.2.1 (xmeth y1).2.2.2.2.2.1 (xws y1) (xrm d σ ((v, 0, none), σ)) (σ.2.2.2.2.1 - σ.2.2.2.2.1) (σ.2.2.2.2.2 - σ.2.2.2.2.2) n ∧ (Cond.static (xmeth y1).1).before args s = true)
    (hk : (xmeth y1).2.2.2.1 = 1 ∨ (xmeth y1).2.2.2.1 = 4) (hr0 : (xmeth y1).2.2.2.2.1 = 0) (hn : as.length = n) (hls : ls.size = nL) (hrm : (rest.map fun v => v.category).sum ≤ 8) (hdg : decode cc pc = .ok (.invokestatic index, 3)) (hR : cells ≤ R.cells ∧ slots ≤ R.slots)
    (kk : ∀ (H1 : Heap) (locs1 : List Loc), va_P Γ.1 vwCl (xW Γ ad σ) H1 → va_S A s.heap H1 locs1 → W p l e R s m args below meth c H1 locs1 cells slots Q (F0 m (pc + 3) ls (.int v :: rest))) : W p l e R s m args below meth c H locs cells slots Q (F0 m pc ls ((as.map (xtv ad)).reverse ++ rest)) := by
  have hpre := wk_xPc C hP hS as
  have hfr := wk_freeA C hS
  obtain ⟨hx, hb, hml, hown, hts, hnd, hK, hwf, hD, hA, hsc, hZ⟩ := C
  have hM := xmet_run (l := l) (sz := H.size) hh hRL hlt he hwd hok hwf hD
  have hr := va_runS (e := e) (below := below) (meth := meth) (locs := locs) (cells := cells) (slots := slots) (g := F0 m pc ls ((as.map (xtv ad)).reverse ++ rest)) (rest := rest) ⟨hx, hb, hml, hown, xTs_of hts⟩ hM cw hpre rfl (by rw [List.length_map]; exact hn) hls rfl (by
    show 2 * 0 + _ ≤ 8
    omega) hdg ⟨by rw [Nat.sub_self]; exact hR.1, by rw [Nat.sub_self]; exact hR.2⟩
  rw [hr0] at hr
  refine wk_cons hk hr hwf hS (fun q _ h => hfr q h) hfr (fun H1 locs1 hP1 hS1 _ _ => ?_)
  rw [Nat.sub_self, Nat.sub_self]
  exact kk H1 locs1 hP1 hS1
/-- a method of an object -/
theorem wk_pureV {own Cn : String} (C : wkC p s m args c cc nL own Γ ad σ A) (hP : va_P Γ.1 vwCl (xW Γ ad σ) H) (hS : va_S A s.heap H locs) {y1 d n index h ro iO ci : Nat} {as : List xV} {v : Int32} (hh : xhead (xmeth y1) h = true) (hRL : (xmeth y1).1.cls ≠ RL) (hlt : y1 < xMeth.length) (he : run d (xentry y1 (.inr (.inr (ro, some iO)) :: as) σ) = some ((v, 0, none), σ)) (hwd : xwords (.inr (.inr (ro, some iO)) :: as) ≤ (xmeth y1).2.2.1) (hok : xokS σ (.inr (.inr (ro, some iO)) :: as))
    (cw : CallW R s args own Cn index (xmeth y1).1 (xmeth y1).2.1 (xmeth y1).2.2.1 (xmeth y1).2.2.2.2.2.1 (xws y1) (xrm d σ ((v, 0, none), σ)) (σ.2.2.2.2.1 - σ.2.2.2.2.1) (σ.2.2.2.2.2 - σ.2.2.2.2.2) n) (h0 : (xreg ro).1 = 0) (hi : iO < xcnt σ ro) (hci : xcls σ ro iO = ci) {T : u_T} {N : Nat} (hc : vwCl[ci]? = some (Cn, T, N))
    (hk : (xmeth y1).2.2.2.1 = 1 ∨ (xmeth y1).2.2.2.1 = 4) (hr0 : (xmeth y1).2.2.2.2.1 = 0) (hn : as.length = n) (hls : ls.size = nL) (hrm : (rest.map fun v => v.category).sum ≤ 8) (hdg : decode cc pc = .ok (.invokevirtual index, 3)) (hR : cells ≤ R.cells ∧ slots ≤ R.slots)
    (kk : ∀ (H1 : Heap) (locs1 : List Loc), va_P Γ.1 vwCl (xW Γ ad σ) H1 → va_S A s.heap H1 locs1 → W p l e R s m args below meth c H1 locs1 cells slots Q (F0 m (pc + 3) ls (.int v :: rest))) : W p l e R s m args below meth c H locs cells slots Q (F0 m pc ls ((as.map (xtv ad)).reverse ++ .ref (ad ro iO) :: rest)) := by
  have hpre := wk_xPc C hP hS (.inr (.inr (ro, some iO)) :: as)
  have hfr := wk_freeA C hS
  obtain ⟨hx, hb, hml, hown, hts, hnd, hK, hwf, hD, hA, hsc, hZ⟩ := C
  have hr36 := xtag_lt h0 (by omega) (by omega)
  obtain ⟨q, hq, -⟩ := xW_get Γ ad hr36 hi
  rw [xcell_obj h0, hci] at hq
  obtain ⟨cell, q1, q2, q3⟩ := va_recv hK hP hc hq
  have hM := xmet_run (l := l) (sz := H.size) hh hRL hlt he hwd hok hwf hD
  have hr := va_runV (e := e) (below := below) (meth := meth) (locs := locs) (cells := cells) (slots := slots) (g := F0 m pc ls ((as.map (xtv ad)).reverse ++ .ref (ad ro iO) :: rest)) (rest := rest) (b := ad ro iO) (As := as.map (xtv ad)) ⟨hx, hb, hml, hown, xTs_of hts⟩ hM cw ⟨hpre.1, ⟨cell, q1, q2, q3⟩, hpre.2⟩ rfl (by rw [List.length_map]; exact hn) hls rfl (by
    show 2 * 0 + _ ≤ 8
    omega) hdg ⟨by rw [Nat.sub_self]; exact hR.1, by rw [Nat.sub_self]; exact hR.2⟩
  rw [hr0] at hr
  refine wk_cons hk hr hwf hS (fun q _ h => hfr q h) hfr (fun H1 locs1 hP1 hS1 _ _ => ?_)
  rw [Nat.sub_self, Nat.sub_self]
  exact kk H1 locs1 hP1 hS1
end WP
