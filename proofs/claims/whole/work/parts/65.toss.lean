/-! toss OF THE CLASS: it catches -/
def tHH : List (Nat × Nat × Nat × Nat) := [(28, 32, 35, 244), (28, 32, 42, 234), (28, 32, 52, 270)]
def wtRef (σ : xS) (d : Int32) : Int32 := if d < 0 ∨ 8 ≤ d then -1 else if rI σ 11 0 d.toNatClampNeg = 0 then -11 else if ¬ rI σ 11 0 d.toNatClampNeg = 1 then -12 else 0
theorem wt_ref (σ : xS) (d : Int32) : run 2 (xentry 172 [.inr (.inr (0, (some 0))), .inl d] σ) = some ((wtRef σ d, 0, none), σ) := by
  rw [show (2 : Nat) = 1 + 1 from rfl, B172_0, C166 0 σ d (n := 8) (by decide)]
  unfold wtRef
  by_cases h : weOut σ d
  · have h1 : ¬ inb d 8 := (we_out σ).mp h
    have h2 : d < 0 ∨ 8 ≤ d := h
    rw [if_pos h2]
    show xite (¬ bI (inb d 8) = 0) _ _ = _
    rw [xite_f (by rw [bI_0]; exact fun z => z h1)]
    rfl
  · have h1 : inb d 8 := Classical.not_not.mp (fun z => h ((we_out σ).mpr z))
    have h2 : ¬ (d < 0 ∨ 8 ≤ d) := h
    rw [if_neg h2]
    obtain ⟨k, hk, rfl⟩ := inb_of h1 (by decide)
    have hkn : (nI k).toNatClampNeg = k := n_cl (by omega)
    have h3 : ¬ (nI k < 0 ∨ 8 ≤ (nI k).toNatClampNeg) := by
      rw [n_lt0 (by omega), hkn]
      rintro (z | z)
      · exact z
      · have e8 : (8 : Nat) ≤ k := z
        omega
    show xite (¬ bI (inb (nI k) 8) = 0) _ _ = _
    rw [xite_t (by rw [bI_0]; exact fun z => z h1), xite_t h3]
    by_cases h4 : rI σ 11 0 (nI k).toNatClampNeg = 0
    · rw [xite_f (fun z => z h4), if_pos h4]
      rfl
    · rw [xite_t h4, if_neg h4, xite_t h3]
      by_cases h5 : rI σ 11 0 (nI k).toNatClampNeg = 1
      · have h6 : rI σ 11 0 (nI k).toNatClampNeg = nI 1 := h5
        rw [xite_f (fun z => z h6), if_neg (fun z => z h5)]
        rfl
      · have h6 : ¬ rI σ 11 0 (nI k).toNatClampNeg = nI 1 := h5
        rw [xite_t h6, if_pos h5]
        rfl
theorem wt_pay (σ : xS) (i : Nat) : run 3 (xentry 117 [.inr (.inr (16, (some i)))] σ) = some ((2 * (5 + 2 * rI σ 16 i 1), 0, none), σ) := by
  rw [show (3 : Nat) = 2 + 1 from rfl, B117_0, show (2 : Nat) = 1 + 1 from rfl, B113_0, show (1 : Nat) = 0 + 1 from rfl, B86_0]
  rfl
theorem wt_no {σ : xS} {d : Int32} (h : ¬ wtRef σ d = 0) : xToss σ d = wtRef σ d := by
  unfold xToss
  unfold wtRef at h ⊢
  by_cases h1 : d < 0 ∨ 8 ≤ d
  · rw [if_pos h1, if_pos h1]
  · rw [if_neg h1] at h ⊢
    rw [if_neg h1]
    by_cases h2 : rI σ 11 0 d.toNatClampNeg = 0
    · rw [if_pos h2, if_pos h2]
    · rw [if_neg h2] at h ⊢
      rw [if_neg h2]
      by_cases h3 : ¬ rI σ 11 0 d.toNatClampNeg = 1
      · rw [if_pos h3, if_pos h3]
      · rw [if_neg h3] at h
        exact absurd rfl h
theorem wt_yes {σ : xS} {d : Int32} (h : wtRef σ d = 0) : ¬ weOut σ d ∧ xToss σ d = (match rP σ 12 0 d.toNatClampNeg with
  | none => 0
  | some i => if (rC σ).getD i 0 = 1 ∨ rI σ 16 i 1 = 0 then -15 else if (rC σ).getD i 0 = 8 then 100 + rI σ 16 i 1 else if (rC σ).getD i 0 = 4 then 200 + 2 * (5 + 2 * rI σ 16 i 1) else rI σ 16 i 1) := by
  unfold xToss weOut
  unfold wtRef at h
  by_cases h1 : d < 0 ∨ 8 ≤ d
  · rw [if_pos h1] at h
    exact absurd h (by decide)
  · rw [if_neg h1] at h
    refine ⟨h1, ?_⟩
    rw [if_neg h1]
    by_cases h2 : rI σ 11 0 d.toNatClampNeg = 0
    · rw [if_pos h2] at h
      exact absurd h (by decide)
    · rw [if_neg h2] at h
      rw [if_neg h2]
      by_cases h3 : ¬ rI σ 11 0 d.toNatClampNeg = 1
      · rw [if_pos h3] at h
        exact absurd h (by decide)
      · rw [if_neg h3]
        cases rP σ 12 0 d.toNatClampNeg <;> rfl
section WT
variable {p : Program} {l : Launch} {e : Env} {R : Room} {s : State} {m : MethodId} {args : Array Value} {below : List Frame} {meth : Method} {c : Code} {H : Heap} {locs : List Loc} {cells slots : Nat} {Q : State → Prop}
variable {cc : ByteArray} {pc nL : Nat} {ls : Array Slot} {rest st0 : List Value} {A : Nat → Prop} {Γ : xΓ} {ad : Nat → Nat → Nat} {σ : xS}
/-- the words of a call of a carrier's method -/
theorem wt_CU (hts : ∀ w ∈ lw_tbl, goodWord w = true → w.before args s = true) {C : String} {x y : MethodName} {idx mL m0 n mc ms : Nat} {cF b0 : ByteArray} {ret r0 : Option FieldType} {rm : Room} (h1 : Jvm.Cond.methodLink RX11 idx x ∈ lw_tbl ∧ goodWord (Jvm.Cond.methodLink RX11 idx x) = true) (h2 : Jvm.Cond.sameMethod x.cls RX0 x.name x.desc ∈ lw_tbl ∧ goodWord (Jvm.Cond.sameMethod x.cls RX0 x.name x.desc) = true) (h3 : Jvm.Cond.instanceMethod ⟨RX0, x.name, x.desc⟩ ∈ lw_tbl ∧ goodWord (Jvm.Cond.instanceMethod ⟨RX0, x.name, x.desc⟩) = true) (h4 : Jvm.Cond.selects C x y ∈ lw_tbl ∧ goodWord (Jvm.Cond.selects C x y) = true) (h5 : Jvm.Cond.instanceMethod y ∈ lw_tbl ∧ goodWord (Jvm.Cond.instanceMethod y) = true) (h6 : Jvm.Cond.initialized y.cls ∈ lw_tbl ∧ goodWord (Jvm.Cond.initialized y.cls) = true) (h7 : Jvm.Cond.code y cF mL ret ∈ lw_tbl ∧ goodWord (Jvm.Cond.code y cF mL ret) = true) (h0 : Jvm.Cond.code ⟨RX0, x.name, x.desc⟩ b0 m0 r0 ∈ lw_tbl ∧ goodWord (Jvm.Cond.code ⟨RX0, x.name, x.desc⟩ b0 m0 r0) = true) (hd : (parseMethodDescriptor x.desc).map (fun d => d.parameters.length) = some n) (hrc : rm.cells = mc) (hrs : rm.slots = ms) (hR : rm.frames + 1 ≤ R.frames ∧ 8 + (mL + 11) + rm.locals ≤ R.locals) : va_CU R s args RX11 C RX0 idx x y cF mL ret (.code y cF mL ret :: xTs) rm mc ms n := by
  refine va_cwO n (xTs_of hts) ?_ rfl hrc hrs (List.mem_filter.mpr h0) ⟨by decide, by decide, hd⟩ hR
  intro v hv
  unfold va_wsO at hv
  rcases List.mem_append.mp hv with h | h
  · have hz : ∀ z : Jvm.Cond, z ∈ lw_tbl ∧ goodWord z = true → z ∈ xTs ∧ ((z.onTables && z.keeps) = true ∨ ∃ ty, z = .arrayClass ty) := fun z hz => ⟨List.mem_filter.mpr hz, good_of_word hz.2⟩
    simp only [List.mem_cons, List.not_mem_nil, or_false] at h
    rcases h with h | h | h | h | h | h
    · rw [h]; exact hz _ h1
    · rw [h]; exact hz _ h2
    · rw [h]; exact hz _ h3
    · rw [h]; exact hz _ h4
    · rw [h]; exact hz _ h5
    · rw [h]; exact hz _ h6
  · exact wk_good h7 v h
theorem wt_CF (hts : ∀ w ∈ lw_tbl, goodWord w = true → w.before args s = true) {C : String} {y : MethodName} {cF : ByteArray} (h4 : Jvm.Cond.selects C yX0_fail y ∈ lw_tbl ∧ goodWord (Jvm.Cond.selects C yX0_fail y) = true) (h5 : Jvm.Cond.instanceMethod y ∈ lw_tbl ∧ goodWord (Jvm.Cond.instanceMethod y) = true) (h6 : Jvm.Cond.initialized y.cls ∈ lw_tbl ∧ goodWord (Jvm.Cond.initialized y.cls) = true) (h7 : Jvm.Cond.code y cF 1 none ∈ lw_tbl ∧ goodWord (Jvm.Cond.code y cF 1 none) = true) (hR : 9 ≤ R.frames ∧ 532 ≤ R.locals) : va_CU R s args RX11 C RX0 267 yX0_fail y cF 1 none (.code y cF 1 none :: xTs) { frames := 8, cells := 1, slots := 6, locals := 512 } 1 6 0 :=
  wt_CU (b0 := cX0_fail) (m0 := 1) (r0 := none) hts ⟨by decide +kernel, by decide +kernel⟩ ⟨by decide +kernel, by decide +kernel⟩ ⟨by decide +kernel, by decide +kernel⟩ h4 h5 h6 h7 ⟨by decide +kernel, by decide +kernel⟩ (by decide +kernel) rfl rfl hR
/-- a carrier's figure, read by the class -/
theorem wt_fig (C : wkC p s m args c cc nL RX11 Γ ad σ A) (hP : va_P Γ.1 vwCl (xW Γ ad σ) H) {i ci : Nat} {Cn : String} {T : u_T} (hi : i < xcnt σ 16) (hci : (rC σ).getD i 0 = ci) (hc : vwCl[ci]? = some (Cn, T, 2)) (hlk : Jvm.Cond.fieldLink RX11 100 RX0 (T 1).2.1 (T 1).2.2.1 ∈ lw_tbl ∧ goodWord (Jvm.Cond.fieldLink RX11 100 RX0 (T 1).2.1 (T 1).2.2.1) = true) (hT : (T 1).1 = RX0) (hdg : decode cc pc = .ok (.getfield 100, 3)) (kk : W p l e R s m args below meth c H locs cells slots Q (F0 m (pc + 3) ls (.int (rI σ 16 i 1) :: rest))) : W p l e R s m args below meth c H locs cells slots Q (F0 m pc ls (.ref (ad 16 i) :: rest)) := by
  obtain ⟨hx, hb, hml, hown, hts, hnd, hK, hwf, hD, hA, hsc, hZ⟩ := C
  obtain ⟨q, hq, -⟩ := xW_get Γ ad (r := 16) (by decide) hi
  rw [xcell_obj (by decide +kernel)] at hq
  have hcl : xcls σ 16 i = ci := by unfold xcls; rw [if_pos rfl]; exact hci
  rw [hcl] at hq
  have hfv : (xfs ad 16 i (rI σ 16 i) (rL σ 16 i) (rP σ 16 i))[1]? = some (.int (rI σ 16 i 1)) := xfs_get (ad := ad) (i := i) (fI := rI σ 16 i) (fL := rL σ 16 i) (fP := rP σ 16 i) (r := 16) (k := 1) (by decide +kernel)
  exact va_get hx hb (xTs_of hts) (xcl_ws hc) hown hK hP q hq hc 1 (by decide) (hts _ hlk.1 hlk.2) (fun x h => by rw [← hT]; exact h) hfv hdg kk
/-- a call of fail on a carrier -/
theorem wt_fail (C : wkC p s m args c cc nL RX11 Γ ad σ A) (hP : va_P Γ.1 vwCl (xW Γ ad σ) H) (hS : va_S A s.heap H locs) {i ci N : Nat} {Cn E : String} {T : u_T} {y : MethodName} {cF : ByteArray} {b : Bool} {bx : Prop} (hi : i < xcnt σ 16) (hci : (rC σ).getD i 0 = ci) (hc : vwCl[ci]? = some (Cn, T, N)) (hM : ∀ sz, vx_Met l y (.code y cF 1 none :: xTs) { frames := 8, cells := 1, slots := 6, locals := 512 } (wfPc Γ ad σ i sz) (wfQc σ i sz b) (vx_X (fun _ : Unit => bx) (fun E9 _ _ => E9 = E) (fun q => sz ≤ q)) 1 6 (fun q => sz ≤ q)) (cw : va_CU R s args RX11 Cn RX0 267 yX0_fail y cF 1 none (.code y cF 1 none :: xTs) { frames := 8, cells := 1, slots := 6, locals := 512 } 1 6 0) (hls : ls.size = nL) (hrm : (rest.map fun v => v.category).sum ≤ 8) (hdg : decode cc pc = .ok (.invokevirtual 267, 3)) (hR : cells + 1 ≤ R.cells ∧ slots + 6 ≤ R.slots)
    (kx : bx → ∀ (H1 : Heap) (locs1 : List Loc) (ce : Cell) (q9 : Addr), va_P Γ.1 vwCl (xW Γ ad σ) H1 → va_S A s.heap H1 locs1 → H1[q9]? = some ce → ce.vm = .none → s.vm.findClass E = some ce.cls → vx_W p l e R s m args below meth c H1 locs1 (cells + 1) (slots + 6) Q (F0 m pc ls rest) q9)
    (kk : (b = true ∨ rI σ 16 i 1 = 0) → ∀ (H1 : Heap) (locs1 : List Loc), va_P Γ.1 vwCl (xW Γ ad σ) H1 → va_S A s.heap H1 locs1 → W p l e R s m args below meth c H1 locs1 (cells + 1) (slots + 6) Q (F0 m (pc + 3) ls rest)) : W p l e R s m args below meth c H locs cells slots Q (F0 m pc ls (.ref (ad 16 i) :: rest)) := by
  obtain ⟨hx, hb, hml, hown, hts, hnd, hK, hwf, hD, hA, hsc, hZ⟩ := C
  have hfr : ∀ q : Nat, H.size ≤ q → A q := fun q h => hA q (Nat.le_trans hS.1 h)
  obtain ⟨q, hq, -⟩ := xW_get Γ ad (σ := σ) (r := 16) (i := i) (by decide) hi
  rw [xcell_obj (by decide +kernel)] at hq
  have hcl : xcls σ 16 i = ci := by unfold xcls; rw [if_pos rfl]; exact hci
  rw [hcl] at hq
  obtain ⟨cell, g1, g2, g3⟩ := va_recv hK hP hc hq
  refine vx_callv (vx_runU (As := []) (rest := rest) ⟨hx, hb, hml, hown, xTs_of hts⟩ (hM H.size) cw ⟨?_, ⟨cell, g1, g2, g3⟩, fun U hU hW => ⟨rfl, by rw [hU], by rw [hU]; exact hP, va_K.moved hW.alike hK, fun w h1 h2 => xne_warm h2 hW (hnd w h1 h2), ?_⟩⟩ rfl rfl hls rfl ?_ hdg hR) hS (fun q _ h => hfr q h) hfr (fun q _ h => hfr q h) (fun E' ce q9 u t H1 locs1 ht hvm hu hB hz hk hS1 hq9 hce hcl => ?_) (fun u t H1 locs1 ht hvm hu hB hz hk hS1 => ?_)
  · intro a U g mk z
    obtain ⟨z1, z2, z3, z4, z5, z6⟩ := z
    exact ⟨z1, z2, z3, va_K.moved (u := U) (U := U.calling g mk a) (Vm.Alike.refl U.vm) z4, fun w h1 h2 => xne_same (u := U) (U := U.calling g mk a) h2 rfl (z5 w h1 h2), wkS.moved (u := U) (U := U.calling g mk a) (Vm.Alike.refl U.vm) z6⟩
  · rw [hU]
    exact (wkS.moved hW.alike (hZ.kept (fun a g1 g2 => hS.2.1 a g1 g2))).narrow hfr
  · show 2 * 0 + _ ≤ 8
    omega
  · have hE : E' = E := hB
    subst hE
    exact kx hu H1 locs1 ce q9 (hP.kept (fun k q hq => hk q.1 (vx_lt hP hq) (Nat.not_le.mpr (vx_lt hP hq)))) hS1 hq9 hce hcl
  · exact kk hu H1 locs1 (hP.kept (fun k q hq => hk q.1 (vx_lt hP hq) (Nat.not_le.mpr (vx_lt hP hq)))) hS1
end WT
set_option maxHeartbeats 4000000 in
/-- the first fail, for the classes that have no other -/
theorem wt_f0 (l : Launch) (hlf : l.stackTraces = false) {Γ : xΓ} {ad : Nat → Nat → Nat} {σ : xS} {i ci sz : Nat} {C : String} {T : u_T} (hc : vwCl[ci]? = some (C, T, 2)) (hT : T 1 = TX0 1) (hi : i < xcnt σ 16) (hci : (rC σ).getD i 0 = ci) : vx_Met l yX0_fail (.code yX0_fail cX0_fail 1 none :: xTs) { frames := 8, cells := 1, slots := 6, locals := 512 } (wfPc Γ ad σ i sz) (wfQc σ i sz false) (wfXC σ i sz "java/lang/IllegalStateException") 1 6 (fun q => sz ≤ q) :=
  wk_fail l hlf (own := RX0) (ref := RX0) (text := "a carrier fails") (idx := 15) (ik := 18) (is := 20) (ic := 22) (by decide) wkT_0 (by decide +kernel) (by decide +kernel) hc (by rw [hT]; exact ⟨by decide +kernel, by decide +kernel⟩) (Or.inl (by rw [hT]; rfl)) hi hci (by decide +kernel) (by decide +kernel) (by decide +kernel) (by decide +kernel) (by decide +kernel) (by decide +kernel) (by decide +kernel) (by decide +kernel) (by decide +kernel)
set_option maxHeartbeats 4000000 in
theorem wt_f4 (l : Launch) (hlf : l.stackTraces = false) {Γ : xΓ} {ad : Nat → Nat → Nat} {σ : xS} {i sz : Nat} (hi : i < xcnt σ 16) (hci : (rC σ).getD i 0 = 4) : vx_Met l yX4_fail (.code yX4_fail cX4_fail 1 none :: xTs) { frames := 8, cells := 1, slots := 6, locals := 512 } (wfPc Γ ad σ i sz) (wfQc σ i sz false) (wfXC σ i sz "java/lang/UnsupportedOperationException") 1 6 (fun q => sz ≤ q) :=
  wk_fail l hlf (own := RX4) (ref := RX4) (text := "a mixed one fails") (idx := 20) (ik := 26) (is := 28) (ic := 30) (C := RX4) (T := TX4) (ci := 4) (by decide) wkT_4 (by decide +kernel) (by decide +kernel) rfl ⟨by decide +kernel, by decide +kernel⟩ (Or.inr ⟨by decide +kernel, by decide +kernel⟩) hi hci (by decide +kernel) (by decide +kernel) (by decide +kernel) (by decide +kernel) (by decide +kernel) (by decide +kernel) (by decide +kernel) (by decide +kernel) (by decide +kernel)
set_option maxHeartbeats 4000000 in
theorem wt_f8 (l : Launch) (hlf : l.stackTraces = false) {Γ : xΓ} {ad : Nat → Nat → Nat} {σ : xS} {i sz : Nat} (hi : i < xcnt σ 16) (hci : (rC σ).getD i 0 = 8) : vx_Met l yX8_fail (.code yX8_fail cX8_fail 1 none :: xTs) { frames := 8, cells := 1, slots := 6, locals := 512 } (wfPc Γ ad σ i sz) (wfQc σ i sz false) (wfXC σ i sz "java/lang/IllegalArgumentException") 1 6 (fun q => sz ≤ q) :=
  wk_fail l hlf (own := RX8) (ref := RX8) (text := "a spare one fails") (idx := 23) (ik := 29) (is := 31) (ic := 33) (C := RX8) (T := TX8) (ci := 8) (by decide) wkT_8 (by decide +kernel) (by decide +kernel) rfl ⟨by decide +kernel, by decide +kernel⟩ (Or.inr ⟨by decide +kernel, by decide +kernel⟩) hi hci (by decide +kernel) (by decide +kernel) (by decide +kernel) (by decide +kernel) (by decide +kernel) (by decide +kernel) (by decide +kernel) (by decide +kernel) (by decide +kernel)
/-- a fail that does nothing -/
theorem wt_f1 (l : Launch) {Γ : xΓ} {ad : Nat → Nat → Nat} {σ : xS} {i sz : Nat} : vx_Met l yX1_fail (.code yX1_fail cX1_fail 1 none :: xTs) { frames := 8, cells := 1, slots := 6, locals := 512 } (wfPc Γ ad σ i sz) (wfQc σ i sz true) (vx_X (fun _ : Unit => False) (fun E9 _ _ => E9 = "") (fun q => sz ≤ q)) 1 6 (fun q => sz ≤ q) := by
  refine vx_ofW (by decide) rfl ?_
  intro p e s m args below meth c s₁ B hml hout hv
  obtain ⟨rfl, hsz, hP, hK, hnw, hZ⟩ := hv
  have hx := B.exec
  have hb := B.bytes
  have hr := B.returns
  have hlocks := B.notSynchronized
  subst hsz
  have hS : va_S (fun q => s.heap.size ≤ q) s.heap s.heap [] := va_S.rf
  rw [lg_entry_eq]
  refine vx_ret (W.widen (k := 1) (n := 6) (by decide) (by decide) ?_)
  exact W.vret hx hb hr (fun t ht hW => ⟨⟨(), rfl, Or.inl rfl, trivial⟩, hS.F ht⟩) hS.2.2 (by decide +kernel)
