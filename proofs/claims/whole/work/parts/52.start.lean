/-! THE LAW'S START: the classes of arrays, what a constructor's walk needs -/
theorem wk_ndl : ∀ l : List Nat, l.Nodup → va_nd l = true
  | [], _ => rfl
  | a :: l, h => by
    simp only [va_nd, Bool.and_eq_true, decide_eq_true_eq]
    exact ⟨(List.nodup_cons.mp h).1, wk_ndl l (List.nodup_cons.mp h).2⟩
theorem wk_nd (n : Nat) : va_nd (List.range n) = true := wk_ndl _ List.nodup_range
theorem wk_arr {ty : FieldType} {s : State} {args : Array Value} (h : (Cond.arrayClass ty).before args s = true) : ∃ cA : ClassId, ArrOfT s cA ty ∧ s.vm.findClass ("[" ++ ty.toString) = some cA := by
  obtain ⟨c, k, comp, h1, h2, h3⟩ := Cond.arrayClass_spec h
  exact ⟨c, fun n z => ⟨fun k h => (by cases h), k, h2, comp, h3⟩, h1⟩
theorem wk_arro {C : String} {s : State} (h : va_AO C s) : ∃ cA : ClassId, ArrOfT s cA (.object C) ∧ va_RA s cA (.object C) := by
  obtain ⟨comp, c, k, h1, -, h3, h4, h5⟩ := Cond.arrayOver_spec h
  exact ⟨c, fun n z => ⟨fun k h => (by cases h), k, h3, comp, h4⟩, k, comp, h3, h4, h1, h5⟩
def wkInst : Bool := (List.range 13).all fun ci => decide (Jvm.Cond.instantiable (vwCl.getD ci (RX0, TX0, 2)).1 (vwCl.getD ci (RX0, TX0, 2)).2.2 ∈ lw_tbl)
theorem wkInst_ok : wkInst = true := by decide +kernel
def wkAr : Bool := decide (Jvm.Cond.arrayClass .int ∈ lw_tbl) && decide (Jvm.Cond.arrayClass .long ∈ lw_tbl) && decide (Jvm.Cond.arrayOver (.object "OncePerRoad$Carrier") ∈ lw_tbl) && decide (Jvm.Cond.arrayOver (.object "OncePerRoad$Row") ∈ lw_tbl) && goodWord (Jvm.Cond.arrayClass .int) && goodWord (Jvm.Cond.arrayClass .long)
theorem wkAr_ok : wkAr = true := by decide +kernel
theorem wk_G {s : State} {args : Array Value} (hts : ∀ w ∈ lw_tbl, w.before args s = true) : ∃ Γ : xΓ, va_K Γ.1 vwCl (xtys Γ) s := by
  have hk : ∀ c : Nat, ∃ z : ClassId × (Nat → Nat), ∀ q : vw_C, vwCl[c]? = some q → u_Kn s q.1 q.2.1 q.2.2 z.1 z.2 := by
    intro c
    cases hc : vwCl[c]? with
    | none => exact ⟨(0, fun _ => 0), fun q h => by cases h⟩
    | some q =>
      obtain ⟨C, T, N⟩ := q
      have hlt : c < 13 := by
        have := (List.getElem?_eq_some_iff.mp hc).1
        simpa using this
      have hi := List.all_eq_true.mp wkInst_ok c (List.mem_range.mpr hlt)
      have hg : vwCl.getD c (RX0, TX0, 2) = (C, T, N) := by rw [List.getD, hc]; rfl
      rw [hg] at hi
      have hi := of_decide_eq_true hi
      obtain ⟨cC, iS, h⟩ := u_known (ws := lw_tbl) (n := N) hts (fun w hw => (List.mem_filter.mp (xcl_ws hc w hw)).1) (hts _ hi)
      exact ⟨(cC, iS), fun q h' => by cases h'; exact h⟩
  obtain ⟨f, hf⟩ := Classical.axiomOfChoice hk
  have hw := wkAr_ok
  unfold wkAr at hw
  simp only [Bool.and_eq_true] at hw
  obtain ⟨⟨⟨⟨⟨h1, h2⟩, h3⟩, h4⟩, h5⟩, h6⟩ := hw
  obtain ⟨c1, a1, b1⟩ := wk_arr (hts _ (of_decide_eq_true h1))
  obtain ⟨c2, a2, b2⟩ := wk_arr (hts _ (of_decide_eq_true h2))
  obtain ⟨c3, a3, b3⟩ := wk_arro (va_AO.of (hts _ (of_decide_eq_true h3)))
  obtain ⟨c4, a4, b4⟩ := wk_arro (va_AO.of (hts _ (of_decide_eq_true h4)))
  refine ⟨((fun c => (f c).1, fun c => (f c).2), c1, c2, c3, c4), fun c q hq => hf c q hq, fun k q hq => ?_⟩
  match k, hq with
  | 0, hq => cases hq; exact ⟨a1, b1⟩
  | 1, hq => cases hq; exact ⟨a2, b2⟩
  | 2, hq => cases hq; exact ⟨a3, b3⟩
  | 3, hq => cases hq; exact ⟨a4, b4⟩
  | k + 4, hq => cases hq
section WK
variable {p : Program} {l : Launch} {e : Env} {R : Room} {s : State} {m : MethodId} {args : Array Value} {below : List Frame} {meth : Method} {c : Code} {H : Heap} {locs : List Loc} {cells slots : Nat} {Q : State → Prop}
variable {cc : ByteArray} {pc : Nat} {ls : Array Slot} {rest : List Value} {a : Nat} {Γ : xΓ} {A : Nat → Prop} {H0 : Heap} {ws : va_W}
theorem wk_newi (hx : p.tables.exec = Jvm.exec) (hb : c.code = cc) (hts : ∀ w ∈ lw_tbl, goodWord w = true → w.before args s = true) (hK : va_K Γ.1 vwCl (xtys Γ) s) (hP : va_P Γ.1 vwCl ws H) (hD : va_D A ws) (hS : va_S A H0 H locs) (hA : ∀ q, H0.size ≤ q → A q) {n : Int32} {N : Nat} (hn : ¬ n < 0) (hN : n.toNatClampNeg = N) (hby : N * 4 ≤ 536870912) (hcells : cells + 1 ≤ R.cells) (hslots : slots + N ≤ R.slots) (hdg : decode cc pc = .ok (.newarray .int, 2))
    (kk : ∀ (q : Nat) (H1 : Heap), va_P Γ.1 vwCl (ws ++ [(q, .inl (Γ.2.1, N, .inl fun _ => 0))]) H1 → va_D A (ws ++ [(q, .inl (Γ.2.1, N, .inl fun _ => 0))]) → va_S A H0 H1 locs → W p l e R s m args below meth c H1 locs (cells + 1) (slots + N) Q (F0 m (pc + 2) ls (.ref q :: rest))) : W p l e R s m args below meth c H locs cells slots Q (F0 m pc ls (.int n :: rest)) := by
  have hw := wkAr_ok
  unfold wkAr at hw
  simp only [Bool.and_eq_true] at hw
  have h9 : (Cond.arrayClass .int).before args s = true := hts _ (of_decide_eq_true hw.1.1.1.1.1) hw.1.2
  refine va_newa (atype := .int) (a0 := (N, .inl fun _ => 0)) (ty := .int) hx hb h9 rfl hK hP hD hS hA (fun cA => rfl) hn hN hby hcells hslots hdg (fun q cA H1 hK1 hP1 hD1 hS1 => ?_)
  have e1 : s.vm.findClass ("[" ++ FieldType.int.toString) = some cA := (hK1.2 4 _ rfl).2
  have e2 : s.vm.findClass ("[" ++ FieldType.int.toString) = some Γ.2.1 := (hK.2 0 _ rfl).2
  have e3 : Γ.2.1 = cA := Option.some.inj (e2.symm.trans e1)
  subst e3
  exact kk q H1 hP1 hD1 hS1
theorem wk_newl (hx : p.tables.exec = Jvm.exec) (hb : c.code = cc) (hts : ∀ w ∈ lw_tbl, goodWord w = true → w.before args s = true) (hK : va_K Γ.1 vwCl (xtys Γ) s) (hP : va_P Γ.1 vwCl ws H) (hD : va_D A ws) (hS : va_S A H0 H locs) (hA : ∀ q, H0.size ≤ q → A q) {n : Int32} {N : Nat} (hn : ¬ n < 0) (hN : n.toNatClampNeg = N) (hby : N * 8 ≤ 536870912) (hcells : cells + 1 ≤ R.cells) (hslots : slots + N ≤ R.slots) (hdg : decode cc pc = .ok (.newarray .long, 2))
    (kk : ∀ (q : Nat) (H1 : Heap), va_P Γ.1 vwCl (ws ++ [(q, .inl (Γ.2.2.1, N, .inr (.inl fun _ => 0)))]) H1 → va_D A (ws ++ [(q, .inl (Γ.2.2.1, N, .inr (.inl fun _ => 0)))]) → va_S A H0 H1 locs → W p l e R s m args below meth c H1 locs (cells + 1) (slots + N) Q (F0 m (pc + 2) ls (.ref q :: rest))) : W p l e R s m args below meth c H locs cells slots Q (F0 m pc ls (.int n :: rest)) := by
  have hw := wkAr_ok
  unfold wkAr at hw
  simp only [Bool.and_eq_true] at hw
  have h9 : (Cond.arrayClass .long).before args s = true := hts _ (of_decide_eq_true hw.1.1.1.1.2) hw.2
  refine va_newa (atype := .long) (a0 := (N, .inr (.inl fun _ => 0))) (ty := .long) hx hb h9 rfl hK hP hD hS hA (fun cA => rfl) hn hN hby hcells hslots hdg (fun q cA H1 hK1 hP1 hD1 hS1 => ?_)
  have e1 : s.vm.findClass ("[" ++ FieldType.long.toString) = some cA := (hK1.2 4 _ rfl).2
  have e2 : s.vm.findClass ("[" ++ FieldType.long.toString) = some Γ.2.2.1 := (hK.2 1 _ rfl).2
  have e3 : Γ.2.2.1 = cA := Option.some.inj (e2.symm.trans e1)
  subst e3
  exact kk q H1 hP1 hD1 hS1
theorem wk_newq (hx : p.tables.exec = Jvm.exec) (hb : c.code = cc) {own C : String} {i : Nat} (hown : s.vm.findClass own = some m.cls) (hcl : (Cond.classLink own i C).before args s = true) (hao : va_AO C s) (k : Nat) {cR : ClassId} (hk : (xtys Γ)[k]? = some (cR, .object C)) (hK : va_K Γ.1 vwCl (xtys Γ) s) (hP : va_P Γ.1 vwCl ws H) (hD : va_D A ws) (hS : va_S A H0 H locs) (hA : ∀ q, H0.size ≤ q → A q) {n : Int32} {N : Nat} (hn : ¬ n < 0) (hN : n.toNatClampNeg = N) (hby : N * 4 ≤ 536870912) (hcells : cells + 1 ≤ R.cells) (hslots : slots + N ≤ R.slots) (hdg : decode cc pc = .ok (.anewarray i, 3))
    (kk : ∀ (q : Nat) (H1 : Heap), va_P Γ.1 vwCl (ws ++ [(q, .inl (cR, N, .inr (.inr (.inr (.inr fun _ => none)))))]) H1 → va_D A (ws ++ [(q, .inl (cR, N, .inr (.inr (.inr (.inr fun _ => none)))))]) → va_S A H0 H1 locs → W p l e R s m args below meth c H1 locs (cells + 1) (slots + N) Q (F0 m (pc + 3) ls (.ref q :: rest))) : W p l e R s m args below meth c H locs cells slots Q (F0 m pc ls (.int n :: rest)) := by
  refine va_newq hx hb hown hcl hao hK hP hD hS hA hn hN hby hcells hslots hdg (fun q cA H1 hK1 hP1 hD1 hS1 => ?_)
  obtain ⟨_, _, _, _, _, e1⟩ := (hK1.2 4 _ rfl).2
  obtain ⟨_, _, _, _, _, e2⟩ := (hK.2 k _ hk).2
  have e3 : cR = cA := Option.some.inj (e2.symm.trans e1)
  subst e3
  exact kk q H1 hP1 hD1 hS1
/-- a field of its own object in a constructor -/
theorem wk_put (hx : p.tables.exec = Jvm.exec) (hb : c.code = cc) (hts : ∀ w ∈ lw_tbl, goodWord w = true → w.before args s = true) (hin : meth.name = "<init>") {C : String} {T : u_T} {N ci i : Nat} (hc : vwCl[ci]? = some (C, T, N)) (hown : s.vm.findClass C = some m.cls) (hK : va_K Γ.1 vwCl (xtys Γ) s) (hP : va_P Γ.1 vwCl ws H) (hD : va_D A ws) (hS : va_S A H0 H locs) (q0 : Nat) {fs : List Value} (he : ws[q0]? = some (a, .inr (ci, fs))) (k : Nat) (hk : k < N) (hlk : (Cond.fieldLink C i C (T k).2.1 (T k).2.2.1).before args s = true) (hT : (T k).1 = C) {ty : FieldType} {v : Value} (hd : parseFieldDescriptor (T k).2.2.1 = some ty) (hn : narrow ty v = v) (hfit : fits ty v = true) (hl : k < fs.length) (hdg : decode cc pc = .ok (.putfield i, 3))
    (kk : ∀ (H1 : Heap) (locs1 : List Loc), va_P Γ.1 vwCl (ws.set q0 (a, .inr (ci, fs.set k v))) H1 → va_D A (ws.set q0 (a, .inr (ci, fs.set k v))) → va_S A H0 H1 locs1 → W p l e R s m args below meth c H1 locs1 cells slots Q (F0 m (pc + 3) ls rest)) : W p l e R s m args below meth c H locs cells slots Q (F0 m pc ls (v :: .ref a :: rest)) := by
  obtain ⟨ty0, hty0, hnm0⟩ := xcl_ty hc
  have hsm : ∀ x, s.fieldFound? (T k).1 (T k).2.1 (T k).2.2.1 = some x → s.fieldFound? C (T k).2.1 (T k).2.2.1 = some x := fun x h => by rw [← hT]; exact h
  cases hf : (T k).2.2.2 with
  | true => exact va_putF hx hb (xTs_of hts) (xcl_ws hc) ty0 hty0 hnm0 hown hK hP hD hS q0 he hc k hk hlk hsm hf hin hT hd hn hfit hl hdg kk
  | false => exact va_put hx hb (xTs_of hts) (xcl_ws hc) ty0 hty0 hnm0 hown hK hP hD hS q0 he hc k hk hlk hsm hf hd hn hfit hl hdg kk
/-- what a constructor of an object at q needs and gives: its cells, in the order of their making -/
def wkPc (Γ : xΓ) (q ci sz : Nat) (fs : List Value) : Array Value → State → Prop := va_Pc [.ref q] (fun U => U.heap.size = sz ∧ va_P Γ.1 vwCl [(q, .inr (ci, fs))] U.heap ∧ va_K Γ.1 vwCl (xtys Γ) U ∧ va_AO "OncePerRoad$Carrier" U ∧ va_AO "OncePerRoad$Row" U)
def wkQc (Γ : xΓ) (q ci sz : Nat) (fs : List Value) (W1 : (Nat → Nat) → va_W) : Array Value → State → Outcome → State → Prop := va_Qv (fun _ : Nat → Nat => True) (fun u t => va_P Γ.1 vwCl (W1 u) t.heap ∧ va_D (va_A [(q, .inr (ci, fs))] sz) (W1 u)) (va_A [(q, .inr (ci, fs))] sz)
theorem wk_good {w : Jvm.Cond} (h : w ∈ lw_tbl ∧ goodWord w = true) : GoodIn xTs (w :: xTs) := by
  intro v hv
  rcases List.mem_cons.mp hv with h1 | h1
  · rw [h1]
    exact ⟨List.mem_filter.mpr h, good_of_word h.2⟩
  · exact ⟨h1, good_of_word (List.mem_filter.mp h1).2⟩
theorem wk_new {nL : Nat} (hx : p.tables.exec = Jvm.exec) (hb : c.code = cc) (hml : c.maxLocals = nL) (hts : ∀ w ∈ lw_tbl, goodWord w = true → w.before args s = true) (h1 : va_AO "OncePerRoad$Carrier" s) (h2 : va_AO "OncePerRoad$Row" s) {own C : String} (hown : s.vm.findClass own = some m.cls) (hK : va_K Γ.1 vwCl (xtys Γ) s) (hP : va_P Γ.1 vwCl ws H) (hD : va_D A ws) (hS : va_S A H0 H locs) (hA : ∀ q, H0.size ≤ q → A q) {T : u_T} {N ci i1 i2 mc ms maxL : Nat} {y : MethodName} {bytes : ByteArray} {rm : Room} {fs : List Value} {W1 : Nat → (Nat → Nat) → va_W} (hc : vwCl[ci]? = some (C, T, N)) (ty : Nat → FieldType) (hty : ∀ k, k < N → parseFieldDescriptor (T k).2.2.1 = some (ty k)) (hfs : ∀ j, j < N → defaultValue (ty j) = vp_V fs j)
    (hcl : (Cond.classLink own i1 C).before args s = true) (hinst : (Cond.instantiable C N).before args s = true) (hini : (Cond.initialized C).before args s = true) (hls : ls.size = nL)
    (hM : ∀ (q sz : Nat), Met l y (.code y bytes maxL none :: xTs) rm (wkPc Γ q ci sz fs) (wkQc Γ q ci sz fs (W1 q)) mc ms (va_A [(q, .inr (ci, fs))] sz))
    (cw : CallB R s args own i2 y bytes maxL none (.code y bytes maxL none :: xTs) rm mc ms 0 ∧ y.name = "<init>" ∧ (Cond.instanceMethod y).before args s = true)
    (hcells : cells + 1 + mc ≤ R.cells) (hslots : slots + N + ms ≤ R.slots) (hrm : (rest.map fun v => v.category).sum ≤ 7) (hd1 : decode cc pc = .ok (.new i1, 3)) (hd2 : decode cc (pc + 3) = .ok (.dup, 1)) (hd3 : decode cc (pc + 4) = .ok (.invokespecial i2, 3))
    (kk : ∀ (q : Nat) (u : Nat → Nat) (H1 : Heap) (locs1 : List Loc), va_P Γ.1 vwCl (ws ++ W1 q u) H1 → va_D A (ws ++ W1 q u) → va_S A H0 H1 locs1 → W p l e R s m args below meth c H1 locs1 (cells + 1 + mc) (slots + N + ms) Q (F0 m (pc + 7) ls (.ref q :: rest))) : W p l e R s m args below meth c H locs cells slots Q (F0 m pc ls rest) := by
  refine va_new (ci := ci) (fs := fs) hx hb (xTs_of hts) (xcl_ws hc) ty hty hown hcl hinst hini hK hP hD hS hA hc hfs (by omega) (by omega) hd1 (fun q H hP hD hS => ?_)
  refine lv_dup hx hb hd2 rfl ?_
  have hi : [ws.length].map (fun i => (ws ++ [(q, (.inr (ci, fs) : va_E))])[i]?) = ([(q, (.inr (ci, fs) : va_E))] : va_W).map some := by simp
  have hj : (List.range ws.length).map (fun i => (ws ++ [(q, (.inr (ci, fs) : va_E))])[i]?) = ws.map some := by
    apply List.ext_getElem?
    intro k
    by_cases hk : k < ws.length
    · rw [List.getElem?_map, List.getElem?_range hk, List.getElem?_map]
      show some ((ws ++ [(q, (.inr (ci, fs) : va_E))])[k]?) = _
      rw [List.getElem?_append_left hk, List.getElem?_eq_getElem hk]
      rfl
    · simp [hk]
  have hPc : va_P Γ.1 vwCl [(q, .inr (ci, fs))] H := hP.sub [ws.length] (by simp)
  have hFc := va_free (wc := [(q, .inr (ci, fs))]) hD hS hA [ws.length] hi
  refine va_callv (va_runI (As := []) (rest := .ref q :: rest) ⟨hx, hb, hml, hown, xTs_of hts⟩ (hM q H.size) cw ⟨fun a U g mk z => ?_, fun U hU hW => ⟨rfl, by rw [hU], by rw [hU]; exact hPc, va_K.moved hW.alike hK, va_AO.moved hW.alike h1, va_AO.moved hW.alike h2⟩⟩ rfl rfl hls rfl ?_ hd3 ⟨hcells, hslots⟩) hS (fun q _ h => hFc q h) hFc (fun u t H1 locs1 ht hvm _ hB hz1 hk1 hS => ?_)
  · obtain ⟨z1, z2, z3, z4, z5, z6⟩ := z
    exact ⟨z1, z2, z3, va_K.moved (u := U) (U := U.calling g mk a) (Vm.Alike.refl U.vm) z4, va_AO.moved (u := U) (U := U.calling g mk a) (Vm.Alike.refl U.vm) z5, va_AO.moved (u := U) (U := U.calling g mk a) (Vm.Alike.refl U.vm) z6⟩
  · show 2 * 0 + (Value.category (.ref q) + (rest.map fun v => v.category).sum) ≤ 8
    have : Value.category (.ref q) = 1 := rfl
    omega
  · obtain ⟨hP1, hD1⟩ := hB
    rw [ht] at hP1
    obtain ⟨hP, hD⟩ := va_join (wr := ws) (w1 := W1 q u) hP hD [ws.length] (List.range ws.length) hi hj (wk_nd ws.length) (fun i hi h => by have := List.mem_range.mp hi; have := List.mem_singleton.mp h; omega) hk1 hFc hP1 hD1
    exact kk q u H1 locs1 hP hD hS
end WK
