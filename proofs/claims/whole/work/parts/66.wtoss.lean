/-! toss, walked -/
section WU
variable {p : Program} {l : Launch} {e : Env} {R : Room} {s : State} {m : MethodId} {args : Array Value} {below : List Frame} {meth : Method} {c : Code} {H : Heap} {locs : List Loc} {cells slots : Nat} {Q : State → Prop}
variable {cc : ByteArray} {pc nL : Nat} {ls : Array Slot} {rest st0 : List Value} {A : Nat → Prop} {Γ : xΓ} {ad : Nat → Nat → Nat} {σ : xS} {d : Int32}
/-- a method of the carriers, found by the receiver, that leaves the state as it was -/
theorem wk_pureU {Cn : String} {x : MethodName} (C : wkC p s m args c cc nL RX11 Γ ad σ A) (hP : va_P Γ.1 vwCl (xW Γ ad σ) H) (hS : va_S A s.heap H locs) {y1 dd n index h ro iO ci : Nat} {as : List xV} {v : Int32} (hh : xhead (xmeth y1) h = true) (hRL : (xmeth y1).1.cls ≠ RL) (hlt : y1 < xMeth.length) (he : run dd (xentry y1 (.inr (.inr (ro, some iO)) :: as) σ) = some ((v, 0, none), σ)) (hwd : xwords (.inr (.inr (ro, some iO)) :: as) ≤ (xmeth y1).2.2.1) (hok : xokS σ (.inr (.inr (ro, some iO)) :: as))
    (cw : va_CU R s args RX11 Cn RX0 index x (xmeth y1).1 (xmeth y1).2.1 (xmeth y1).2.2.1 (xmeth y1).2.2.2.2.2.1 (xws y1) (xrm dd σ ((v, 0, none), σ)) (σ.2.2.2.2.1 - σ.2.2.2.2.1) (σ.2.2.2.2.2 - σ.2.2.2.2.2) n) (h0 : (xreg ro).1 = 0) (hi : iO < xcnt σ ro) (hci : xcls σ ro iO = ci) {T : u_T} {N : Nat} (hc : vwCl[ci]? = some (Cn, T, N))
    (hk : (xmeth y1).2.2.2.1 = 1 ∨ (xmeth y1).2.2.2.1 = 4) (hr0 : (xmeth y1).2.2.2.2.1 = 0) (hn : as.length = n) (hls : ls.size = nL) (hrm : (rest.map fun v => v.category).sum ≤ 8) (hdg : decode cc pc = .ok (.invokevirtual index, 3)) (hR : cells ≤ R.cells ∧ slots ≤ R.slots)
    (kk : ∀ (H1 : Heap) (locs1 : List Loc), va_P Γ.1 vwCl (xW Γ ad σ) H1 → va_S A s.heap H1 locs1 → W p l e R s m args below meth c H1 locs1 cells slots Q (F0 m (pc + 3) ls (.int v :: rest))) : W p l e R s m args below meth c H locs cells slots Q (F0 m pc ls ((as.map (xtv ad)).reverse ++ .ref (ad ro iO) :: rest)) := by
  have hpre := wk_xPc C hP hS (.inr (.inr (ro, some iO)) :: as)
  have hfr := wk_freeA C hS
  obtain ⟨hx, hb, hml, hown, hts, hnd, hK, hwf, hD, hA, hsc, hZ⟩ := C
  have hr36 := xtag_lt h0 (by omega) (by omega)
  obtain ⟨q, hq, -⟩ := xW_get Γ ad hr36 hi
  rw [xcell_obj h0, hci] at hq
  obtain ⟨cell, q1, q2, q3⟩ := va_recv hK hP hc hq
  have hM := xmet_run (l := l) (sz := H.size) hh hRL hlt he hwd hok hwf hD
  have hr := va_runU (e := e) (below := below) (meth := meth) (locs := locs) (cells := cells) (slots := slots) (g := F0 m pc ls ((as.map (xtv ad)).reverse ++ .ref (ad ro iO) :: rest)) (rest := rest) (b := ad ro iO) (As := as.map (xtv ad)) ⟨hx, hb, hml, hown, xTs_of hts⟩ hM cw ⟨hpre.1, ⟨cell, q1, q2, q3⟩, hpre.2⟩ rfl (by rw [List.length_map]; exact hn) hls rfl (by
    show 2 * 0 + _ ≤ 8
    omega) hdg ⟨by rw [Nat.sub_self]; exact hR.1, by rw [Nat.sub_self]; exact hR.2⟩
  rw [hr0] at hr
  refine wk_cons hk hr hwf hS (fun q _ h => hfr q h) hfr (fun H1 locs1 hP1 hS1 _ _ => ?_)
  rw [Nat.sub_self, Nat.sub_self]
  exact kk H1 locs1 hP1 hS1
/-- the carrier on a shelf -/
theorem wt_kept (C : wkC p s m args c cc nL RX11 Γ ad σ A) (hP : va_P Γ.1 vwCl (xW Γ ad σ) H) {k : Nat} (hk : k < 8) (hdg : decode cc pc = .ok (.aaload, 1)) (kk : W p l e R s m args below meth c H locs cells slots Q (F0 m (pc + 1) ls (va_rf ((rP σ 12 0 k).map (ad 16)) :: rest))) : W p l e R s m args below meth c H locs cells slots Q (F0 m pc ls (.int (nI k) :: .ref (ad 12 0) :: rest)) := by
  obtain ⟨hx, hb, hml, hown, hts, hnd, hK, hwf, hD, hA, hsc, hZ⟩ := C
  obtain ⟨q, hq, -⟩ := xW_get Γ ad (σ := σ) (r := 12) (i := 0) (by decide) (by show 0 < xcnt σ 12; exact Nat.zero_lt_one)
  have h12 : xtgt 12 = 16 := by decide +kernel
  rw [xcell_refs (by decide +kernel), h12] at hq
  refine va_aldq hx hb hK hP q 2 hq rfl (by
    show vp_in (nI k) 8
    unfold vp_in
    rw [n_lt0 (by omega), n_cl (by omega)]
    rintro (h | h)
    · exact h
    · omega) hdg ?_
  rw [n_cl (by omega)]
  exact kk
/-- an end of toss -/
theorem wt_fin (hx : p.tables.exec = Jvm.exec) (hb : c.code = cX11_toss) (hr : meth.sig.returnType = some .int) (hlocks : meth.locks = false) (hwf : xwf σ) (hD : va_D A (xW Γ ad σ)) {v : Int32} (hv : v = xToss σ d) (hd : decode cX11_toss pc = .ok (.ireturn, 1)) (hk : cells ≤ 1) (hn : slots ≤ 8) (hP : va_P Γ.1 vwCl (xW Γ ad σ) H) (hS : va_S A s.heap H locs) : W p l e R s m args below meth c H locs cells slots (MQ below (xQc Γ ad σ A ((xToss σ d, 0, none), wN σ 1 8) 1 0) args s 1 8 A) (F0 m pc ls [.int v]) := by
  subst hv
  refine W.widen (k := 1) (n := 8) hk hn ?_
  exact W.iret hx hb hr (fun t ht hW => ⟨⟨ad, fun _ _ _ => rfl, rfl, by rw [ht]; exact hP, hD, hwf, xpre_wN, fun v hv => by rw [List.mem_singleton.mp hv]; trivial⟩, hS.F ht⟩) hS.2.2 hd hlocks
/-- no failure -/
theorem wt_norm (C : wkC p s m args c cX11_toss 5 RX11 Γ ad σ A) (hr : meth.sig.returnType = some .int) (hlocks : meth.locks = false) (hv : -15 = xToss σ d) (hk : cells ≤ 1) (hn : slots ≤ 8) (hP : va_P Γ.1 vwCl (xW Γ ad σ) H) (hS : va_S A s.heap H locs) : W p l e R s m args below meth c H locs cells slots (MQ below (xQc Γ ad σ A ((xToss σ d, 0, none), wN σ 1 8) 1 0) args s 1 8 A) (F0 m 32 ls []) := by
  obtain ⟨hx, hb, hml, hown, hts, hnd, hK, hwf, hD, hA, hsc, hZ⟩ := C
  refine lv_goto hx hb (by decide +kernel : decode cX11_toss 32 = .ok (.goto 31, 3)) (tgt := 63) rfl ?_
  refine lv_bipush hx hb (v := -15) (by decide +kernel : decode cX11_toss 63 = .ok (.bipush (-15), 2)) (by decide) ?_
  exact wt_fin hx hb hr hlocks hwf hD hv (by decide +kernel) hk hn hP hS
theorem wt_lk {T : u_T} (hT : T 1 = TX0 1) : Jvm.Cond.fieldLink RX11 100 RX0 (T 1).2.1 (T 1).2.2.1 ∈ lw_tbl ∧ goodWord (Jvm.Cond.fieldLink RX11 100 RX0 (T 1).2.1 (T 1).2.2.1) = true := by
  rw [hT]
  exact ⟨by decide +kernel, by decide +kernel⟩
/-- the first handler -/
theorem wt_ise (C : wkC p s m args c cX11_toss 5 RX11 Γ ad σ A) (hr : meth.sig.returnType = some .int) (hlocks : meth.locks = false) (htab : c.exceptionTable.toList = tableOf tHH) {i ci : Nat} {Cn : String} {T : u_T} (hi : i < xcnt σ 16) (hci : (rC σ).getD i 0 = ci) (hc : vwCl[ci]? = some (Cn, T, 2)) (hT : T 1 = TX0 1) (hv : rI σ 16 i 1 = xToss σ d) (hl : lv_has ls 5 [(3, .ref (ad 16 i))]) (hk : cells ≤ 1) (hn : slots ≤ 8) {q9 : Nat} {ce : Cell} (hP : va_P Γ.1 vwCl (xW Γ ad σ) H) (hS : va_S A s.heap H locs) (hq9 : H[q9]? = some ce) (hce : ce.vm = .none) (hcl : s.vm.findClass "java/lang/IllegalStateException" = some ce.cls) : vx_W p l e R s m args below meth c H locs cells slots (MQ below (xQc Γ ad σ A ((xToss σ d, 0, none), wN σ 1 8) 1 0) args s 1 8 A) (F0 m 29 ls []) q9 := by
  have C0 := C
  obtain ⟨hx, hb, hml, hown, hts, hnd, hK, hwf, hD, hA, hsc, hZ⟩ := C
  refine vx_catch hown [] ⟨28, 32, 35, 244⟩ [⟨28, 32, 42, 234⟩, ⟨28, 32, 52, 270⟩] htab (fun z hz => by cases hz) (by decide) (by decide) (hts (.classLink RX11 244 "java/lang/IllegalStateException") (by decide +kernel) (by decide +kernel)) (va_Nw.use rfl (hnd (.castable "java/lang/IllegalStateException" "java/lang/IllegalStateException") (by decide +kernel) (by decide +kernel))) hq9 hce hcl ?_
  refine lv_astore hx hb (by decide +kernel : decode cX11_toss 35 = .ok (.astore 4, 2)) hl (by decide) rfl (fun ls hl => ?_)
  have hl : lv_has ls 5 [(4, .ref q9), (3, .ref (ad 16 i))] := hl
  refine lv_aload_n hx hb (by decide +kernel : decode cX11_toss 37 = .ok (.aload_n 3, 1)) rfl (lv_at hl 1 rfl) ?_
  refine wt_fig C0 hP hi hci hc (wt_lk hT) (by rw [hT]; rfl) (by decide +kernel) ?_
  exact wt_fin hx hb hr hlocks hwf hD hv (by decide +kernel) hk hn hP hS
/-- the second -/
theorem wt_iae (C : wkC p s m args c cX11_toss 5 RX11 Γ ad σ A) (hnc : weNc s) (hr : meth.sig.returnType = some .int) (hlocks : meth.locks = false) (htab : c.exceptionTable.toList = tableOf tHH) {i : Nat} (hi : i < xcnt σ 16) (hci : (rC σ).getD i 0 = 8) (hv : 100 + rI σ 16 i 1 = xToss σ d) (hl : lv_has ls 5 [(3, .ref (ad 16 i))]) (hk : cells ≤ 1) (hn : slots ≤ 8) {q9 : Nat} {ce : Cell} (hP : va_P Γ.1 vwCl (xW Γ ad σ) H) (hS : va_S A s.heap H locs) (hq9 : H[q9]? = some ce) (hce : ce.vm = .none) (hcl : s.vm.findClass "java/lang/IllegalArgumentException" = some ce.cls) : vx_W p l e R s m args below meth c H locs cells slots (MQ below (xQc Γ ad σ A ((xToss σ d, 0, none), wN σ 1 8) 1 0) args s 1 8 A) (F0 m 29 ls []) q9 := by
  have C0 := C
  obtain ⟨hx, hb, hml, hown, hts, hnd, hK, hwf, hD, hA, hsc, hZ⟩ := C
  refine vx_catch hown [⟨28, 32, 35, 244⟩] ⟨28, 32, 42, 234⟩ [⟨28, 32, 52, 270⟩] htab (fun z hz => Or.inr (by
    rw [List.mem_singleton.mp hz]
    exact ⟨by decide, "java/lang/IllegalStateException", hts (.classLink RX11 244 "java/lang/IllegalStateException") (by decide +kernel) (by decide +kernel), hnc.2.1⟩)) (by decide) (by decide) (hts (.classLink RX11 234 "java/lang/IllegalArgumentException") (by decide +kernel) (by decide +kernel)) (va_Nw.use rfl (hnd (.castable "java/lang/IllegalArgumentException" "java/lang/IllegalArgumentException") (by decide +kernel) (by decide +kernel))) hq9 hce hcl ?_
  refine lv_astore hx hb (by decide +kernel : decode cX11_toss 42 = .ok (.astore 4, 2)) hl (by decide) rfl (fun ls hl => ?_)
  have hl : lv_has ls 5 [(4, .ref q9), (3, .ref (ad 16 i))] := hl
  refine lv_bipush hx hb (v := 100) (by decide +kernel : decode cX11_toss 44 = .ok (.bipush 100, 2)) (by decide) ?_
  refine lv_aload_n hx hb (by decide +kernel : decode cX11_toss 46 = .ok (.aload_n 3, 1)) rfl (lv_at hl 1 rfl) ?_
  refine wt_fig C0 hP hi hci (Cn := RX8) (T := TX8) rfl (wt_lk rfl) rfl (by decide +kernel) ?_
  refine lv_iadd hx hb (by decide +kernel : decode cX11_toss 50 = .ok (.iadd, 1)) ?_
  exact wt_fin hx hb hr hlocks hwf hD hv (by decide +kernel) hk hn hP hS
/-- the third -/
theorem wt_uoe (C : wkC p s m args c cX11_toss 5 RX11 Γ ad σ A) (hnc : weNc s) (hr : meth.sig.returnType = some .int) (hlocks : meth.locks = false) (hR : 5 ≤ R.frames ∧ 276 ≤ R.locals ∧ 1 ≤ R.cells ∧ 8 ≤ R.slots) (htab : c.exceptionTable.toList = tableOf tHH) {i : Nat} (hi : i < xcnt σ 16) (hci : (rC σ).getD i 0 = 4) (hv : 200 + 2 * (5 + 2 * rI σ 16 i 1) = xToss σ d) (hl : lv_has ls 5 [(3, .ref (ad 16 i))]) (hk : cells ≤ 1) (hn : slots ≤ 8) {q9 : Nat} {ce : Cell} (hP : va_P Γ.1 vwCl (xW Γ ad σ) H) (hS : va_S A s.heap H locs) (hq9 : H[q9]? = some ce) (hce : ce.vm = .none) (hcl : s.vm.findClass "java/lang/UnsupportedOperationException" = some ce.cls) : vx_W p l e R s m args below meth c H locs cells slots (MQ below (xQc Γ ad σ A ((xToss σ d, 0, none), wN σ 1 8) 1 0) args s 1 8 A) (F0 m 29 ls []) q9 := by
  have C0 := C
  obtain ⟨hx, hb, hml, hown, hts, hnd, hK, hwf, hD, hA, hsc, hZ⟩ := C
  refine vx_catch hown [⟨28, 32, 35, 244⟩, ⟨28, 32, 42, 234⟩] ⟨28, 32, 52, 270⟩ [] htab (fun z hz => Or.inr (by
    rcases List.mem_cons.mp hz with h | h
    · rw [h]
      exact ⟨by decide, "java/lang/IllegalStateException", hts (.classLink RX11 244 "java/lang/IllegalStateException") (by decide +kernel) (by decide +kernel), hnc.2.2.1⟩
    · rw [List.mem_singleton.mp h]
      exact ⟨by decide, "java/lang/IllegalArgumentException", hts (.classLink RX11 234 "java/lang/IllegalArgumentException") (by decide +kernel) (by decide +kernel), hnc.2.2.2⟩)) (by decide) (by decide) (hts (.classLink RX11 270 "java/lang/UnsupportedOperationException") (by decide +kernel) (by decide +kernel)) (va_Nw.use rfl (hnd (.castable "java/lang/UnsupportedOperationException" "java/lang/UnsupportedOperationException") (by decide +kernel) (by decide +kernel))) hq9 hce hcl ?_
  refine lv_astore hx hb (by decide +kernel : decode cX11_toss 52 = .ok (.astore 4, 2)) hl (by decide) rfl (fun ls hl => ?_)
  have hl : lv_has ls 5 [(4, .ref q9), (3, .ref (ad 16 i))] := hl
  refine lv_sipush hx hb (v := 200) (by decide +kernel : decode cX11_toss 54 = .ok (.sipush 200, 3)) (by decide) ?_
  refine lv_aload_n hx hb (by decide +kernel : decode cX11_toss 57 = .ok (.aload_n 3, 1)) rfl (lv_at hl 1 rfl) ?_
  refine wk_pureU (x := yX0_pay) C0 hP hS (y1 := 117) (Cn := RX4) (T := TX4) (N := 2) (ro := 16) (iO := i) (ci := 4) (as := []) (rest := [.int 200]) xh_117 (by decide +kernel) (by decide +kernel) (wt_pay σ i) (Nat.le_of_ble_eq_true rfl) (fun v hv => by
      rw [List.mem_singleton.mp hv]; exact hi) (wt_CU (b0 := cX0_pay) (m0 := 1) (r0 := some .int) hts ⟨by decide +kernel, by decide +kernel⟩ ⟨by decide +kernel, by decide +kernel⟩ ⟨by decide +kernel, by decide +kernel⟩ ⟨by decide +kernel, by decide +kernel⟩ ⟨by decide +kernel, by decide +kernel⟩ ⟨by decide +kernel, by decide +kernel⟩ ⟨by decide +kernel, by decide +kernel⟩ ⟨by decide +kernel, by decide +kernel⟩ (by decide +kernel) rfl rfl ⟨hR.1, hR.2.1⟩) (by decide +kernel) hi (by unfold xcls; rw [if_pos rfl]; exact hci) rfl (by decide +kernel) (by decide +kernel) rfl hl.1 (by decide) (by decide +kernel : decode cX11_toss 58 = .ok (.invokevirtual 264, 3)) ⟨Nat.le_trans hk hR.2.2.1, Nat.le_trans hn hR.2.2.2⟩ (fun H locs hP hS => ?_)
  refine lv_iadd hx hb (by decide +kernel : decode cX11_toss 61 = .ok (.iadd, 1)) ?_
  exact wt_fin hx hb hr hlocks hwf hD hv (by decide +kernel) hk hn hP hS
end WU
