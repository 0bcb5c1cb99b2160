/-! toss, walked: the call of fail by the carrier's class; the whole -/
section WV
variable {p : Program} {l : Launch} {e : Env} {R : Room} {s : State} {m : MethodId} {args : Array Value} {below : List Frame} {meth : Method} {c : Code} {H : Heap} {locs : List Loc}
variable {ls : Array Slot} {A : Nat → Prop} {Γ : xΓ} {ad : Nat → Nat → Nat} {σ : xS} {d : Int32}
set_option maxHeartbeats 4000000 in
theorem wt_at29 (hlf : l.stackTraces = false) (C : wkC p s m args c cX11_toss 5 RX11 Γ ad σ A) (hnc : weNc s) (hr : meth.sig.returnType = some .int) (hlocks : meth.locks = false) (hR : 9 ≤ R.frames ∧ 532 ≤ R.locals ∧ 1 ≤ R.cells ∧ 8 ≤ R.slots) (htab : c.exceptionTable.toList = tableOf tHH) {i : Nat} (hi : i < xcnt σ 16) (hcs : (rC σ).getD i 0 ∈ xcsr) (hT : xToss σ d = (if (rC σ).getD i 0 = 1 ∨ rI σ 16 i 1 = 0 then -15 else if (rC σ).getD i 0 = 8 then 100 + rI σ 16 i 1 else if (rC σ).getD i 0 = 4 then 200 + 2 * (5 + 2 * rI σ 16 i 1) else rI σ 16 i 1)) (hl : lv_has ls 5 [(3, .ref (ad 16 i))]) (hP : va_P Γ.1 vwCl (xW Γ ad σ) H) (hS : va_S A s.heap H locs) : W p l e R s m args below meth c H locs 0 0 (MQ below (xQc Γ ad σ A ((xToss σ d, 0, none), wN σ 1 8) 1 0) args s 1 8 A) (F0 m 29 ls [.ref (ad 16 i)]) := by
  have hts := C.2.2.2.2.1
  have f0 : ∀ (ci : Nat) (Cn : String) (T : u_T), vwCl[ci]? = some (Cn, T, 2) → T 1 = TX0 1 → (rC σ).getD i 0 = ci → ci ≠ 1 → ci ≠ 8 → ci ≠ 4 → (Jvm.Cond.selects Cn yX0_fail yX0_fail ∈ lw_tbl ∧ goodWord (Jvm.Cond.selects Cn yX0_fail yX0_fail) = true) → W p l e R s m args below meth c H locs 0 0 (MQ below (xQc Γ ad σ A ((xToss σ d, 0, none), wN σ 1 8) 1 0) args s 1 8 A) (F0 m 29 ls [.ref (ad 16 i)]) := by
    intro ci Cn T hc hT1 hci n1 n8 n4 hsel
    rw [hci] at hT
    refine wt_fail C hP hS hi hci hc (fun sz => wt_f0 l hlf hc hT1 hi hci) (wt_CF hts hsel ⟨by decide +kernel, by decide +kernel⟩ ⟨by decide +kernel, by decide +kernel⟩ ⟨by decide +kernel, by decide +kernel⟩ ⟨hR.1, hR.2.1⟩) hl.1 (by decide) (by decide +kernel) ⟨hR.2.2.1, Nat.le_trans (by decide) hR.2.2.2⟩ (fun hf H1 locs1 ce q9 hP1 hS1 hq9 hce hcl => ?_) (fun hf H1 locs1 hP1 hS1 => ?_)
    · refine wt_ise C hr hlocks htab hi hci hc hT1 ?_ hl (by decide) (by decide) hP1 hS1 hq9 hce hcl
      rw [hT, if_neg (by rintro (h | h); exact n1 h; exact hf h), if_neg n8, if_neg n4]
    · refine wt_norm C hr hlocks ?_ (by decide) (by decide) hP1 hS1
      rcases hf with h | h
      · cases h
      · rw [hT, if_pos (Or.inr h)]
  have hcs : (rC σ).getD i 0 = 0 ∨ (rC σ).getD i 0 = 1 ∨ (rC σ).getD i 0 = 3 ∨ (rC σ).getD i 0 = 4 ∨ (rC σ).getD i 0 = 5 ∨ (rC σ).getD i 0 = 6 ∨ (rC σ).getD i 0 = 8 ∨ (rC σ).getD i 0 = 9 := by
    unfold xcsr at hcs
    simp only [List.mem_cons, List.not_mem_nil, or_false] at hcs
    exact hcs
  rcases hcs with h | h | h | h | h | h | h | h
  · exact f0 0 RX0 TX0 rfl rfl h (by decide) (by decide) (by decide) ⟨by decide +kernel, by decide +kernel⟩
  · rw [h] at hT
    refine wt_fail (ci := 1) (Cn := RX1) (T := TX1) (N := 2) C hP hS hi h rfl (fun sz => wt_f1 l) (wt_CF hts ⟨by decide +kernel, by decide +kernel⟩ ⟨by decide +kernel, by decide +kernel⟩ ⟨by decide +kernel, by decide +kernel⟩ ⟨by decide +kernel, by decide +kernel⟩ ⟨hR.1, hR.2.1⟩) hl.1 (by decide) (by decide +kernel) ⟨hR.2.2.1, Nat.le_trans (by decide) hR.2.2.2⟩ (fun hf H1 locs1 ce q9 hP1 hS1 hq9 hce hcl => ?_) (fun hf H1 locs1 hP1 hS1 => ?_)
    · exact hf.elim
    · refine wt_norm C hr hlocks ?_ (by decide) (by decide) hP1 hS1
      rw [hT, if_pos (Or.inl rfl)]
  · exact f0 3 RX3 TX3 rfl rfl h (by decide) (by decide) (by decide) ⟨by decide +kernel, by decide +kernel⟩
  · rw [h] at hT
    refine wt_fail (ci := 4) (Cn := RX4) (T := TX4) (N := 2) C hP hS hi h rfl (fun sz => wt_f4 l hlf hi h) (wt_CF hts ⟨by decide +kernel, by decide +kernel⟩ ⟨by decide +kernel, by decide +kernel⟩ ⟨by decide +kernel, by decide +kernel⟩ ⟨by decide +kernel, by decide +kernel⟩ ⟨hR.1, hR.2.1⟩) hl.1 (by decide) (by decide +kernel) ⟨hR.2.2.1, Nat.le_trans (by decide) hR.2.2.2⟩ (fun hf H1 locs1 ce q9 hP1 hS1 hq9 hce hcl => ?_) (fun hf H1 locs1 hP1 hS1 => ?_)
    · refine wt_uoe C hnc hr hlocks ⟨Nat.le_trans (by decide) hR.1, Nat.le_trans (by decide) hR.2.1, hR.2.2.1, hR.2.2.2⟩ htab hi h ?_ hl (by decide) (by decide) hP1 hS1 hq9 hce hcl
      rw [hT, if_neg (by rintro (z | z); exact absurd z (by decide); exact hf z), if_neg (by decide), if_pos rfl]
    · refine wt_norm C hr hlocks ?_ (by decide) (by decide) hP1 hS1
      rcases hf with z | z
      · cases z
      · rw [hT, if_pos (Or.inr z)]
  · exact f0 5 RX5 TX5 rfl rfl h (by decide) (by decide) (by decide) ⟨by decide +kernel, by decide +kernel⟩
  · exact f0 6 RX6 TX6 rfl rfl h (by decide) (by decide) (by decide) ⟨by decide +kernel, by decide +kernel⟩
  · rw [h] at hT
    refine wt_fail (ci := 8) (Cn := RX8) (T := TX8) (N := 2) C hP hS hi h rfl (fun sz => wt_f8 l hlf hi h) (wt_CF hts ⟨by decide +kernel, by decide +kernel⟩ ⟨by decide +kernel, by decide +kernel⟩ ⟨by decide +kernel, by decide +kernel⟩ ⟨by decide +kernel, by decide +kernel⟩ ⟨hR.1, hR.2.1⟩) hl.1 (by decide) (by decide +kernel) ⟨hR.2.2.1, Nat.le_trans (by decide) hR.2.2.2⟩ (fun hf H1 locs1 ce q9 hP1 hS1 hq9 hce hcl => ?_) (fun hf H1 locs1 hP1 hS1 => ?_)
    · refine wt_iae C hnc hr hlocks htab hi h ?_ hl (by decide) (by decide) hP1 hS1 hq9 hce hcl
      rw [hT, if_neg (by rintro (z | z); exact absurd z (by decide); exact hf z), if_pos rfl]
    · refine wt_norm C hr hlocks ?_ (by decide) (by decide) hP1 hS1
      rcases hf with z | z
      · cases z
      · rw [hT, if_pos (Or.inr z)]
  · exact f0 9 RX9 TX9 rfl rfl h (by decide) (by decide) (by decide) ⟨by decide +kernel, by decide +kernel⟩
end WV
set_option maxHeartbeats 4000000 in
/-- the walk of toss -/
theorem wt_toss (l : Launch) (hlf : l.stackTraces = false) {Γ : xΓ} {ad : Nat → Nat → Nat} {σ : xS} {d : Int32} {sz : Nat} {A0 : Nat → Prop} (hwf : xwf σ) (hD0 : va_D A0 (xW Γ ad σ)) : Met l yX11_toss (.codeWith yX11_toss cX11_toss 5 (some .int) tHH :: xTs) { frames := 16, cells := 1, slots := 8, locals := 1024 } (wcPre Γ ad σ [.inr (.inr (0, some 0)), .inl d] sz) (xQc Γ ad σ (va_A (xW Γ ad σ) sz) ((xToss σ d, 0, none), wN σ 1 8) 1 0) 1 8 (va_A (xW Γ ad σ) sz) := by
  refine wk_metH (by decide) rfl ?_
  intro p e s m args below meth c s₁ B hml hv
  obtain ⟨⟨⟨rfl, hsz, hP, hnw, hK, hsc⟩, hnd, hZ⟩, hnc⟩ := hv
  have hb := B.bytes
  have hx := B.exec
  have hr := B.returns
  have hlocks := B.notSynchronized
  have htw := atoms_spec (ws := .codeWith yX11_toss cX11_toss 5 (some .int) tHH :: xTs) B.pre
  have hts : ∀ w ∈ lw_tbl, goodWord w = true → w.before ((([.inr (.inr (0, some 0)), .inl d] : List xV).map (xtv ad)).toArray) s = true := fun w h1 h2 => htw w (List.mem_cons_of_mem _ (List.mem_filter.mpr ⟨h1, h2⟩))
  have htab : c.exceptionTable.toList = tableOf tHH := vx_table (x := yX11_toss) B (htw _ List.mem_cons_self)
  have hown : s.vm.findClass RX11 = some m.cls := findClass_of_methodNamed B.named
  subst hsz
  have hD := hD0.self (sz := s.heap.size)
  have C : wkC p s m ((([.inr (.inr (0, some 0)), .inl d] : List xV).map (xtv ad)).toArray) c cX11_toss 5 RX11 Γ ad σ (va_A (xW Γ ad σ) s.heap.size) := ⟨hx, hb, hml, hown, hts, hnd, hK, hwf, hD, fun q h => Or.inr h, hsc, hZ⟩
  have hS : va_S (va_A (xW Γ ad σ) s.heap.size) s.heap s.heap [] := va_S.rf
  have hl := lv_entry ([.ref (ad 0 0), .int d]) (n := 5) (Nat.le_of_ble_eq_true rfl)
  have hent : entryFrame m ((([.inr (.inr (0, some 0)), .inl d] : List xV).map (xtv ad)).toArray) 5 = entryFrame m ([.ref (ad 0 0), .int d] : List Value).toArray 5 := rfl
  rw [hent, lg_entry_eq]
  generalize (lg_sl ([.ref (ad 0 0), .int d]) ++ List.replicate (5 - (lg_sl ([.ref (ad 0 0), .int d])).length) Slot.unset).toArray = ls at hl ⊢
  have hl : lv_has ls 5 [(0, .ref (ad 0 0)), (1, .int d)] := hl
  have h00 : 0 < xcnt σ 0 := by show 0 < 1; exact Nat.zero_lt_one
  refine lv_aload_n hx hb (by decide +kernel : decode cX11_toss 0 = .ok (.aload_n 0, 1)) rfl (lv_at hl 0 rfl) ?_
  refine lv_iload_n hx hb (by decide +kernel : decode cX11_toss 1 = .ok (.iload_n 1, 1)) rfl (lv_at hl 1 rfl) ?_
  refine wk_pureV C hP hS (y1 := 172) (Cn := RX11) (T := TX11) (N := 9) (ro := 0) (iO := 0) (ci := 11) (as := [.inl d]) (rest := []) xh_172 (by decide +kernel) (by decide +kernel) (wt_ref σ d) (Nat.le_of_ble_eq_true rfl) (fun v hv => by
      rcases List.mem_cons.mp hv with h | h
      · rw [h]; exact h00
      · rw [List.mem_singleton.mp h]; trivial) (cwV 1 (xTs_of hts) (wk_goodV ⟨by decide +kernel, by decide +kernel⟩ ⟨by decide +kernel, by decide +kernel⟩ ⟨by decide +kernel, by decide +kernel⟩ ⟨by decide +kernel, by decide +kernel⟩ ⟨by decide +kernel, by decide +kernel⟩) rfl rfl rfl (by decide +kernel) ⟨Nat.le_of_ble_eq_true rfl, Nat.le_of_ble_eq_true rfl⟩) (by decide +kernel) h00 (by unfold xcls; rw [if_neg (by decide)]; decide +kernel) rfl (by decide +kernel) (by decide +kernel) rfl hl.1 (by decide) (by decide +kernel : decode cX11_toss 2 = .ok (.invokevirtual 103, 3)) ⟨by decide, by decide⟩ (fun H locs hP hS => ?_)
  refine lv_istore_n hx hb (by decide +kernel : decode cX11_toss 5 = .ok (.istore_n 2, 1)) rfl hl (by decide) rfl (fun ls hl => ?_)
  have hl : lv_has ls 5 [(2, .int (wtRef σ d)), (0, .ref (ad 0 0)), (1, .int d)] := hl
  refine lv_iload_n hx hb (by decide +kernel : decode cX11_toss 6 = .ok (.iload_n 2, 1)) rfl (lv_at hl 0 rfl) ?_
  refine lv_if_ne hx hb (by decide +kernel : decode cX11_toss 7 = .ok (.ifCond .ne 12, 3)) (tgt := 19) rfl (fun h0 => ?_) (fun h0 => ?_)
  · refine lv_iload_n hx hb (by decide +kernel : decode cX11_toss 19 = .ok (.iload_n 2, 1)) rfl (lv_at hl 0 rfl) ?_
    exact wt_fin hx hb hr hlocks hwf hD (wt_no h0).symm (by decide +kernel) (by decide) (by decide) hP hS
  obtain ⟨hno, hT⟩ := wt_yes h0
  have hin : inb d 8 := Classical.not_not.mp (fun z => hno ((we_out σ).mpr z))
  obtain ⟨k, hk, rfl⟩ := inb_of hin (by decide)
  have hkn : (nI k).toNatClampNeg = k := n_cl (by omega)
  rw [hkn] at hT
  refine lv_aload_n hx hb (by decide +kernel : decode cX11_toss 10 = .ok (.aload_n 0, 1)) rfl (lv_at hl 1 rfl) ?_
  refine wk_get0 C hP (k := 6) (idx := 35) (by decide) ⟨by decide +kernel, by decide +kernel⟩ rfl rfl (by decide +kernel) ?_
  refine lv_iload_n hx hb (by decide +kernel : decode cX11_toss 14 = .ok (.iload_n 1, 1)) rfl (lv_at hl 2 rfl) ?_
  refine wt_kept C hP hk (by decide +kernel) ?_
  cases hr12 : rP σ 12 0 k with
  | none =>
    rw [hr12] at hT
    refine lv_ifnonnullN hx hb (by decide +kernel : decode cX11_toss 16 = .ok (.ifnonnull 5, 3)) ?_
    refine lv_iload_n hx hb (by decide +kernel : decode cX11_toss 19 = .ok (.iload_n 2, 1)) rfl (lv_at hl 0 rfl) ?_
    exact wt_fin hx hb hr hlocks hwf hD (h0.trans hT.symm) (by decide +kernel) (by decide) (by decide) hP hS
  | some i =>
    rw [hr12] at hT
    refine lv_ifnonnull (x := ad 16 i) hx hb (by decide +kernel : decode cX11_toss 16 = .ok (.ifnonnull 5, 3)) (tgt := 21) rfl ?_
    refine lv_aload_n hx hb (by decide +kernel : decode cX11_toss 21 = .ok (.aload_n 0, 1)) rfl (lv_at hl 1 rfl) ?_
    refine wk_get0 C hP (k := 6) (idx := 35) (by decide) ⟨by decide +kernel, by decide +kernel⟩ rfl rfl (by decide +kernel) ?_
    refine lv_iload_n hx hb (by decide +kernel : decode cX11_toss 25 = .ok (.iload_n 1, 1)) rfl (lv_at hl 2 rfl) ?_
    refine wt_kept C hP hk (by decide +kernel) ?_
    rw [hr12]
    refine lv_astore_n (x := ad 16 i) hx hb (by decide +kernel : decode cX11_toss 27 = .ok (.astore_n 3, 1)) rfl hl (by decide) rfl (fun ls hl => ?_)
    have hl : lv_has ls 5 [(3, .ref (ad 16 i)), (2, .int (wtRef σ (nI k))), (0, .ref (ad 0 0)), (1, .int (nI k))] := hl
    refine lv_aload_n hx hb (by decide +kernel : decode cX11_toss 28 = .ok (.aload_n 3, 1)) rfl (lv_at hl 0 rfl) ?_
    have h12 : xtgt 12 = 16 := by decide +kernel
    have hi : i < xcnt σ 16 := by
      have h := hwf.1 12 0 k i (by decide +kernel) hr12
      rw [h12] at h
      exact h
    have hlen : i < (rC σ).length := hi
    have hcs : (rC σ).getD i 0 ∈ xcsr := by
      rw [List.getD_eq_getElem?_getD, List.getElem?_eq_getElem hlen]
      exact hwf.2.2 _ (List.getElem_mem hlen)
    exact wt_at29 hlf C hnc hr hlocks ⟨Nat.le_of_ble_eq_true rfl, Nat.le_of_ble_eq_true rfl, Nat.le_of_ble_eq_true rfl, Nat.le_of_ble_eq_true rfl⟩ htab hi hcs hT (lv_sub hl [0] rfl) hP hS
