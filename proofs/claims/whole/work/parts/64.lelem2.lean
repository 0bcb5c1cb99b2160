set_option maxHeartbeats 4000000 in
theorem wl_elem (l : Launch) (hlf : l.stackTraces = false) {Γ : xΓ} {ad : Nat → Nat → Nat} {σ : xS} {d i : Int32} {sz : Nat} {A0 : Nat → Prop} (hwf : xwf σ) (hD0 : va_D A0 (xW Γ ad σ)) : Met l yL_element (.codeWith yL_element cL_element 5 (some .int) leHH :: xTs) { frames := 16, cells := 1, slots := 8, locals := 1024 } (wcPre Γ ad σ [.inr (.inr (0, some 0)), .inl d, .inl i, .inr (.inr (35, some 0))] sz) (xQc Γ ad σ (va_A (xW Γ ad σ) sz) (((xElem σ d i).1, 0, none), (xElem σ d i).2) 1 0) 1 8 (va_A (xW Γ ad σ) sz) := by
  refine wk_metH (by decide) rfl ?_
  intro p e s m args below meth c s₁ B hml hv
  obtain ⟨⟨⟨rfl, hsz, hP, hnw, hK, hsc⟩, hnd, hZ⟩, hnc⟩ := hv
  have hb := B.bytes
  have hx := B.exec
  have hr := B.returns
  have hlocks := B.notSynchronized
  have htw := atoms_spec (ws := .codeWith yL_element cL_element 5 (some .int) leHH :: xTs) B.pre
  have hts : ∀ w ∈ lw_tbl, goodWord w = true → w.before ((([.inr (.inr (0, some 0)), .inl d, .inl i, .inr (.inr (35, some 0))] : List xV).map (xtv ad)).toArray) s = true := fun w h1 h2 => htw w (List.mem_cons_of_mem _ (List.mem_filter.mpr ⟨h1, h2⟩))
  have htab : c.exceptionTable.toList = tableOf leHH := vx_table (x := yL_element) B (htw _ List.mem_cons_self)
  have hown : s.vm.findClass RL = some m.cls := findClass_of_methodNamed B.named
  subst hsz
  have hD := hD0.self (sz := s.heap.size)
  have C : wkC p s m ((([.inr (.inr (0, some 0)), .inl d, .inl i, .inr (.inr (35, some 0))] : List xV).map (xtv ad)).toArray) c cL_element 5 RL Γ ad σ (va_A (xW Γ ad σ) s.heap.size) := ⟨hx, hb, hml, hown, hts, hnd, hK, hwf, hD, fun q h => Or.inr h, hsc, hZ⟩
  have hS : va_S (va_A (xW Γ ad σ) s.heap.size) s.heap s.heap [] := va_S.rf
  have hl := lv_entry ([.ref (ad 0 0), .int d, .int i, .ref (ad 35 0)]) (n := 5) (Nat.le_of_ble_eq_true rfl)
  have hent : entryFrame m ((([.inr (.inr (0, some 0)), .inl d, .inl i, .inr (.inr (35, some 0))] : List xV).map (xtv ad)).toArray) 5 = entryFrame m ([.ref (ad 0 0), .int d, .int i, .ref (ad 35 0)] : List Value).toArray 5 := rfl
  rw [hent, lg_entry_eq]
  generalize (lg_sl ([.ref (ad 0 0), .int d, .int i, .ref (ad 35 0)]) ++ List.replicate (5 - (lg_sl ([.ref (ad 0 0), .int d, .int i, .ref (ad 35 0)])).length) Slot.unset).toArray = ls at hl ⊢
  have hl : lv_has ls 5 [(0, .ref (ad 0 0)), (1, .int d), (2, .int i), (3, .ref (ad 35 0))] := hl
  refine lv_aload_n hx hb (by decide +kernel : decode cL_element 0 = .ok (.aload_n 3, 1)) rfl (lv_at hl 3 rfl) ?_
  refine lv_iconst hx hb (v := 0) (by decide +kernel : decode cL_element 1 = .ok (.iconst 0, 1)) rfl ?_
  refine lv_aload_n hx hb (by decide +kernel : decode cL_element 2 = .ok (.aload_n 0, 1)) rfl (lv_at hl 0 rfl) ?_
  refine lv_iload_n hx hb (by decide +kernel : decode cL_element 3 = .ok (.iload_n 1, 1)) rfl (lv_at hl 1 rfl) ?_
  refine lv_iload_n hx hb (by decide +kernel : decode cL_element 4 = .ok (.iload_n 2, 1)) rfl (lv_at hl 2 rfl) ?_
  have hpre := wk_wePre C hP hS [.inr (.inr (0, some 0)), .inl d, .inl i]
  obtain ⟨q0, hq0, -⟩ := xW_get Γ ad (σ := σ) (r := 0) (i := 0) (by decide) (by show 0 < xcnt σ 0; exact Nat.zero_lt_one)
  rw [xcell_obj (by decide +kernel)] at hq0
  have hcl0 : xcls σ 0 0 = 11 := by unfold xcls; rw [if_neg (by decide)]; decide +kernel
  rw [hcl0] at hq0
  obtain ⟨cell, g1, g2, g3⟩ := va_recv (q := (RX11, TX11, 9)) hK hP rfl hq0
  refine vx_calll (vx_runV (As := [.int d, .int i]) (rest := [.int 0, .ref (ad 35 0)]) ⟨hx, hb, hml, hown, xTs_of hts⟩ (we_elem l hlf hwf hD0 (sz := s.heap.size)) (cwV (C := RX11) 2 (xTs_of hts) (wk_goodV ⟨by decide +kernel, by decide +kernel⟩ ⟨by decide +kernel, by decide +kernel⟩ ⟨by decide +kernel, by decide +kernel⟩ ⟨by decide +kernel, by decide +kernel⟩ ⟨by decide +kernel, by decide +kernel⟩) rfl rfl rfl (by decide +kernel) ⟨Nat.le_of_ble_eq_true rfl, Nat.le_of_ble_eq_true rfl⟩) ⟨wePre_blind, ⟨cell, g1, g2, g3⟩, hpre.2⟩ rfl rfl hl.1 rfl (Nat.le_of_ble_eq_true rfl) (by decide +kernel : decode cL_element 5 = .ok (.invokevirtual 7, 3)) ⟨Nat.le_of_ble_eq_true rfl, Nat.le_of_ble_eq_true rfl⟩) hS (fun q _ h => h) (fun q h => h) (fun q _ h => h) (fun E ce q9 u t H1 locs1 ht hvm _ hB hz hk hS1 hq9 hce hcl => ?_) (fun r u t H1 locs1 ht hvm hpost hB hz hk hS1 => ?_)
  · obtain ⟨hP1, hE⟩ := hB
    rw [ht] at hP1
    rcases hE with ⟨rfl, ho⟩ | ⟨rfl, ho, hn⟩
    · have he : xElem σ d i = (1, wN σ 1 8) := by
        rcases xE_case σ d i with ⟨_, h⟩ | ⟨h, _⟩ | ⟨h, _⟩
        · exact h
        · exact absurd ho h
        · exact absurd ho h
      rw [he]
      refine vx_catch hown [] ⟨0, 9, 12, 13⟩ [⟨0, 9, 16, 15⟩] htab (fun z hz => by cases hz) (by decide) (by decide) (hts (.classLink RL 13 "java/lang/IllegalArgumentException") (by decide +kernel) (by decide +kernel)) (va_Nw.use rfl (hnd (.castable "java/lang/IllegalArgumentException" "java/lang/IllegalArgumentException") (by decide +kernel) (by decide +kernel))) hq9 hce hcl ?_
      refine lv_astore hx hb (by decide +kernel : decode cL_element 12 = .ok (.astore 4, 2)) hl (by decide) rfl (fun ls hl => ?_)
      refine lv_iconst hx hb (v := 1) (by decide +kernel : decode cL_element 14 = .ok (.iconst 1, 1)) rfl ?_
      refine W.widen (k := 1) (n := 8) (by decide) (by decide) ?_
      exact W.iret hx hb hr (fun t ht hW => ⟨⟨ad, fun _ _ _ => rfl, rfl, by rw [ht]; exact hP1, hD, hwf, xpre_wN, fun v hv => by rw [List.mem_singleton.mp hv]; trivial⟩, hS1.F ht⟩) hS1.2.2 (by decide +kernel : decode cL_element 15 = .ok (.ireturn, 1)) hlocks
    · have he : xElem σ d i = (2, wN σ 1 8) := by
        rcases xE_case σ d i with ⟨h, _⟩ | ⟨_, _, h⟩ | ⟨_, h, _⟩
        · exact absurd h ho
        · exact h
        · exact absurd hn h
      rw [he]
      refine vx_catch hown [⟨0, 9, 12, 13⟩] ⟨0, 9, 16, 15⟩ [] htab (fun z hz => Or.inr (by
        rw [List.mem_singleton.mp hz]
        exact ⟨by decide, "java/lang/IllegalArgumentException", hts (.classLink RL 13 "java/lang/IllegalArgumentException") (by decide +kernel) (by decide +kernel), hnc.1⟩)) (by decide) (by decide) (hts (.classLink RL 15 "java/lang/IllegalStateException") (by decide +kernel) (by decide +kernel)) (va_Nw.use rfl (hnd (.castable "java/lang/IllegalStateException" "java/lang/IllegalStateException") (by decide +kernel) (by decide +kernel))) hq9 hce hcl ?_
      refine lv_astore hx hb (by decide +kernel : decode cL_element 16 = .ok (.astore 4, 2)) hl (by decide) rfl (fun ls hl => ?_)
      refine lv_iconst hx hb (v := 2) (by decide +kernel : decode cL_element 18 = .ok (.iconst 2, 1)) rfl ?_
      refine W.widen (k := 1) (n := 8) (by decide) (by decide) ?_
      exact W.iret hx hb hr (fun t ht hW => ⟨⟨ad, fun _ _ _ => rfl, rfl, by rw [ht]; exact hP1, hD, hwf, xpre_wN, fun v hv => by rw [List.mem_singleton.mp hv]; trivial⟩, hS1.F ht⟩) hS1.2.2 (by decide +kernel : decode cL_element 19 = .ok (.ireturn, 1)) hlocks
  · obtain ⟨ho, hn, rfl⟩ := hpost
    have hP1 : va_P Γ.1 vwCl (xW Γ ad σ) H1 := by rw [← ht]; exact hB
    have he : xElem σ d i = (0, wL (wN σ 1 8) 35 0 0 (rI σ 15 d.toNatClampNeg i.toNatClampNeg).toInt64) := by
      rcases xE_case σ d i with ⟨h, _⟩ | ⟨_, h, _⟩ | ⟨_, _, h⟩
      · exact absurd h ho
      · exact absurd h hn
      · exact h
    rw [he]
    have h35 : (xreg 35).2.1 = 1 := by decide +kernel
    obtain ⟨q35, hq35, hqn⟩ := xW_get Γ ad (σ := σ) (r := 35) (i := 0) (by decide) (by show 0 < xcnt σ 35; exact Nat.zero_lt_one)
    rw [xcell_longs (by decide +kernel), h35] at hq35
    refine va_last hx hb hK hP1 hD hS1 q35 1 hq35 rfl (by unfold vp_in; decide) (by decide +kernel : decode cL_element 8 = .ok (.lastore, 1)) (fun H2 locs2 hP2 hD2 hS2 => ?_)
    rw [xset_35 _ hD hqn] at hP2 hD2
    refine lv_goto hx hb (by decide +kernel : decode cL_element 9 = .ok (.goto 11, 3)) (tgt := 20) rfl ?_
    refine lv_iconst hx hb (v := 0) (by decide +kernel : decode cL_element 20 = .ok (.iconst 0, 1)) rfl ?_
    refine W.widen (k := 1) (n := 8) (by decide) (by decide) ?_
    exact W.iret hx hb hr (fun t ht hW => ⟨⟨ad, fun _ _ _ => rfl, rfl, by rw [ht]; exact hP2, hD2, xwf_same hwf rfl rfl, ⟨⟨[], (List.append_nil _).symm⟩, Nat.le_add_right _ _, Nat.le_add_right _ _, fun _ => rfl⟩, fun v hv => by rw [List.mem_singleton.mp hv]; trivial⟩, hS2.F ht⟩) hS2.2.2 (by decide +kernel : decode cL_element 21 = .ok (.ireturn, 1)) hlocks
