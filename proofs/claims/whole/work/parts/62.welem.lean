theorem wk_goodS {own : String} {idx : Nat} {y : MethodName} {w : Jvm.Cond} (h1 : Jvm.Cond.methodLink own idx y ∈ lw_tbl ∧ goodWord (Jvm.Cond.methodLink own idx y) = true) (h2 : Jvm.Cond.static y ∈ lw_tbl ∧ goodWord (Jvm.Cond.static y) = true) (h3 : Jvm.Cond.initialized own ∈ lw_tbl ∧ goodWord (Jvm.Cond.initialized own) = true) (h4 : w ∈ lw_tbl ∧ goodWord w = true) : GoodIn xTs (wsS own idx y (w :: xTs)) := by
  intro v hv
  unfold wsS at hv
  rcases List.mem_append.mp hv with h | h
  · have hz : ∀ z : Jvm.Cond, z ∈ lw_tbl ∧ goodWord z = true → z ∈ xTs ∧ ((z.onTables && z.keeps) = true ∨ ∃ ty, z = .arrayClass ty) := fun z hz => ⟨List.mem_filter.mpr hz, good_of_word hz.2⟩
    simp only [List.mem_cons, List.not_mem_nil, or_false] at h
    rcases h with h | h | h
    · rw [h]; exact hz _ h1
    · rw [h]; exact hz _ h2
    · rw [h]; exact hz _ h3
  · exact wk_good h4 v h
theorem wk_goodV {own C : String} {idx : Nat} {y : MethodName} {w : Jvm.Cond} (h1 : Jvm.Cond.methodLink own idx y ∈ lw_tbl ∧ goodWord (Jvm.Cond.methodLink own idx y) = true) (h2 : Jvm.Cond.instanceMethod y ∈ lw_tbl ∧ goodWord (Jvm.Cond.instanceMethod y) = true) (h5 : Jvm.Cond.selects C y y ∈ lw_tbl ∧ goodWord (Jvm.Cond.selects C y y) = true) (h3 : Jvm.Cond.initialized C ∈ lw_tbl ∧ goodWord (Jvm.Cond.initialized C) = true) (h4 : w ∈ lw_tbl ∧ goodWord w = true) : GoodIn xTs (wsV own idx C y (w :: xTs)) := by
  intro v hv
  unfold wsV at hv
  rcases List.mem_append.mp hv with h | h
  · have hz : ∀ z : Jvm.Cond, z ∈ lw_tbl ∧ goodWord z = true → z ∈ xTs ∧ ((z.onTables && z.keeps) = true ∨ ∃ ty, z = .arrayClass ty) := fun z hz => ⟨List.mem_filter.mpr hz, good_of_word hz.2⟩
    simp only [List.mem_cons, List.not_mem_nil, or_false] at h
    rcases h with h | h | h | h
    · rw [h]; exact hz _ h1
    · rw [h]; exact hz _ h2
    · rw [h]; exact hz _ h5
    · rw [h]; exact hz _ h3
  · exact wk_good h4 v h
set_option maxHeartbeats 4000000 in
/-- the walk of element -/
theorem we_elem (l : Launch) (hlf : l.stackTraces = false) {Γ : xΓ} {ad : Nat → Nat → Nat} {σ : xS} {d i : Int32} {sz : Nat} {A0 : Nat → Prop} (hwf : xwf σ) (hD0 : va_D A0 (xW Γ ad σ)) : vx_Met l yX11_element (.code yX11_element cX11_element 3 (some .long) :: xTs) { frames := 12, cells := 1, slots := 6, locals := 768 } (wePre Γ ad σ [.inr (.inr (0, some 0)), .inl d, .inl i] sz) (weQc Γ ad σ d i sz) (weXC Γ ad σ d i sz) 1 6 (va_A (xW Γ ad σ) sz) := by
  refine vx_ofW (by decide) rfl ?_
  intro p e s m args below meth c s₁ B hml hout hv
  obtain ⟨⟨rfl, hsz, hP, hnw, hK, hsc⟩, hnd, hZ⟩ := hv
  have hb := B.bytes
  have hx := B.exec
  have hr := B.returns
  have hlocks := B.notSynchronized
  have htw := atoms_spec (ws := .code yX11_element cX11_element 3 (some .long) :: xTs) B.pre
  have hts : ∀ w ∈ lw_tbl, goodWord w = true → w.before ((([.inr (.inr (0, some 0)), .inl d, .inl i] : List xV).map (xtv ad)).toArray) s = true := fun w h1 h2 => htw w (List.mem_cons_of_mem _ (List.mem_filter.mpr ⟨h1, h2⟩))
  have hown : s.vm.findClass RX11 = some m.cls := findClass_of_methodNamed B.named
  subst hsz
  have hD := hD0.self (sz := s.heap.size)
  have C : wkC p s m ((([.inr (.inr (0, some 0)), .inl d, .inl i] : List xV).map (xtv ad)).toArray) c cX11_element 3 RX11 Γ ad σ (va_A (xW Γ ad σ) s.heap.size) := ⟨hx, hb, hml, hown, hts, hnd, hK, hwf, hD, fun q h => Or.inr h, hsc, hZ⟩
  have hS : va_S (va_A (xW Γ ad σ) s.heap.size) s.heap s.heap [] := va_S.rf
  have hl := lv_entry ([.ref (ad 0 0), .int d, .int i]) (n := 3) (Nat.le_of_ble_eq_true rfl)
  have hent : entryFrame m ((([.inr (.inr (0, some 0)), .inl d, .inl i] : List xV).map (xtv ad)).toArray) 3 = entryFrame m ([.ref (ad 0 0), .int d, .int i] : List Value).toArray 3 := rfl
  rw [hent, lg_entry_eq]
  generalize (lg_sl ([.ref (ad 0 0), .int d, .int i]) ++ List.replicate (3 - (lg_sl ([.ref (ad 0 0), .int d, .int i])).length) Slot.unset).toArray = ls at hl ⊢
  have hl : lv_has ls 3 [(0, .ref (ad 0 0)), (1, .int d), (2, .int i)] := hl
  have hg : ∀ w : Jvm.Cond, w ∈ lw_tbl → goodWord w = true → w ∈ lw_tbl ∧ goodWord w = true := fun _ a b => ⟨a, b⟩
  refine lv_iload_n hx hb (by decide +kernel : decode cX11_element 0 = .ok (.iload_n 1, 1)) rfl (lv_at hl 1 rfl) ?_
  refine lv_bipush hx hb (v := 8) (by decide +kernel : decode cX11_element 1 = .ok (.bipush 8, 2)) rfl ?_
  refine wk_pureS C hP hS (y1 := 166) (as := [.inl d, .inl (nI 8)]) (rest := []) xh_166 (by decide +kernel) (by decide +kernel) (C166 0 σ d (n := 8) (by decide)) (Nat.le_of_ble_eq_true rfl) (fun v hv => by
      rcases List.mem_cons.mp hv with h | h
      · rw [h]; trivial
      · rw [List.mem_singleton.mp h]; trivial) (cwS 2 (xTs_of hts) (wk_goodS ⟨by decide +kernel, by decide +kernel⟩ ⟨by decide +kernel, by decide +kernel⟩ ⟨by decide +kernel, by decide +kernel⟩ ⟨by decide +kernel, by decide +kernel⟩) rfl rfl rfl (by decide +kernel) ⟨Nat.le_of_ble_eq_true rfl, Nat.le_of_ble_eq_true rfl⟩) (by decide +kernel) (by decide +kernel) rfl hl.1 (by decide) (by decide +kernel : decode cX11_element 3 = .ok (.invokestatic 93, 3)) ⟨by decide, by decide⟩ (fun H locs hP hS => ?_)
  refine lv_if_ne hx hb (by decide +kernel : decode cX11_element 6 = .ok (.ifCond .ne 13, 3)) (tgt := 19) rfl (fun h9 => ?_) (fun h9 => ?_)
  rotate_left
  · rw [bI_0] at h9
    have ho : weOut σ d := (we_out σ).mpr h9
    refine wk_throw hx hb hlf hown wkT_11a (by decide +kernel) hts hnd (text := "no such shelf") (is := 236) (by decide +kernel) hZ hS (hl.1.trans hml.symm) (by decide +kernel) (by decide +kernel) (by decide +kernel) (by decide +kernel) (by decide +kernel) hout (Nat.le_of_ble_eq_true rfl) (Nat.le_of_ble_eq_true rfl) (Nat.le_of_ble_eq_true rfl) (Nat.le_of_ble_eq_true rfl) hlocks (fun t _ h1 h2 => ⟨(), trivial, ⟨hP.kept (fun k q hk => h2 q.1 (vx_lt hP hk)), Or.inl ⟨rfl, ho⟩⟩, Nat.le_trans hS.1 h1, fun q h3 h4 => (h2 q (Nat.lt_of_lt_of_le h3 hS.1)).trans (hS.2.1 q h3 h4)⟩) hS.2.2 (by decide) (by decide)
  rw [bI_n0] at h9
  have hno : ¬ weOut σ d := fun h => (we_out σ).mp h h9
  have thr : weNo σ d i → ∀ (H : Heap) (locs : List Loc), va_P Γ.1 vwCl (xW Γ ad σ) H → va_S (va_A (xW Γ ad σ) s.heap.size) s.heap H locs → W p l e (headSpec (.code yX11_element cX11_element 3 (some .long) :: xTs) { frames := 12, cells := 1, slots := 6, locals := 768 }).room s m ((([.inr (.inr (0, some 0)), .inl d, .inl i] : List xV).map (xtv ad)).toArray) below meth c H locs 0 0 (vx_MQ below (weQc Γ ad σ d i s.heap.size) (weXC Γ ad σ d i s.heap.size) ((([.inr (.inr (0, some 0)), .inl d, .inl i] : List xV).map (xtv ad)).toArray) s 1 6 (va_A (xW Γ ad σ) s.heap.size)) (F0 m 42 ls []) := fun hn H locs hP hS => by
    refine wk_throw hx hb hlf hown wkT_11b (by decide +kernel) hts hnd (text := "no row, or no such place in it") (is := 246) (by decide +kernel) hZ hS (hl.1.trans hml.symm) (by decide +kernel) (by decide +kernel) (by decide +kernel) (by decide +kernel) (by decide +kernel) hout (Nat.le_of_ble_eq_true rfl) (Nat.le_of_ble_eq_true rfl) (Nat.le_of_ble_eq_true rfl) (Nat.le_of_ble_eq_true rfl) hlocks (fun t _ h1 h2 => ⟨(), trivial, ⟨hP.kept (fun k q hk => h2 q.1 (vx_lt hP hk)), Or.inr ⟨rfl, hno, hn⟩⟩, Nat.le_trans hS.1 h1, fun q h3 h4 => (h2 q (Nat.lt_of_lt_of_le h3 hS.1)).trans (hS.2.1 q h3 h4)⟩) hS.2.2 (by decide) (by decide)
  obtain ⟨k, hk, rfl⟩ := inb_of h9 (by decide)
  have hkn : (nI k).toNatClampNeg = k := n_cl (by omega)
  refine lv_aload_n hx hb (by decide +kernel : decode cX11_element 19 = .ok (.aload_n 0, 1)) rfl (lv_at hl 0 rfl) ?_
  refine wk_get0 C hP (k := 5) (idx := 29) (by decide) ⟨by decide +kernel, by decide +kernel⟩ rfl rfl (by decide +kernel) ?_
  refine lv_iload_n hx hb (by decide +kernel : decode cX11_element 23 = .ok (.iload_n 1, 1)) rfl (lv_at hl 1 rfl) ?_
  refine wk_hold C hP h9 (by decide +kernel) ?_
  refine lv_iconst hx hb (v := 2) (by decide +kernel : decode cX11_element 25 = .ok (.iconst 2, 1)) rfl ?_
  refine lv_icmp_ne hx hb (by decide +kernel : decode cX11_element 26 = .ok (.if_icmp .ne 16, 3)) (tgt := 42) rfl (fun h => thr (Or.inl h) H locs hP hS) (fun h2 => ?_)
  refine lv_aload_n hx hb (by decide +kernel : decode cX11_element 29 = .ok (.aload_n 0, 1)) rfl (lv_at hl 0 rfl) ?_
  refine wk_get0 C hP (k := 7) (idx := 41) (by decide) ⟨by decide +kernel, by decide +kernel⟩ rfl rfl (by decide +kernel) ?_
  refine lv_iload_n hx hb (by decide +kernel : decode cX11_element 33 = .ok (.iload_n 1, 1)) rfl (lv_at hl 1 rfl) ?_
  refine wk_row C hP hk (by decide +kernel) ?_
  refine lv_iload_n hx hb (by decide +kernel : decode cX11_element 35 = .ok (.iload_n 2, 1)) rfl (lv_at hl 2 rfl) ?_
  have hk14 : k < xcnt σ 14 := hk
  refine wk_pureV C hP hS (y1 := 124) (Cn := RX7) (T := TX7) (N := 3) (ro := 14) (iO := k) (ci := 7) (as := [.inl i]) (rest := []) xh_124 (by decide +kernel) (by decide +kernel) (we_has σ i) (Nat.le_of_ble_eq_true rfl) (fun v hv => by
      rcases List.mem_cons.mp hv with h | h
      · rw [h]; exact hk14
      · rw [List.mem_singleton.mp h]; trivial) (cwV 1 (xTs_of hts) (wk_goodV ⟨by decide +kernel, by decide +kernel⟩ ⟨by decide +kernel, by decide +kernel⟩ ⟨by decide +kernel, by decide +kernel⟩ ⟨by decide +kernel, by decide +kernel⟩ ⟨by decide +kernel, by decide +kernel⟩) rfl rfl rfl (by decide +kernel) ⟨Nat.le_of_ble_eq_true rfl, Nat.le_of_ble_eq_true rfl⟩) (by decide +kernel) hk14 (by unfold xcls; rw [if_neg (by decide)]; decide +kernel) rfl (by decide +kernel) (by decide +kernel) rfl hl.1 (by decide) (by decide +kernel : decode cX11_element 36 = .ok (.invokevirtual 241, 3)) ⟨by decide, by decide⟩ (fun H locs hP hS => ?_)
  refine lv_if_ne hx hb (by decide +kernel : decode cX11_element 39 = .ok (.ifCond .ne 13, 3)) (tgt := 52) rfl (fun h3 => ?_) (fun h3 => ?_)
  rotate_left
  · rw [bI_0] at h3
    refine thr (Or.inr ?_) H locs hP hS
    rw [hkn]
    exact Classical.not_not.mp h3
  rw [bI_n0] at h3
  have hnn : ¬ weNo σ (nI k) i := by
    unfold weNo
    rw [hkn]
    rintro (h | h)
    · rw [hkn] at h2
      exact h h2
    · exact h3 h
  refine lv_aload_n hx hb (by decide +kernel : decode cX11_element 52 = .ok (.aload_n 0, 1)) rfl (lv_at hl 0 rfl) ?_
  refine wk_get0 C hP (k := 7) (idx := 41) (by decide) ⟨by decide +kernel, by decide +kernel⟩ rfl rfl (by decide +kernel) ?_
  refine lv_iload_n hx hb (by decide +kernel : decode cX11_element 56 = .ok (.iload_n 1, 1)) rfl (lv_at hl 1 rfl) ?_
  refine wk_row C hP hk (by decide +kernel) ?_
  refine lv_iload_n hx hb (by decide +kernel : decode cX11_element 58 = .ok (.iload_n 2, 1)) rfl (lv_at hl 2 rfl) ?_
  refine wk_pureV C hP hS (y1 := 126) (Cn := RX7) (T := TX7) (N := 3) (ro := 14) (iO := k) (ci := 7) (as := [.inl i]) (rest := []) xh_126 (by decide +kernel) (by decide +kernel) (we_cell σ i h3) (Nat.le_of_ble_eq_true rfl) (fun v hv => by
      rcases List.mem_cons.mp hv with h | h
      · rw [h]; exact hk14
      · rw [List.mem_singleton.mp h]; trivial) (cwV 1 (xTs_of hts) (wk_goodV ⟨by decide +kernel, by decide +kernel⟩ ⟨by decide +kernel, by decide +kernel⟩ ⟨by decide +kernel, by decide +kernel⟩ ⟨by decide +kernel, by decide +kernel⟩ ⟨by decide +kernel, by decide +kernel⟩) rfl rfl rfl (by decide +kernel) ⟨Nat.le_of_ble_eq_true rfl, Nat.le_of_ble_eq_true rfl⟩) (by decide +kernel) hk14 (by unfold xcls; rw [if_neg (by decide)]; decide +kernel) rfl (by decide +kernel) (by decide +kernel) rfl hl.1 (by decide) (by decide +kernel : decode cX11_element 59 = .ok (.invokevirtual 66, 3)) ⟨by decide, by decide⟩ (fun H locs hP hS => ?_)
  refine lv_i2l hx hb (by decide +kernel : decode cX11_element 62 = .ok (.i2l, 1)) rfl ?_
  refine vx_ret (W.widen (k := 1) (n := 6) (by decide) (by decide) ?_)
  exact W.lret hx hb hr (fun t ht hW => ⟨⟨_, (), rfl, ⟨hno, hnn, by rw [hkn]⟩, by show va_P Γ.1 vwCl (xW Γ ad σ) t.heap; rw [ht]; exact hP⟩, hS.F ht⟩) hS.2.2 (by decide +kernel : decode cX11_element 63 = .ok (.lreturn, 1)) hlocks
