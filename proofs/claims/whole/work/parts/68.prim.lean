/-! THE LAW'S TWO CALLS THAT CATCH -/
def lpC (e : xE) : Bool := match e with
  | (_, .invokevirtual i, len, [6]) => Nat.beq i 148 && Nat.beq len 3
  | (_, .invokestatic i, len, [7]) => Nat.beq i 131 && Nat.beq len 3
  | _ => true
theorem lpC_79 : (xmeth 79).2.2.2.2.2.2.1.all lpC = true := by decide +kernel
theorem lpC_ok {y : Nat} (hy : y = 79) : (xmeth y).2.2.2.2.2.2.1.all lpC = true := by
  rw [hy]
  exact lpC_79
theorem lpC_RL {y : Nat} (hy : y = 79) : (xmeth y).1.cls = RL := by
  rw [hy]
  rfl
theorem xgo_resume {G : xC → Prop} {ks : List (Nat × List Nat)} {y pc k r : Nat} {ls : xL} {st : List xV} {q : xR} (h : xoc G (xgo ks y pc ls (xpush k r q.1 st) q.2)) : G (xresume ks y pc ls k r st q) := by
  unfold xgo at h
  unfold xresume
  cases hx : xkills ks pc with
  | nil =>
    rw [hx] at h
    exact h
  | cons a ra =>
    rw [hx] at h
    dsimp only at h ⊢
    rw [xforce_eq] at h ⊢
    exact h
section LP
variable {p : Program} {l : Launch} {e : Env} {s : State} {m : MethodId} {below : List Frame} {meth : Method} {c : Code} {H : Heap} {locs : List Loc} {Q : State → Prop}
variable {Γ : xΓ} {ad0 ad : Nat → Nat → Nat} {σ0 σ : xS} {b L y : Nat} {xs : Nat → Int32}
theorem law_C (hy : y = 79) (C0 : lw_At p s m meth c b L xs) (C : xCtx Γ ad0 σ0 y 61 (va_A [] s.heap.size) s.heap p room_1 s m #[.ref b] meth c) (hW : xWd Γ ad0 σ0 (va_A [] s.heap.size) s.heap s ad σ H locs) : wkC p s m #[.ref b] c (xmeth y).2.1 (xmeth y).2.2.1 RL Γ ad σ (va_A [] s.heap.size) ∧ weNc s := by
  obtain ⟨hx, hb, hml, hown, hts, hnw, hK, hA, hfr, hlo, hnm, hsc⟩ := C
  rw [lpC_RL hy] at hown
  obtain ⟨hP, hD, hS, hwf, hag, hpre⟩ := hW
  obtain ⟨-, -, -, -, -, htw, -, -, -, hgv⟩ := C0
  have hs := flat_of_before _ hgv
  have hA0 : ∀ a : Nat, a < s.heap.size → ¬ va_A [] s.heap.size a := by
    rintro a ha (⟨k, w, h⟩ | h)
    · cases h
    · omega
  refine ⟨⟨hx, hb, hml, hown, hts, fun w h1 h2 => xne_args h2 (htw w h1), hK, hwf, hD, hA, ?_, ⟨vx_Zqof (htw (.laysStatic Bundle.tN "UNASSIGNED_STACK" Bundle.steD) (by decide +kernel)) (htw (.initialized Bundle.tN) (by decide +kernel)) (hs (.isRef (.static Bundle.tN "UNASSIGNED_STACK" Bundle.steD)) (by decide +kernel)) hA0, vx_Zqof (htw (.laysStatic Bundle.tN "SUPPRESSED_SENTINEL" Bundle.listD) (by decide +kernel)) (htw (.initialized Bundle.tN) (by decide +kernel)) (hs (.isRef (.static Bundle.tN "SUPPRESSED_SENTINEL" Bundle.listD)) (by decide +kernel)) hA0⟩⟩, ?_⟩
  · obtain ⟨L', xs', h1, h2, h3, h4, h5, h6⟩ := hsc
    have e36 : ad 36 0 = ad0 36 0 := hag 36 0 (by show 0 < xcnt σ0 36; unfold xcnt; rw [if_neg (by decide), if_pos rfl]; exact Nat.one_pos)
    exact ⟨L', xs', by rw [e36]; exact h1, by rw [e36]; exact h2, by rw [e36]; exact h3, fun k hk => (hpre.2.2.2 k).trans (h4 k hk), (hpre.2.2.2 3072).trans h5, h6⟩
  · exact ⟨va_Nc.of (hs (.not (.castable "java/lang/IllegalStateException" "java/lang/IllegalArgumentException")) (by decide +kernel)), va_Nc.of (hs (.not (.castable "java/lang/IllegalArgumentException" "java/lang/IllegalStateException")) (by decide +kernel)), va_Nc.of (hs (.not (.castable "java/lang/UnsupportedOperationException" "java/lang/IllegalStateException")) (by decide +kernel)), va_Nc.of (hs (.not (.castable "java/lang/UnsupportedOperationException" "java/lang/IllegalArgumentException")) (by decide +kernel))⟩
theorem wk_wcPre {args : Array Value} {A : Nat → Prop} {own : String} {cc : ByteArray} {nL : Nat} (C : wkC p s m args c cc nL own Γ ad σ A) (hnc : weNc s) (hP : va_P Γ.1 vwCl (xW Γ ad σ) H) (hS : va_S A s.heap H locs) (as : List xV) (U : State) (hU : U.heap = H) (hW : s.WarmedH U.vm) : wcPre Γ ad σ as H.size (as.map (xtv ad)).toArray U := ⟨(wk_wePre C hP hS as).2 U hU hW, weNc.moved hW.alike hnc⟩
theorem xE_cells (σ : xS) (d i : Int32) : (xElem σ d i).2.2.2.2.2.1 = σ.2.2.2.2.1 + 1 ∧ (xElem σ d i).2.2.2.2.2.2 = σ.2.2.2.2.2 + 8 := by
  rcases xE_case σ d i with ⟨_, h⟩ | ⟨_, _, h⟩ | ⟨_, _, h⟩ <;> rw [h] <;> exact ⟨rfl, rfl⟩
set_option maxHeartbeats 4000000 in
theorem law_prim (hlf : l.stackTraces = false) (hy : y = 79) (C0 : lw_At p s m meth c b L xs) (C : xCtx Γ ad0 σ0 y 61 (va_A [] s.heap.size) s.heap p room_1 s m #[.ref b] meth c) : xPrim Γ ad0 σ0 (va_A [] s.heap.size) s.heap p l e room_1 s m #[.ref b] below meth c Q y := by
  intro hRL pc ins len aux ps ls st σ o g hor hmem hchk hs hp ad H locs lsA hW hl hn hkL hkS
  have hm := List.all_eq_true.mp (lpC_ok hy) _ hmem
  obtain ⟨hC, hnc⟩ := law_C hy C0 C hW
  have hC0 := hC
  obtain ⟨hx, hb, hml, hown, hts, hnd, hK, hwf, hD, hA, hsc, hZ⟩ := hC
  obtain ⟨hP, -, hS, -, hag, hpre⟩ := id hW
  obtain ⟨i, ⟨rfl, rfl⟩ | ⟨rfl, rfl⟩⟩ := hor
  · have hm : (Nat.beq i 148 && Nat.beq len 3) = true := hm
    simp only [Bool.and_eq_true] at hm
    have hi := Nat.eq_of_beq_eq_true hm.1
    have hlen := Nat.eq_of_beq_eq_true hm.2
    subst hi
    subst hlen
    have hdl : decode (xmeth y).2.1 pc = .ok (.invokevirtual 148, 3) := of_decide_eq_true (Bool.and_eq_true_iff.mp hchk).1
    simp only [xstep, xvirtual] at hs
    split at hs
    · rename_i d st'
      cases hcond : Nat.ble (xwords st') 16 with
      | false => rw [hcond] at hs; cases hs
      | true =>
        rw [hcond] at hs
        have hw16 := Nat.le_of_ble_eq_true hcond
        have hres := xjust_inv hs hp
        have hcont : xG Γ ad0 σ0 (va_A [] s.heap.size) s.heap p l e room_1 s m #[.ref b] below meth c Q y (xresume (xmeth y).2.2.2.2.2.2.2 y (pc + 3) ls 1 0 st' ((xToss σ d, 0, none), wN σ 1 8)) := xgo_resume hres
        have hbd := (xres_wp hcont).1
        have hb1 : σ.2.2.2.2.1 + 1 ≤ room_1.cells + σ0.2.2.2.2.1 := hbd.1
        have hb2 : σ.2.2.2.2.2 + 8 ≤ room_1.slots + σ0.2.2.2.2.2 := hbd.2
        have hK1 : Back l room_1 p e below s #[.ref b] yX11_toss 3 16 (PreOf room_1 1 8 (wcPre Γ ad σ [.inr (.inr (0, some 0)), .inl d] H.size)) (PostOf (xQc Γ ad σ (va_A (xW Γ ad σ) H.size) ((xToss σ d, 0, none), wN σ 1 8) 1 0) 1 8 (va_A (xW Γ ad σ) H.size)) := va_backW (hh := tHH) (bytes := cX11_toss) (maxL := 5) (ret := some .int) (wt_toss l hlf hwf hD (sz := H.size)) wcPre_blind rfl rfl (Nat.le_of_ble_eq_true rfl) (Nat.le_of_ble_eq_true rfl) (pay_in (big := xTs) (xTs_of hts) (wk_good ⟨by decide +kernel, by decide +kernel⟩)) List.mem_cons_self (fun a' U hW => word_at hW (good_of_word (w := .initialized RX11) (by decide +kernel)) (hts (.initialized RX11) (by decide +kernel) (by decide +kernel)))
        obtain ⟨q0, hq0, -⟩ := xW_get Γ ad (σ := σ) (r := 0) (i := 0) (by decide) (by show 0 < xcnt σ 0; exact Nat.zero_lt_one)
        rw [xcell_obj (by decide +kernel)] at hq0
        have hcl0 : xcls σ 0 0 = 11 := by unfold xcls; rw [if_neg (by decide)]; decide +kernel
        rw [hcl0] at hq0
        obtain ⟨cell, g1, g2, g3⟩ := va_recv (q := (RX11, TX11, 9)) hK hP rfl hq0
        have hrun : va_Run p l e room_1 s m #[.ref b] below meth c H locs (σ.2.2.2.2.1 - σ0.2.2.2.2.1) (σ.2.2.2.2.2 - σ0.2.2.2.2.2) 1 8 (F0 m pc lsA (.int d :: .ref (ad 0 0) :: st'.map (xtv ad))) (st'.map (xtv ad)) (xQc Γ ad σ (va_A (xW Γ ad σ) H.size) ((xToss σ d, 0, none), wN σ 1 8) 1 0 (Value.ref (ad 0 0) :: [.int d]).toArray) (va_A (xW Γ ad σ) H.size) := xrun_of fun T hT X => by
          refine vx_callVW X hx (C := RX11) (argsL := [.int d]) (rest := st'.map (xtv ad)) hown (hts (.methodLink RL 148 yX11_toss) (by decide +kernel) (by decide +kernel)) (hts (.instanceMethod yX11_toss) (by decide +kernel) (by decide +kernel)) (hts (.selects RX11 yX11_toss yX11_toss) (by decide +kernel) (by decide +kernel)) (hts (.codeWith yX11_toss cX11_toss 5 (some .int) tHH) (by decide +kernel) (by decide +kernel)) (by decide +kernel) hK1 (by rw [hT]; exact g1) g2 g3 rfl (hl.1.trans hml.symm) (fun sig h => ?_) rfl ?_ (by rw [hb]; exact hdl) (fun vm₁ hW₁ => ⟨?_, ?_, wk_wcPre hC0 hnc hP hS [.inr (.inr (0, some 0)), .inl d] (T.setVm vm₁) hT hW₁⟩)
          · have h2 : (parseMethodDescriptor yX11_toss.desc).map (fun d => d.parameters.length) = some 1 := by decide +kernel
            rw [h] at h2
            exact (Option.some.inj h2).symm
          · rw [xwords_sum ad st']
            show 2 * 0 + xwords st' ≤ 16
            omega
          · show (σ.2.2.2.2.1 - σ0.2.2.2.2.1) + 1 ≤ room_1.cells
            have := hpre.2.1
            omega
          · show (σ.2.2.2.2.2 - σ0.2.2.2.2.2) + 8 ≤ room_1.slots
            have := hpre.2.2.1
            omega
        have hmc : (wN σ 1 8).2.2.2.2.1 - σ.2.2.2.2.1 = 1 := Nat.add_sub_cancel_left _ _
        have hms : (wN σ 1 8).2.2.2.2.2 - σ.2.2.2.2.2 = 8 := Nat.add_sub_cancel_left _ _
        have hle : xle σ (wN σ 1 8) := ⟨Nat.le_add_right _ _, Nat.le_add_right _ _⟩
        refine xcall_fin C (aa := (Value.ref (ad 0 0) :: [.int d]).toArray) (q := ((xToss σ d, 0, none), wN σ 1 8)) (k := 1) (r := 0) hle ?_ hcont hW hl hn hkL (fun v hv => hkS v (List.mem_cons_of_mem _ (List.mem_cons_of_mem _ hv)))
        rw [hmc, hms]
        exact hrun
    · cases hs
  · have hm : (Nat.beq i 131 && Nat.beq len 3) = true := hm
    simp only [Bool.and_eq_true] at hm
    have hi := Nat.eq_of_beq_eq_true hm.1
    have hlen := Nat.eq_of_beq_eq_true hm.2
    subst hi
    subst hlen
    have hdl : decode (xmeth y).2.1 pc = .ok (.invokestatic 131, 3) := of_decide_eq_true (Bool.and_eq_true_iff.mp hchk).1
    simp only [xstep, xstatic] at hs
    split at hs
    · rename_i j d st'
      cases hcond : Nat.ble (xwords st') 16 with
      | false => rw [hcond] at hs; cases hs
      | true =>
        rw [hcond] at hs
        have hw16 := Nat.le_of_ble_eq_true hcond
        have hres := xjust_inv hs hp
        have hcont : xG Γ ad0 σ0 (va_A [] s.heap.size) s.heap p l e room_1 s m #[.ref b] below meth c Q y (xresume (xmeth y).2.2.2.2.2.2.2 y (pc + 3) ls 1 0 st' (((xElem σ d j).1, 0, none), (xElem σ d j).2)) := xgo_resume hres
        obtain ⟨ec1, ec2⟩ := xE_cells σ d j
        have hbd := (xres_wp hcont).1
        have hb1 : σ.2.2.2.2.1 + 1 ≤ room_1.cells + σ0.2.2.2.2.1 := by rw [← ec1]; exact hbd.1
        have hb2 : σ.2.2.2.2.2 + 8 ≤ room_1.slots + σ0.2.2.2.2.2 := by rw [← ec2]; exact hbd.2
        have hK1 : Back l room_1 p e below s #[.ref b] yL_element 3 16 (PreOf room_1 1 8 (wcPre Γ ad σ [.inr (.inr (0, some 0)), .inl d, .inl j, .inr (.inr (35, some 0))] H.size)) (PostOf (xQc Γ ad σ (va_A (xW Γ ad σ) H.size) (((xElem σ d j).1, 0, none), (xElem σ d j).2) 1 0) 1 8 (va_A (xW Γ ad σ) H.size)) := va_backW (hh := leHH) (bytes := cL_element) (maxL := 5) (ret := some .int) (wl_elem l hlf hwf hD (sz := H.size)) wcPre_blind rfl rfl (Nat.le_of_ble_eq_true rfl) (Nat.le_of_ble_eq_true rfl) (pay_in (big := xTs) (xTs_of hts) (wk_good ⟨by decide +kernel, by decide +kernel⟩)) List.mem_cons_self (fun a' U hW => word_at hW (good_of_word (w := .initialized RL) (by decide +kernel)) (hts (.initialized RL) (by decide +kernel) (by decide +kernel)))
        have hrun : va_Run p l e room_1 s m #[.ref b] below meth c H locs (σ.2.2.2.2.1 - σ0.2.2.2.2.1) (σ.2.2.2.2.2 - σ0.2.2.2.2.2) 1 8 (F0 m pc lsA (.ref (ad 35 0) :: .int j :: .int d :: .ref (ad 0 0) :: st'.map (xtv ad))) (st'.map (xtv ad)) (xQc Γ ad σ (va_A (xW Γ ad σ) H.size) (((xElem σ d j).1, 0, none), (xElem σ d j).2) 1 0 ([.ref (ad 0 0), .int d, .int j, .ref (ad 35 0)] : List Value).toArray) (va_A (xW Γ ad σ) H.size) := xrun_of fun T hT X => by
          refine vx_callSW X hx (hh := leHH) (bytes := cL_element) (maxL := 5) (ret := some .int) (argsL := [.ref (ad 0 0), .int d, .int j, .ref (ad 35 0)]) (rest := st'.map (xtv ad)) hown (hts (.methodLink RL 131 yL_element) (by decide +kernel) (by decide +kernel)) (hts (.static yL_element) (by decide +kernel) (by decide +kernel)) (hts (.initialized RL) (by decide +kernel) (by decide +kernel)) (hts (.codeWith yL_element cL_element 5 (some .int) leHH) (by decide +kernel) (by decide +kernel)) (by decide +kernel) hK1 rfl (hl.1.trans hml.symm) (fun sig h => ?_) rfl ?_ (by rw [hb]; exact hdl) (fun vm₁ hW₁ => ⟨?_, ?_, wk_wcPre hC0 hnc hP hS [.inr (.inr (0, some 0)), .inl d, .inl j, .inr (.inr (35, some 0))] (T.setVm vm₁) hT hW₁⟩)
          · have h2 : (parseMethodDescriptor yL_element.desc).map (fun d => d.parameters.length) = some 4 := by decide +kernel
            rw [h] at h2
            exact (Option.some.inj h2).symm
          · rw [xwords_sum ad st']
            show 2 * 0 + xwords st' ≤ 16
            omega
          · show (σ.2.2.2.2.1 - σ0.2.2.2.2.1) + 1 ≤ room_1.cells
            have := hpre.2.1
            omega
          · show (σ.2.2.2.2.2 - σ0.2.2.2.2.2) + 8 ≤ room_1.slots
            have := hpre.2.2.1
            omega
        have hmc : (xElem σ d j).2.2.2.2.2.1 - σ.2.2.2.2.1 = 1 := by rw [ec1]; exact Nat.add_sub_cancel_left _ _
        have hms : (xElem σ d j).2.2.2.2.2.2 - σ.2.2.2.2.2 = 8 := by rw [ec2]; exact Nat.add_sub_cancel_left _ _
        have hle : xle σ (xElem σ d j).2 := ⟨by rw [ec1]; exact Nat.le_add_right _ _, by rw [ec2]; exact Nat.le_add_right _ _⟩
        refine xcall_fin C (aa := ([.ref (ad 0 0), .int d, .int j, .ref (ad 35 0)] : List Value).toArray) (q := (((xElem σ d j).1, 0, none), (xElem σ d j).2)) (k := 1) (r := 0) hle ?_ hcont hW hl hn hkL (fun v hv => hkS v (List.mem_cons_of_mem _ (List.mem_cons_of_mem _ (List.mem_cons_of_mem _ (List.mem_cons_of_mem _ hv)))))
        rw [hmc, hms]
        exact hrun
    · cases hs
end LP
