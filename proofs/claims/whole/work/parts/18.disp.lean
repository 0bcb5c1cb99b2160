/-! EVERY INSTRUCTION; THE MAIN THEOREM -/
theorem xret_form {rk rr : Nat} {ks : List (Nat × List Nat)} {y : Nat} {e : xE} {ls : xL} {st : List xV} {σ : xS} {z : (Option Nat × (Nat → xB)) ⊕ (Option Nat × (Nat → xC) × (xR → xC))} (hi : xisR e.2.1 = true) (hs : xstep rk rr ks y e ls st σ = some (.inr z)) : False := by
  obtain ⟨pc, ins, len, aux⟩ := e
  have hi : xisR ins = true := hi
  unfold xisR at hi
  split at hi
  · simp only [xstep] at hs
    split at hs
    · cases h1 : Nat.beq rk 1 with
      | true => rw [h1] at hs; cases hs
      | false =>
        rw [h1] at hs
        cases h4 : Nat.beq rk 4 with
        | true => rw [h4] at hs; cases hs
        | false => rw [h4] at hs; cases hs
    · cases hs
  · simp only [xstep] at hs
    split at hs
    · cases h1 : Nat.beq rk 2 with
      | true => rw [h1] at hs; cases hs
      | false => rw [h1] at hs; cases hs
    · cases hs
  · simp only [xstep] at hs
    split at hs
    · rename_i r o
      cases h1 : (Nat.beq rk 3 && Nat.beq rr r) with
      | true => rw [h1] at hs; cases hs
      | false => rw [h1] at hs; cases hs
    · cases hs
  · simp only [xstep] at hs
    split at hs
    · cases h1 : Nat.beq rk 0 with
      | true => rw [h1] at hs; cases hs
      | false => rw [h1] at hs; cases hs
    · cases hs
  · cases hi
section SND
variable {p : Program} {l : Launch} {e : Env} {R : Room} {s : State} {m : MethodId} {args : Array Value} {below : List Frame} {meth : Method} {c : Code} {Q : State → Prop}
variable {Γ : xΓ} {y d : Nat} {A : Nat → Prop} {H0 : Heap} {σ0 : xS} {ad0 : Nat → Nat → Nat}
set_option maxHeartbeats 4000000 in
theorem xs_objInit (C : xCtx Γ ad0 σ0 y d A H0 p R s m args meth c) {rk rr : Nat} {ks : List (Nat × List Nat)} {pc len : Nat} {aux ps : List Nat} {ls : xL} {st : List xV} {σ : xS} {o : Option Nat} {g : Nat → xB} {i : Nat} (hax : aux = [4]) (hchk : xchk (xmeth y).1 (xmeth y).2.1 (xmeth y).2.2.1 (pc, .invokespecial i, len, aux) ps = true) (hs : xstep rk rr ks y (pc, .invokespecial i, len, aux) ls st σ = some (.inr (.inl (o, g)))) (hp : xsP (xG Γ ad0 σ0 A H0 p l e R s m args below meth c Q y) o g) : ∀ (ad : Nat → Nat → Nat) (H : Heap) (locs : List Loc) (lsA : Array Slot), xWd Γ ad0 σ0 A H0 s ad σ H locs → lv_has lsA (xmeth y).2.2.1 (xlv ad 0 ls) → ls.length = (xmeth y).2.2.1 → xokL σ ls → xokS σ st → W p l e R s m args below meth c H locs (σ.2.2.2.2.1 - σ0.2.2.2.2.1) (σ.2.2.2.2.2 - σ0.2.2.2.2.2) Q (F0 m pc lsA (st.map (xtv ad))) := by
  obtain ⟨hx, hb, hml, hown, hts, hnw, hK, hA, hfr, hlo, hnm, hsc⟩ := C
  have hdl : decode (xmeth y).2.1 pc = .ok (.invokespecial i, len) := of_decide_eq_true (Bool.and_eq_true_iff.mp hchk).1
  have hc := (Bool.and_eq_true_iff.mp hchk).2
  intro ad H locs lsA hW hl hn hkL hkS
  simp only [Bool.and_eq_true] at hc
  have hlen := Nat.eq_of_beq_eq_true hc.1
  subst hlen
  subst hax
  have hc2 := hc.2
  unfold xcS at hc2
  simp only [Bool.and_eq_true] at hc2
  obtain ⟨⟨w1, w2⟩, w3⟩ := hc2
  simp only [xstep, xspecial] at hs
  split at hs
  · rename_i ro iO st'
    cases hcond : (Nat.ble (xwords st') 16 && Nat.beq ro 16) with
    | false => rw [hcond] at hs; cases hs
    | true =>
      rw [hcond] at hs
      simp only [Bool.and_eq_true] at hcond
      have hw := Nat.le_of_ble_eq_true hcond.1
      have h := (xgo_wp (xjust_inv hs hp)).2 ad H locs lsA hW hl hn hkL (fun v hv => hkS v (List.mem_cons_of_mem _ hv))
      refine W.objInit hx hb hown (hts _ (xg_mem w1).1 (xg_mem w1).2) (hts _ (xg_mem w2).1 (xg_mem w2).2) (hts _ (xg_mem w3).1 (xg_mem w3).2) rfl (hl.1.trans hml.symm) rfl hdl (by omega) ?_ h
      rw [xwords_sum ad st']
      show 2 * 0 + xwords st' + 12 ≤ R.locals
      omega
  · cases hs
set_option maxHeartbeats 40000000 in
set_option maxRecDepth 100000 in
theorem xdisp (C : xCtx Γ ad0 σ0 y d A H0 p R s m args meth c) (h67 : xPrim Γ ad0 σ0 A H0 p l e R s m args below meth c Q y) {pc len : Nat} {ins : Instr} {aux ps : List Nat} {ls : xL} {st : List xV} {σ : xS} {o : Option Nat} {g : Nat → xB} (hmem : (pc, ins, len, aux) ∈ (xmeth y).2.2.2.2.2.2.1) (hchk : xchk (xmeth y).1 (xmeth y).2.1 (xmeth y).2.2.1 (pc, ins, len, aux) ps = true) (hs : xstep (xmeth y).2.2.2.1 (xmeth y).2.2.2.2.1 (xmeth y).2.2.2.2.2.2.2 y (pc, ins, len, aux) ls st σ = some (.inr (.inl (o, g)))) (hp : xsP (xG Γ ad0 σ0 A H0 p l e R s m args below meth c Q y) o g) : ∀ (ad : Nat → Nat → Nat) (H : Heap) (locs : List Loc) (lsA : Array Slot), xWd Γ ad0 σ0 A H0 s ad σ H locs → lv_has lsA (xmeth y).2.2.1 (xlv ad 0 ls) → ls.length = (xmeth y).2.2.1 → xokL σ ls → xokS σ st → W p l e R s m args below meth c H locs (σ.2.2.2.2.1 - σ0.2.2.2.2.1) (σ.2.2.2.2.2 - σ0.2.2.2.2.2) Q (F0 m pc lsA (st.map (xtv ad))) := by
  cases ins with
  | iadd => exact xs_iadd C hchk hs hp
  | isub => exact xs_isub C hchk hs hp
  | imul => exact xs_imul C hchk hs hp
  | iand => exact xs_iand C hchk hs hp
  | ior => exact xs_ior C hchk hs hp
  | ixor => exact xs_ixor C hchk hs hp
  | ishl => exact xs_ishl C hchk hs hp
  | ishr => exact xs_ishr C hchk hs hp
  | iushr => exact xs_iushr C hchk hs hp
  | idiv => exact xs_idiv C hchk hs hp
  | irem => exact xs_irem C hchk hs hp
  | ladd => exact xs_ladd C hchk hs hp
  | lsub => exact xs_lsub C hchk hs hp
  | land => exact xs_land C hchk hs hp
  | lor => exact xs_lor C hchk hs hp
  | lxor => exact xs_lxor C hchk hs hp
  | lshl => exact xs_lshl C hchk hs hp
  | lshr => exact xs_lshr C hchk hs hp
  | lushr => exact xs_lushr C hchk hs hp
  | lcmp => exact xs_lcmp C hchk hs hp
  | i2l => exact xs_i2l C hchk hs hp
  | l2i => exact xs_l2i C hchk hs hp
  | i2b => exact xs_i2b C hchk hs hp
  | i2s => exact xs_i2s C hchk hs hp
  | aconst_null => exact xs_aconst_null C hchk hs hp
  | dup => exact xs_dup C hchk hs hp
  | dup2 => exact xs_dup2 C hchk hs hp
  | iaload => exact xs_iaload C hchk hs hp
  | laload => exact xs_laload C hchk hs hp
  | iastore => exact xs_iastore C hchk hs hp
  | aaload => exact xs_aaload C hchk hs hp
  | aastore => exact xs_aastore C hchk hs hp
  | arraylength => exact xs_arraylength C hchk hs hp
  | iconst a => exact xs_iconst C hchk hs hp
  | bipush a => exact xs_bipush C hchk hs hp
  | sipush a => exact xs_sipush C hchk hs hp
  | lconst a => exact xs_lconst C hchk hs hp
  | ldc a => exact xs_ldc C hchk hs hp
  | ldc_w a => exact xs_ldc_w C hchk hs hp
  | ldc2_w a => exact xs_ldc2_w C hchk hs hp
  | iload_n a => exact xs_iload_n C hchk hs hp
  | iload a => exact xs_iload C hchk hs hp
  | lload_n a => exact xs_lload_n C hchk hs hp
  | lload a => exact xs_lload C hchk hs hp
  | aload_n a => exact xs_aload_n C hchk hs hp
  | aload a => exact xs_aload C hchk hs hp
  | istore_n a => exact xs_istore_n C hchk hs hp
  | istore a => exact xs_istore C hchk hs hp
  | lstore_n a => exact xs_lstore_n C hchk hs hp
  | lstore a => exact xs_lstore C hchk hs hp
  | astore_n a => exact xs_astore_n C hchk hs hp
  | astore a => exact xs_astore C hchk hs hp
  | goto a => exact xs_goto C hchk hs hp
  | ifnull a => exact xs_ifnull C hchk hs hp
  | ifnonnull a => exact xs_ifnonnull C hchk hs hp
  | getfield a => exact xs_getfield C hchk hs hp
  | putfield a => exact xs_putfield C hchk hs hp
  | new a => exact xs_new C hchk hs hp
  | iinc a b => exact xs_iinc C hchk hs hp
  | ifCond a b => exact xs_ifCond C hchk hs hp
  | if_icmp a b => exact xs_if_icmp C hchk hs hp
  | lookupswitch a b => exact xs_lookupswitch C hchk hs hp
  | tableswitch a b cc dd => exact xs_tableswitch C hchk hs hp
  | ireturn => exact (xret_form rfl hs).elim
  | lreturn => exact (xret_form rfl hs).elim
  | areturn => exact (xret_form rfl hs).elim
  | return_ => exact (xret_form rfl hs).elim
  | invokestatic i =>
    have hs2 := hs
    simp only [xstep] at hs2
    unfold xstatic at hs2
    split at hs2
    · split at hs2
      · rename_i n k r w _ as st' _
        cases hcond : (Nat.ble (xwords st') 16 && Nat.beq (xwords as) w) with
        | false => rw [hcond] at hs2; cases hs2
        | true => rw [hcond] at hs2; cases hs2
      · cases hs2
    · exact xs_arraycopy C rfl hchk hs hp
    · have hRL : (xmeth y).1.cls = RL := by
        have hc := (Bool.and_eq_true_iff.mp hchk).2
        simp only [Bool.and_eq_true] at hc
        exact of_decide_eq_true hc.2
      exact h67 hRL _ _ _ _ _ _ _ _ _ _ ⟨i, Or.inr ⟨rfl, rfl⟩⟩ hmem hchk hs hp
    · cases hs2
  | invokevirtual i =>
    have hs2 := hs
    simp only [xstep] at hs2
    unfold xvirtual at hs2
    split at hs2
    · split at hs2
      · rename_i cn n k r w _ as ro oo st' _
        cases hcond : (Nat.ble (xwords st') 16 && Nat.beq (xwords as) w && Nat.beq (xreg ro).2.1 cn && Nat.beq (xreg ro).1 0) with
        | false => rw [hcond] at hs2; cases hs2
        | true => rw [hcond] at hs2; cases hs2
      · cases hs2
    · split at hs2
      · rename_i sel n k r w _ as ro oo st' _
        cases hcond : (Nat.ble (xwords st') 16 && Nat.beq (xwords as) w && Nat.beq ro 16) with
        | false => rw [hcond] at hs2; cases hs2
        | true => rw [hcond] at hs2; cases hs2
      · cases hs2
    · have hRL : (xmeth y).1.cls = RL := by
        have hc := (Bool.and_eq_true_iff.mp hchk).2
        simp only [Bool.and_eq_true] at hc
        exact of_decide_eq_true hc.2
      exact h67 hRL _ _ _ _ _ _ _ _ _ _ ⟨i, Or.inl ⟨rfl, rfl⟩⟩ hmem hchk hs hp
    · cases hs2
  | invokespecial i =>
    have hs2 := hs
    simp only [xstep] at hs2
    unfold xspecial at hs2
    split at hs2
    · split at hs2
      · rename_i n k r w _ as ro iO st' _
        cases hcond : (Nat.ble (xwords st') 16 && Nat.beq (xwords as) w && Nat.beq ro 16) with
        | false => rw [hcond] at hs2; cases hs2
        | true => rw [hcond] at hs2; cases hs2
      · cases hs2
    · exact xs_objInit C rfl hchk hs hp
    · cases hs2
  | _ => exact nomatch (show (none : Option xO) = some _ from hs)
end SND
