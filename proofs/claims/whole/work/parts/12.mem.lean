/-! FIELDS, ARRAYS, NEW: one instruction of the abstract machine is a step of the real one -/
theorem xlv_agr {ad ad' : Nat → Nat → Nat} {σ : xS} {ls : xL} {lsA : Array Slot} {nL : Nat} (h : xagr σ ad ad') (hk : xokL σ ls) (hl : lv_has lsA nL (xlv ad 0 ls)) : lv_has lsA nL (xlv ad' 0 ls) := lv_less hl fun q hq => by
  obtain ⟨k, v, hv, e⟩ := xlv_mem.mp hq
  exact xlv_mem.mpr ⟨k, v, hv, by rw [e, xtv_agr h (hk k v hv)]⟩
theorem xok_wC {σ : xS} {ci : Nat} {v : xV} (h : xok σ v) : xok (wC σ ci) v := by
  rcases v with x | x | ⟨r, o⟩
  · trivial
  · trivial
  · cases o with
    | none => trivial
    | some i =>
      have h : i < xcnt σ r := h
      show i < xcnt (wC σ ci) r
      unfold xcnt at h ⊢
      by_cases h16 : r = 16
      · rw [if_pos h16] at h ⊢
        show i < (rC σ ++ [ci]).length
        rw [List.length_append]
        omega
      · rw [if_neg h16] at h ⊢
        exact h
theorem xcF_of {own mn : String} {put : Bool} {i c k : Nat} {ps : List Nat} (h : xcF own mn put i [c, k] ps = true) {ci : Nat} (hci : ci ∈ (if c = 100 then xcsr else [c])) {C : String} {T : u_T} {N : Nat} (hc : vwCl[ci]? = some (C, T, N)) :
    k < N ∧ ∃ ref : String, ((∃ j, xg j (.fieldLink own i ref (T k).2.1 (T k).2.2.1) = true) ∨ (∃ j, xw j (.fieldLinkNest own i ref (T k).2.1 (T k).2.2.1 RX11) = true)) ∧ ((T k).1 = ref ∨ ∃ j, xg j (.sameField ref (T k).1 (T k).2.1 (T k).2.2.1) = true) ∧ (put = true → (T k).2.2.2 = true → mn = "<init>" ∧ (T k).1 = own ∧ ∃ j, xg j (.fieldLink own i ref (T k).2.1 (T k).2.2.1) = true) := by
  unfold xcF at h
  simp only [Bool.and_eq_true, Bool.or_eq_true, decide_eq_true_eq, List.all_eq_true, Bool.not_eq_true'] at h
  obtain ⟨⟨⟨h1, h2⟩, h3⟩, h4⟩ := h
  obtain ⟨⟨h5, h6⟩, h7⟩ := h3 ci hci
  rw [List.getD_eq_getElem?_getD, hc] at h6 h7
  have h7 : T k = _ := h7
  rw [← h7] at h1 h2 h4
  generalize (if c = 100 then if ps.getD 2 0 = 0 then own else RX0 else (vwCl.getD c (RX0, TX0, 2)).1) = ref at h1 h2 h4
  refine ⟨h6, ref, ?_, ?_, fun hp hf => ?_⟩
  · rcases h1 with h | h
    · exact Or.inl ⟨_, h⟩
    · exact Or.inr ⟨_, h⟩
  · rcases h2 with h | h
    · exact Or.inl h
    · exact Or.inr ⟨_, h⟩
  · rcases h4 with (h | h) | h
    · rw [hp] at h; cases h
    · rw [hf] at h; cases h
    · exact ⟨h.1.1, h.1.2, _, h.2⟩
theorem xcsr_lt {ci c : Nat} (h : ci ∈ (if c = 100 then xcsr else [c])) (hc : c < 13 ∨ c = 100) : ci < 13 := by
  by_cases h100 : c = 100
  · rw [if_pos h100] at h
    exact xcsr_13 ci h
  · rw [if_neg h100] at h
    rw [List.mem_singleton.mp h]
    omega
theorem xcF_lt {own mn : String} {put : Bool} {i c k : Nat} {ps : List Nat} (h : xcF own mn put i [c, k] ps = true) {ci : Nat} (hci : ci ∈ (if c = 100 then xcsr else [c])) : ci < 13 := by
  unfold xcF at h
  simp only [Bool.and_eq_true, decide_eq_true_eq, List.all_eq_true] at h
  exact (h.1.2 ci hci).1.1
section SND
variable {p : Program} {l : Launch} {e : Env} {R : Room} {s : State} {m : MethodId} {args : Array Value} {below : List Frame} {meth : Method} {c : Code} {Q : State → Prop}
variable {Γ : xΓ} {y d : Nat} {A : Nat → Prop} {H0 : Heap} {σ0 : xS} {ad0 : Nat → Nat → Nat}
set_option maxHeartbeats 4000000 in
theorem xget_obj (C : xCtx Γ ad0 σ0 y d A H0 p R s m args meth c) {ad : Nat → Nat → Nat} {σ : xS} {H : Heap} {locs : List Loc} {lsA : Array Slot} {rest : List Value} {r iO k i c' pc cells slots : Nat} {ps : List Nat} (h0 : (xreg r).1 = 0) (hcl : (xreg r).2.1 = c') (hi : iO < xcnt σ r) (hW : xWd Γ ad0 σ0 A H0 s ad σ H locs) (hck : xcF (xmeth y).1.cls (xmeth y).1.name false i [c', k] ps = true) (hdl : decode (xmeth y).2.1 pc = .ok (.getfield i, 3))
    {v : Value} (hv : xfv ad iO (rI σ r iO) (rL σ r iO) (rP σ r iO) k (xslot r k) = v) (kk : W p l e R s m args below meth c H locs cells slots Q (F0 m (pc + 3) lsA (v :: rest))) : W p l e R s m args below meth c H locs cells slots Q (F0 m pc lsA (.ref (ad r iO) :: rest)) := by
  obtain ⟨hx, hb, hml, hown, hts, hnw, hK, hA, hfr, hlo, hnm, hsc⟩ := C
  obtain ⟨hP, hD, hS, hwf, -⟩ := hW
  have hr := xtag_lt h0 (by omega) (by omega)
  obtain ⟨q, hq, -⟩ := xW_get Γ ad hr hi
  rw [xcell_obj h0] at hq
  obtain ⟨hci, -⟩ := xcls_in hwf h0 hi
  obtain ⟨Cn, T, N, hcv, -⟩ := xcl_get (xcF_lt hck (by rw [← hcl]; exact hci))
  obtain ⟨hkN, ref, hlink, hsame, -⟩ := xcF_of hck (by rw [← hcl]; exact hci) hcv
  obtain ⟨hN, -⟩ := xreg_ty (k := k) h0 hci hcv
  have hsm : ∀ x, s.fieldFound? (T k).1 (T k).2.1 (T k).2.2.1 = some x → s.fieldFound? ref (T k).2.1 (T k).2.2.1 = some x := by
    intro x hx'
    rcases hsame with h | ⟨j, h⟩
    · rw [← h]; exact hx'
    · exact u_same (hts _ (xg_mem h).1 (xg_mem h).2) x hx'
  have hfv := xfs_get (ad := ad) (i := iO) (fI := rI σ r iO) (fL := rL σ r iO) (fP := rP σ r iO) (r := r) (k := k) (by rw [← hN]; exact hkN)
  rw [hv] at hfv
  rcases hlink with ⟨j, h⟩ | ⟨j, h⟩
  · exact va_get hx hb (xTs_of hts) (xcl_ws hcv) hown hK hP q hq hcv k hkN (hts _ (xg_mem h).1 (xg_mem h).2) hsm hfv hdl kk
  · exact va_getN hx hb (xTs_of hts) (xcl_ws hcv) hown hK hP q hq hcv k hkN (va_Nw.use rfl (hnw _ (xw_mem h) rfl)) hsm hfv hdl kk
set_option maxHeartbeats 4000000 in
theorem xput_obj (C : xCtx Γ ad0 σ0 y d A H0 p R s m args meth c) {ad : Nat → Nat → Nat} {σ σ' : xS} {H : Heap} {locs : List Loc} {lsA : Array Slot} {rest : List Value} {r iO k i c' pc cells slots : Nat} {ps : List Nat} (h0 : (xreg r).1 = 0) (hcl : (xreg r).2.1 = c') (hi : iO < xcnt σ r) (hW : xWd Γ ad0 σ0 A H0 s ad σ H locs) (hck : xcF (xmeth y).1.cls (xmeth y).1.name true i [c', k] ps = true) (hdl : decode (xmeth y).2.1 pc = .ok (.putfield i, 3))
    {v : Value} (hC : σ'.2.2.2 = σ.2.2.2) (ho : ∀ r' i', ¬ (r' = r ∧ i' = iO) → rI σ' r' i' = rI σ r' i' ∧ rL σ' r' i' = rL σ r' i' ∧ rP σ' r' i' = rP σ r' i') (hwf' : xwf σ') (hok : ∀ j, j ≠ k → rI σ' r iO j = rI σ r iO j ∧ rL σ' r iO j = rL σ r iO j ∧ rP σ' r iO j = rP σ r iO j)
    (hv : xfv ad iO (rI σ' r iO) (rL σ' r iO) (rP σ' r iO) k (xslot r k) = v) (hty : ∀ ty, xtyq (xslot r k) (some ty) = true → narrow ty v = v ∧ fits ty v = true)
    (kk : ∀ (H1 : Heap) (locs1 : List Loc), xWd Γ ad0 σ0 A H0 s ad σ' H1 locs1 → W p l e R s m args below meth c H1 locs1 cells slots Q (F0 m (pc + 3) lsA rest)) : W p l e R s m args below meth c H locs cells slots Q (F0 m pc lsA (v :: .ref (ad r iO) :: rest)) := by
  obtain ⟨hx, hb, hml, hown, hts, hnw, hK, hA, hfr, hlo, hnm, hsc⟩ := C
  have hW' := hW
  obtain ⟨hP, hD, hS, hwf, -⟩ := hW
  have hr := xtag_lt h0 (by omega) (by omega)
  obtain ⟨q, hq, hqn⟩ := xW_get Γ ad hr hi
  rw [xcell_obj h0] at hq
  obtain ⟨hci, -⟩ := xcls_in hwf h0 hi
  obtain ⟨Cn, T, N, hcv, -⟩ := xcl_get (xcF_lt hck (by rw [← hcl]; exact hci))
  obtain ⟨hkN, ref, hlink, hsame, hput⟩ := xcF_of hck (by rw [← hcl]; exact hci) hcv
  obtain ⟨hN, htq⟩ := xreg_ty (k := k) h0 hci hcv
  obtain ⟨ty0, hty0, hnm0⟩ := xcl_ty hcv
  have hk' : k < (xreg r).2.2.2.length := by rw [← hN]; exact hkN
  have hsm : ∀ x, s.fieldFound? (T k).1 (T k).2.1 (T k).2.2.1 = some x → s.fieldFound? ref (T k).2.1 (T k).2.2.1 = some x := by
    intro x hx'
    rcases hsame with h | ⟨j, h⟩
    · rw [← h]; exact hx'
    · exact u_same (hts _ (xg_mem h).1 (xg_mem h).2) x hx'
  have htq := htq hkN
  rw [hty0 k hkN] at htq
  obtain ⟨hnar, hfit⟩ := hty _ htq
  have hset := xfs_set (ad := ad) (i := iO) (r := r) (k := k) (fI := rI σ r iO) (fL := rL σ r iO) (fP := rP σ r iO) (fI' := rI σ' r iO) (fL' := rL σ' r iO) (fP' := rP σ' r iO) hk' hv hok
  have hcell : (.inr (xcls σ r iO, (xfs ad r iO (rI σ r iO) (rL σ r iO) (rP σ r iO)).set k v) : va_E) = xcell Γ ad σ' r iO := by
    rw [xcell_obj h0, hset, xcls_C (congrArg Prod.fst hC)]
  have kk' : ∀ (H1 : Heap) (locs1 : List Loc), va_P Γ.1 vwCl ((xW Γ ad σ).set q (ad r iO, .inr (xcls σ r iO, (xfs ad r iO (rI σ r iO) (rL σ r iO) (rP σ r iO)).set k v))) H1 → va_D A ((xW Γ ad σ).set q (ad r iO, .inr (xcls σ r iO, (xfs ad r iO (rI σ r iO) (rL σ r iO) (rP σ r iO)).set k v))) → va_S A H0 H1 locs1 → W p l e R s m args below meth c H1 locs1 cells slots Q (F0 m (pc + 3) lsA rest) := by
    intro H1 locs1 hP1 hD1 hS1
    rw [hcell] at hP1 hD1
    exact kk H1 locs1 (xWd_upd hW' hC hr hqn ho hwf' hP1 hD1 hS1)
  cases hfin : (T k).2.2.2 with
  | true =>
    obtain ⟨g1, g2, j, g3⟩ := hput rfl hfin
    exact va_putF hx hb (xTs_of hts) (xcl_ws hcv) ty0 hty0 hnm0 hown hK hP hD hS q hq hcv k hkN (hts _ (xg_mem g3).1 (xg_mem g3).2) hsm hfin (hnm g1) g2 (hty0 k hkN) hnar hfit (by rw [xfs_len]; exact hk') hdl kk'
  | false =>
    rcases hlink with ⟨j, h⟩ | ⟨j, h⟩
    · exact va_put hx hb (xTs_of hts) (xcl_ws hcv) ty0 hty0 hnm0 hown hK hP hD hS q hq hcv k hkN (hts _ (xg_mem h).1 (xg_mem h).2) hsm hfin (hty0 k hkN) hnar hfit (by rw [xfs_len]; exact hk') hdl kk'
    · exact va_putN hx hb (xTs_of hts) (xcl_ws hcv) ty0 hty0 hnm0 hown hK hP hD hS q hq hcv k hkN (va_Nw.use rfl (hnw _ (xw_mem h) rfl)) hsm hfin (hty0 k hkN) hnar hfit (by rw [xfs_len]; exact hk') hdl kk'

set_option maxHeartbeats 4000000 in
set_option maxRecDepth 100000 in
theorem xs_getfield (C : xCtx Γ ad0 σ0 y d A H0 p R s m args meth c) {rk rr : Nat} {ks : List (Nat × List Nat)} {pc len : Nat} {aux ps : List Nat} {ls : xL} {st : List xV} {σ : xS} {o : Option Nat} {g : Nat → xB} {i : Nat} (hchk : xchk (xmeth y).1 (xmeth y).2.1 (xmeth y).2.2.1 (pc, (.getfield i), len, aux) ps = true) (hs : xstep rk rr ks y (pc, (.getfield i), len, aux) ls st σ = some (.inr (.inl (o, g)))) (hp : xsP (xG Γ ad0 σ0 A H0 p l e R s m args below meth c Q y) o g)  : ∀ (ad : Nat → Nat → Nat) (H : Heap) (locs : List Loc) (lsA : Array Slot), xWd Γ ad0 σ0 A H0 s ad σ H locs → lv_has lsA (xmeth y).2.2.1 (xlv ad 0 ls) → ls.length = (xmeth y).2.2.1 → xokL σ ls → xokS σ st → W p l e R s m args below meth c H locs (σ.2.2.2.2.1 - σ0.2.2.2.2.1) (σ.2.2.2.2.2 - σ0.2.2.2.2.2) Q (F0 m pc lsA (st.map (xtv ad))) := by
  obtain ⟨hx, hb, hml, hown, hts, hnw, hK, hA, hfr, hlo, hnm, hsc⟩ := C
  have hdl : decode (xmeth y).2.1 pc = .ok ((.getfield i), len) := of_decide_eq_true (Bool.and_eq_true_iff.mp hchk).1
  have hc := (Bool.and_eq_true_iff.mp hchk).2
  intro ad H locs lsA hW hl hn hkL hkS
  simp only [Bool.and_eq_true] at hc
  have hlen := Nat.eq_of_beq_eq_true hc.1
  subst hlen
  
  have C : xCtx Γ ad0 σ0 y d A H0 p R s m args meth c := ⟨hx, hb, hml, hown, hts, hnw, hK, hA, hfr, hlo, hnm, hsc⟩
  simp only [xstep, xgetf] at hs
  split at hs
  · rename_i c' k r w st'
    cases hcond : (Nat.beq (xreg r).1 0 && Nat.beq (xreg r).2.1 c') with
    | false => rw [hcond] at hs; cases hs
    | true =>
      rw [hcond] at hs
      rw [Bool.and_eq_true] at hcond
      have h0 := Nat.eq_of_beq_eq_true hcond.1
      have hcl := Nat.eq_of_beq_eq_true hcond.2
      have hr := xtag_lt h0 (by omega) (by omega)
      have hlen : ∀ iO, iO < xcnt σ r → k < (xreg r).2.2.2.length := by
        intro iO hi
        obtain ⟨hci, -⟩ := xcls_in hW.2.2.2.1 h0 hi
        obtain ⟨Cn, T, N, hcv, -⟩ := xcl_get (xcF_lt hc.2 (by rw [← hcl]; exact hci))
        obtain ⟨hkN, -⟩ := xcF_of hc.2 (by rw [← hcl]; exact hci) hcv
        obtain ⟨hN, -⟩ := xreg_ty (k := k) h0 hci hcv
        omega
      dsimp only [cond] at hs
      split at hs
      · rename_i _ _ hsl
        obtain ⟨i, hw, h⟩ := xopt_inv hs hp
        subst hw
        exact xget_obj C h0 hcl (hkS _ List.mem_cons_self) hW hc.2 hdl (by rw [hsl]; rfl) ((xgo_wp h).2 ad H locs lsA hW hl hn hkL (fun v hv => by
        rcases List.mem_cons.mp hv with h | h
        · subst h; trivial
        · exact hkS v (List.mem_cons_of_mem _ h)))
      · rename_i _ _ hsl
        obtain ⟨i, hw, h⟩ := xopt_inv hs hp
        subst hw
        exact xget_obj C h0 hcl (hkS _ List.mem_cons_self) hW hc.2 hdl (by rw [hsl]; rfl) ((xgo_wp h).2 ad H locs lsA hW hl hn hkL (fun v hv => by
        rcases List.mem_cons.mp hv with h | h
        · subst h; trivial
        · exact hkS v (List.mem_cons_of_mem _ h)))
      · rename_i _ _ hsl
        obtain ⟨i, hw, h⟩ := xopt_inv hs hp
        subst hw
        exact xget_obj C h0 hcl (hkS _ List.mem_cons_self) hW hc.2 hdl (by rw [hsl]; rfl) ((xgo_wp h).2 ad H locs lsA hW hl hn hkL (fun v hv => by
        rcases List.mem_cons.mp hv with h | h
        · subst h; trivial
        · exact hkS v (List.mem_cons_of_mem _ h)))
      · rename_i r' _ hsl
        obtain ⟨i, hw, h⟩ := xopt_inv hs hp
        subst hw
        exact xget_obj C h0 hcl (hkS _ List.mem_cons_self) hW hc.2 hdl (by rw [hsl]; rfl) ((xgo_wp h).2 ad H locs lsA hW hl hn hkL (fun v hv => by
        rcases List.mem_cons.mp hv with h | h
        · subst h; have hi := hkS _ List.mem_cons_self
          obtain ⟨g1, g2, g3, g4⟩ := xfix hr h0 (hlen i hi) hsl
          show i < xcnt σ _
          have hi : i < xcnt σ r := hi
          unfold xcnt at hi ⊢
          rw [if_neg g1, if_neg (by omega)] at hi
          rw [if_neg g2, if_neg (by omega)]
          omega
        · exact hkS v (List.mem_cons_of_mem _ h)))
      · rename_i r' a hsl
        obtain ⟨i, hw, h⟩ := xopt_inv hs hp
        subst hw
        exact xget_obj C h0 hcl (hkS _ List.mem_cons_self) hW hc.2 hdl (by rw [hsl]; rfl) ((xgo_wp h).2 ad H locs lsA hW hl hn hkL (fun v hv => by
        rcases List.mem_cons.mp hv with h | h
        · subst h; have hi := hkS _ List.mem_cons_self
          obtain ⟨g2, g3, g4⟩ := xfix5 hr h0 (hlen i hi) hsl
          show _ < xcnt σ _
          unfold xcnt
          rw [if_neg g2, if_neg (by omega)]
          exact g4
        · exact hkS v (List.mem_cons_of_mem _ h)))
      · rename_i r' _ hsl
        obtain ⟨i, hw, h⟩ := xopt_inv hs hp
        subst hw
        exact xget_obj C h0 hcl (hkS _ List.mem_cons_self) hW hc.2 hdl (by rw [hsl]; rfl) ((xgo_wp h).2 ad H locs lsA hW hl hn hkL (fun v hv => by
        rcases List.mem_cons.mp hv with h | h
        · subst h; cases hp3 : rP σ r i k with
          | none => trivial
          | some j =>
            have := hW.2.2.2.1.2.1 r i k j h0 (by rw [hsl]) hp3
            rw [hsl] at this
            exact this
        · exact hkS v (List.mem_cons_of_mem _ h)))
      · cases hs
  · cases hs
set_option maxHeartbeats 4000000 in
set_option maxRecDepth 100000 in
theorem xs_putfield (C : xCtx Γ ad0 σ0 y d A H0 p R s m args meth c) {rk rr : Nat} {ks : List (Nat × List Nat)} {pc len : Nat} {aux ps : List Nat} {ls : xL} {st : List xV} {σ : xS} {o : Option Nat} {g : Nat → xB} {i : Nat} (hchk : xchk (xmeth y).1 (xmeth y).2.1 (xmeth y).2.2.1 (pc, (.putfield i), len, aux) ps = true) (hs : xstep rk rr ks y (pc, (.putfield i), len, aux) ls st σ = some (.inr (.inl (o, g)))) (hp : xsP (xG Γ ad0 σ0 A H0 p l e R s m args below meth c Q y) o g)  : ∀ (ad : Nat → Nat → Nat) (H : Heap) (locs : List Loc) (lsA : Array Slot), xWd Γ ad0 σ0 A H0 s ad σ H locs → lv_has lsA (xmeth y).2.2.1 (xlv ad 0 ls) → ls.length = (xmeth y).2.2.1 → xokL σ ls → xokS σ st → W p l e R s m args below meth c H locs (σ.2.2.2.2.1 - σ0.2.2.2.2.1) (σ.2.2.2.2.2 - σ0.2.2.2.2.2) Q (F0 m pc lsA (st.map (xtv ad))) := by
  obtain ⟨hx, hb, hml, hown, hts, hnw, hK, hA, hfr, hlo, hnm, hsc⟩ := C
  have hdl : decode (xmeth y).2.1 pc = .ok ((.putfield i), len) := of_decide_eq_true (Bool.and_eq_true_iff.mp hchk).1
  have hc := (Bool.and_eq_true_iff.mp hchk).2
  intro ad H locs lsA hW hl hn hkL hkS
  simp only [Bool.and_eq_true] at hc
  have hlen := Nat.eq_of_beq_eq_true hc.1
  subst hlen
  
  have C : xCtx Γ ad0 σ0 y d A H0 p R s m args meth c := ⟨hx, hb, hml, hown, hts, hnw, hK, hA, hfr, hlo, hnm, hsc⟩
  simp only [xstep, xputf] at hs
  split at hs
  · rename_i c' k v r w st'
    cases hcond : (Nat.beq (xreg r).1 0 && Nat.beq (xreg r).2.1 c') with
    | false => rw [hcond] at hs; cases hs
    | true =>
      rw [hcond] at hs
      rw [Bool.and_eq_true] at hcond
      have h0 := Nat.eq_of_beq_eq_true hcond.1
      have hcl := Nat.eq_of_beq_eq_true hcond.2
      have hr := xtag_lt h0 (by omega) (by omega)
      have hwf := hW.2.2.2.1
      dsimp only [cond] at hs
      split at hs
      · rename_i _ _ x hsl
        obtain ⟨i, hw, h⟩ := xopt_inv hs hp
        subst hw
        have hi : i < xcnt σ r := hkS _ (List.mem_cons_of_mem _ List.mem_cons_self)
        refine xput_obj (σ' := wI σ r i k x) C h0 hcl hi hW hc.2 hdl rfl (fun r' i' hne => ⟨by rw [rI_wI, if_neg hne], rfl, rfl⟩) (xwf_same hwf rfl rfl) (fun j hj => ⟨by rw [rI_wI, if_pos ⟨rfl, rfl⟩]; exact if_neg hj, rfl, rfl⟩) (by rw [hsl]; show Value.int _ = Value.int _; rw [rI_wI, if_pos ⟨rfl, rfl⟩]; exact congrArg Value.int (if_pos rfl)) (fun ty hty => ?_) (fun H1 locs1 hW1 => (xgo_wp h).2 ad H1 locs1 lsA hW1 hl hn hkL (fun v hv => hkS v (List.mem_cons_of_mem _ (List.mem_cons_of_mem _ hv))))
        rw [hsl] at hty
        cases ty <;> first | exact ⟨rfl, rfl⟩ | cases hty
      · rename_i _ _ x hsl
        obtain ⟨i, hw, h⟩ := xopt_inv hs hp
        obtain ⟨h01, h⟩ := xone_inv h
        subst hw
        have hi : i < xcnt σ r := hkS _ (List.mem_cons_of_mem _ List.mem_cons_self)
        refine xput_obj (σ' := wI σ r i k x) C h0 hcl hi hW hc.2 hdl rfl (fun r' i' hne => ⟨by rw [rI_wI, if_neg hne], rfl, rfl⟩) (xwf_same hwf rfl rfl) (fun j hj => ⟨by rw [rI_wI, if_pos ⟨rfl, rfl⟩]; exact if_neg hj, rfl, rfl⟩) (by rw [hsl]; show Value.int _ = Value.int _; rw [rI_wI, if_pos ⟨rfl, rfl⟩]; exact congrArg Value.int (if_pos rfl)) (fun ty hty => ?_) (fun H1 locs1 hW1 => (xgo_wp h).2 ad H1 locs1 lsA hW1 hl hn hkL (fun v hv => hkS v (List.mem_cons_of_mem _ (List.mem_cons_of_mem _ hv))))
        rw [hsl] at hty
        cases ty <;> first | (rcases h01 with h | h <;> subst h <;> exact ⟨rfl, rfl⟩) | cases hty
      · rename_i _ _ x hsl
        obtain ⟨i, hw, h⟩ := xopt_inv hs hp
        subst hw
        have hi : i < xcnt σ r := hkS _ (List.mem_cons_of_mem _ List.mem_cons_self)
        refine xput_obj (σ' := wL σ r i k x) C h0 hcl hi hW hc.2 hdl rfl (fun r' i' hne => ⟨rfl, by rw [rL_wL, if_neg hne], rfl⟩) (xwf_same hwf rfl rfl) (fun j hj => ⟨rfl, by rw [rL_wL, if_pos ⟨rfl, rfl⟩]; exact if_neg hj, rfl⟩) (by rw [hsl]; show Value.long _ = Value.long _; rw [rL_wL, if_pos ⟨rfl, rfl⟩]; exact congrArg Value.long (if_pos rfl)) (fun ty hty => ?_) (fun H1 locs1 hW1 => (xgo_wp h).2 ad H1 locs1 lsA hW1 hl hn hkL (fun v hv => hkS v (List.mem_cons_of_mem _ (List.mem_cons_of_mem _ hv))))
        rw [hsl] at hty
        cases ty <;> first | exact ⟨rfl, rfl⟩ | cases hty
      · rename_i r' _ r1 x hsl
        cases hb1 : Nat.beq r1 r' with
        | false => rw [hb1] at hs; cases hs
        | true =>
        rw [hb1] at hs
        cases Nat.eq_of_beq_eq_true hb1
        obtain ⟨i, hw, h⟩ := xopt_inv hs hp
        subst hw
        have hi : i < xcnt σ r := hkS _ (List.mem_cons_of_mem _ List.mem_cons_self)
        have hx1 : ∀ j, x = some j → j < xcnt σ r' := fun j hj => by
          subst hj
          exact hkS _ List.mem_cons_self
        have hwf' : xwf (wP σ r i k x) := xwf_wP hwf hx1 (fun h3 => by rw [h0] at h3; cases h3) (fun _ _ => by rw [hsl])
        refine xput_obj (σ' := wP σ r i k x) (v := xtv ad (.inr (.inr (r', x)))) C h0 hcl hi hW hc.2 hdl rfl (fun r2 i2 hne => ⟨rfl, rfl, by rw [rP_wP, if_neg hne]⟩) hwf' (fun j hj => ⟨rfl, rfl, by rw [rP_wP, if_pos ⟨rfl, rfl⟩]; exact if_neg hj⟩) (by rw [hsl]; show va_rf _ = va_rf _; rw [rP_wP, if_pos ⟨rfl, rfl⟩]; exact congrArg (fun z => va_rf (Option.map (ad r') z)) (if_pos rfl)) (fun ty hty => ?_) (fun H1 locs1 hW1 => (xgo_wp h).2 ad H1 locs1 lsA hW1 hl hn hkL (fun v hv => hkS v (List.mem_cons_of_mem _ (List.mem_cons_of_mem _ hv))))
        rw [hsl] at hty
        cases x <;> cases ty <;> first | exact ⟨rfl, rfl⟩ | cases hty
      · cases hs
  · cases hs
set_option maxHeartbeats 4000000 in
set_option maxRecDepth 100000 in
theorem xs_iaload (C : xCtx Γ ad0 σ0 y d A H0 p R s m args meth c) {rk rr : Nat} {ks : List (Nat × List Nat)} {pc len : Nat} {aux ps : List Nat} {ls : xL} {st : List xV} {σ : xS} {o : Option Nat} {g : Nat → xB} (hchk : xchk (xmeth y).1 (xmeth y).2.1 (xmeth y).2.2.1 (pc, .iaload, len, aux) ps = true) (hs : xstep rk rr ks y (pc, .iaload, len, aux) ls st σ = some (.inr (.inl (o, g)))) (hp : xsP (xG Γ ad0 σ0 A H0 p l e R s m args below meth c Q y) o g)  : ∀ (ad : Nat → Nat → Nat) (H : Heap) (locs : List Loc) (lsA : Array Slot), xWd Γ ad0 σ0 A H0 s ad σ H locs → lv_has lsA (xmeth y).2.2.1 (xlv ad 0 ls) → ls.length = (xmeth y).2.2.1 → xokL σ ls → xokS σ st → W p l e R s m args below meth c H locs (σ.2.2.2.2.1 - σ0.2.2.2.2.1) (σ.2.2.2.2.2 - σ0.2.2.2.2.2) Q (F0 m pc lsA (st.map (xtv ad))) := by
  obtain ⟨hx, hb, hml, hown, hts, hnw, hK, hA, hfr, hlo, hnm, hsc⟩ := C
  have hdl : decode (xmeth y).2.1 pc = .ok (.iaload, len) := of_decide_eq_true (Bool.and_eq_true_iff.mp hchk).1
  have hc := (Bool.and_eq_true_iff.mp hchk).2
  intro ad H locs lsA hW hl hn hkL hkS
  have hlen := Nat.eq_of_beq_eq_true hc
  subst hlen
  have C : xCtx Γ ad0 σ0 y d A H0 p R s m args meth c := ⟨hx, hb, hml, hown, hts, hnw, hK, hA, hfr, hlo, hnm, hsc⟩
  obtain ⟨hP, hD, hS, hwf, hag, hpre⟩ := id hW
  
  simp only [xstep] at hs
  split at hs
  · rename_i a r w st'
    split at hs
    · rename_i n _ hx1
      obtain ⟨i, hw, h⟩ := xopt_inv hs hp
      subst hw
      obtain ⟨hin, h⟩ := xone_inv h
      have ht : (xreg r).1 = 1 := by rw [hx1]
      have hn1 : (xreg r).2.1 = n := by rw [hx1]
      have hr := xtag_lt ht (by omega) (by omega)
      have hi : i < xcnt σ r := hkS _ (List.mem_cons_of_mem _ List.mem_cons_self)
      obtain ⟨q, hq, -⟩ := xW_get Γ ad hr hi
      rw [xcell_ints ht, hn1] at hq
      exact va_iald hx hb hK hP q 0 hq rfl hin hdl ((xgo_wp h).2 ad H locs lsA hW hl hn hkL (fun v hv => by
          rcases List.mem_cons.mp hv with h | h
          · subst h; trivial
          · exact hkS v (List.mem_cons_of_mem _ (List.mem_cons_of_mem _ h))))
    · rename_i hx1
      obtain ⟨i, hw, h⟩ := xopt_inv hs hp
      subst hw
      obtain ⟨⟨hn0, hlt⟩, h⟩ := xone_inv h
      have hr : r = 36 := by
        refine Classical.byContradiction fun hne => ?_
        by_cases hr : r < 36
        · rcases xtags hr with h | h | h | h | h <;> rw [hx1] at h <;> cases h
        · rw [xreg_big (by omega)] at hx1
          cases hx1
      subst hr
      have hi : i < xcnt σ 36 := hkS _ (List.mem_cons_of_mem _ List.mem_cons_self)
      have hi0 : i = 0 := by
        have : xcnt σ 36 = 1 := rfl
        omega
      subst hi0
      obtain ⟨L, xs, g1, g2, g3, g4, g5, g6⟩ := hsc
      have e3072 : rI σ 36 0 3072 = nI L := (hpre.2.2.2 3072).trans g5
      rw [e3072] at hlt
      have hin : vp_in a L := vp_in_iff.mpr ⟨by
        have h1 := Int32.not_lt.mp hn0
        simpa using Int32.le_iff_toInt_le.mp h1, by
        have h1 := Int32.lt_iff_toInt_lt.mp hlt
        rwa [nI_toInt (by omega)] at h1⟩
      have hval : rI σ 36 0 a.toNatClampNeg = xs a.toNatClampNeg := (hpre.2.2.2 _).trans (g4 _ (Nat.not_le.mp fun q => hin (Or.inr q)))
      have had : ad 36 0 = ad0 36 0 := hag 36 0 (by show 0 < 1; omega)
      show W p l e R s m args below meth c H locs _ _ Q (F0 m pc lsA (.int a :: .ref (ad 36 0) :: st'.map (xtv ad)))
      rw [had]
      refine va_sld hx hb g1 g2 g3 hS hin hdl ?_
      rw [← hval]
      exact (xgo_wp h).2 ad H locs lsA hW hl hn hkL (fun v hv => by
        rcases List.mem_cons.mp hv with h | h
        · subst h; trivial
        · exact hkS v (List.mem_cons_of_mem _ (List.mem_cons_of_mem _ h)))
    · cases hs
  · cases hs
set_option maxHeartbeats 4000000 in
set_option maxRecDepth 100000 in
theorem xs_laload (C : xCtx Γ ad0 σ0 y d A H0 p R s m args meth c) {rk rr : Nat} {ks : List (Nat × List Nat)} {pc len : Nat} {aux ps : List Nat} {ls : xL} {st : List xV} {σ : xS} {o : Option Nat} {g : Nat → xB} (hchk : xchk (xmeth y).1 (xmeth y).2.1 (xmeth y).2.2.1 (pc, .laload, len, aux) ps = true) (hs : xstep rk rr ks y (pc, .laload, len, aux) ls st σ = some (.inr (.inl (o, g)))) (hp : xsP (xG Γ ad0 σ0 A H0 p l e R s m args below meth c Q y) o g)  : ∀ (ad : Nat → Nat → Nat) (H : Heap) (locs : List Loc) (lsA : Array Slot), xWd Γ ad0 σ0 A H0 s ad σ H locs → lv_has lsA (xmeth y).2.2.1 (xlv ad 0 ls) → ls.length = (xmeth y).2.2.1 → xokL σ ls → xokS σ st → W p l e R s m args below meth c H locs (σ.2.2.2.2.1 - σ0.2.2.2.2.1) (σ.2.2.2.2.2 - σ0.2.2.2.2.2) Q (F0 m pc lsA (st.map (xtv ad))) := by
  obtain ⟨hx, hb, hml, hown, hts, hnw, hK, hA, hfr, hlo, hnm, hsc⟩ := C
  have hdl : decode (xmeth y).2.1 pc = .ok (.laload, len) := of_decide_eq_true (Bool.and_eq_true_iff.mp hchk).1
  have hc := (Bool.and_eq_true_iff.mp hchk).2
  intro ad H locs lsA hW hl hn hkL hkS
  have hlen := Nat.eq_of_beq_eq_true hc
  subst hlen
  have C : xCtx Γ ad0 σ0 y d A H0 p R s m args meth c := ⟨hx, hb, hml, hown, hts, hnw, hK, hA, hfr, hlo, hnm, hsc⟩
  obtain ⟨hP, hD, hS, hwf, hag, hpre⟩ := id hW
  
  simp only [xstep] at hs
  split at hs
  · rename_i a r w st'
    split at hs
    · rename_i n _ hx1
      obtain ⟨i, hw, h⟩ := xopt_inv hs hp
      subst hw
      obtain ⟨hin, h⟩ := xone_inv h
      have ht : (xreg r).1 = 2 := by rw [hx1]
      have hn1 : (xreg r).2.1 = n := by rw [hx1]
      have hr := xtag_lt ht (by omega) (by omega)
      have hi : i < xcnt σ r := hkS _ (List.mem_cons_of_mem _ List.mem_cons_self)
      obtain ⟨q, hq, -⟩ := xW_get Γ ad hr hi
      rw [xcell_longs ht, hn1] at hq
      exact va_lald hx hb hK hP q 1 hq rfl hin hdl ((xgo_wp h).2 ad H locs lsA hW hl hn hkL (fun v hv => by
          rcases List.mem_cons.mp hv with h | h
          · subst h; trivial
          · exact hkS v (List.mem_cons_of_mem _ (List.mem_cons_of_mem _ h))))
    · cases hs
  · cases hs
set_option maxHeartbeats 4000000 in
set_option maxRecDepth 100000 in
theorem xs_iastore (C : xCtx Γ ad0 σ0 y d A H0 p R s m args meth c) {rk rr : Nat} {ks : List (Nat × List Nat)} {pc len : Nat} {aux ps : List Nat} {ls : xL} {st : List xV} {σ : xS} {o : Option Nat} {g : Nat → xB} (hchk : xchk (xmeth y).1 (xmeth y).2.1 (xmeth y).2.2.1 (pc, .iastore, len, aux) ps = true) (hs : xstep rk rr ks y (pc, .iastore, len, aux) ls st σ = some (.inr (.inl (o, g)))) (hp : xsP (xG Γ ad0 σ0 A H0 p l e R s m args below meth c Q y) o g)  : ∀ (ad : Nat → Nat → Nat) (H : Heap) (locs : List Loc) (lsA : Array Slot), xWd Γ ad0 σ0 A H0 s ad σ H locs → lv_has lsA (xmeth y).2.2.1 (xlv ad 0 ls) → ls.length = (xmeth y).2.2.1 → xokL σ ls → xokS σ st → W p l e R s m args below meth c H locs (σ.2.2.2.2.1 - σ0.2.2.2.2.1) (σ.2.2.2.2.2 - σ0.2.2.2.2.2) Q (F0 m pc lsA (st.map (xtv ad))) := by
  obtain ⟨hx, hb, hml, hown, hts, hnw, hK, hA, hfr, hlo, hnm, hsc⟩ := C
  have hdl : decode (xmeth y).2.1 pc = .ok (.iastore, len) := of_decide_eq_true (Bool.and_eq_true_iff.mp hchk).1
  have hc := (Bool.and_eq_true_iff.mp hchk).2
  intro ad H locs lsA hW hl hn hkL hkS
  have hlen := Nat.eq_of_beq_eq_true hc
  subst hlen
  have C : xCtx Γ ad0 σ0 y d A H0 p R s m args meth c := ⟨hx, hb, hml, hown, hts, hnw, hK, hA, hfr, hlo, hnm, hsc⟩
  obtain ⟨hP, hD, hS, hwf, hag, hpre⟩ := id hW
  
  simp only [xstep] at hs
  split at hs
  · rename_i v a r w st'
    split at hs
    · rename_i n _ hx1
      obtain ⟨i, hw, h⟩ := xopt_inv hs hp
      subst hw
      obtain ⟨hin, h⟩ := xone_inv h
      have ht : (xreg r).1 = 1 := by rw [hx1]
      have hn1 : (xreg r).2.1 = n := by rw [hx1]
      have hr := xtag_lt ht (by omega) (by omega)
      have hi : i < xcnt σ r := hkS _ (List.mem_cons_of_mem _ (List.mem_cons_of_mem _ List.mem_cons_self))
      obtain ⟨q, hq, hqn⟩ := xW_get Γ ad hr hi
      rw [xcell_ints ht, hn1] at hq
      have hcell : (.inl (Γ.2.1, n, .inl (upd (rI σ r i) a.toNatClampNeg v)) : va_E) = xcell Γ ad (wI σ r i a.toNatClampNeg v) r i := by
        rw [xcell_ints ht, hn1, rI_wI, if_pos ⟨rfl, rfl⟩]
        rfl
      refine va_iast hx hb hK hP hD hS q 0 hq rfl hin hdl fun H1 locs1 hP1 hD1 hS1 => ?_
      rw [hcell] at hP1 hD1
      exact (xgo_wp h).2 ad H1 locs1 lsA (xWd_upd hW rfl hr hqn (fun r' i' hne => ⟨by rw [rI_wI, if_neg hne], rfl, rfl⟩) (xwf_same hwf rfl rfl) hP1 hD1 hS1) hl hn hkL (fun v hv => hkS v (List.mem_cons_of_mem _ (List.mem_cons_of_mem _ (List.mem_cons_of_mem _ hv))))
    · cases hs
  · cases hs
set_option maxHeartbeats 4000000 in
set_option maxRecDepth 100000 in
theorem xs_aaload (C : xCtx Γ ad0 σ0 y d A H0 p R s m args meth c) {rk rr : Nat} {ks : List (Nat × List Nat)} {pc len : Nat} {aux ps : List Nat} {ls : xL} {st : List xV} {σ : xS} {o : Option Nat} {g : Nat → xB} (hchk : xchk (xmeth y).1 (xmeth y).2.1 (xmeth y).2.2.1 (pc, .aaload, len, aux) ps = true) (hs : xstep rk rr ks y (pc, .aaload, len, aux) ls st σ = some (.inr (.inl (o, g)))) (hp : xsP (xG Γ ad0 σ0 A H0 p l e R s m args below meth c Q y) o g)  : ∀ (ad : Nat → Nat → Nat) (H : Heap) (locs : List Loc) (lsA : Array Slot), xWd Γ ad0 σ0 A H0 s ad σ H locs → lv_has lsA (xmeth y).2.2.1 (xlv ad 0 ls) → ls.length = (xmeth y).2.2.1 → xokL σ ls → xokS σ st → W p l e R s m args below meth c H locs (σ.2.2.2.2.1 - σ0.2.2.2.2.1) (σ.2.2.2.2.2 - σ0.2.2.2.2.2) Q (F0 m pc lsA (st.map (xtv ad))) := by
  obtain ⟨hx, hb, hml, hown, hts, hnw, hK, hA, hfr, hlo, hnm, hsc⟩ := C
  have hdl : decode (xmeth y).2.1 pc = .ok (.aaload, len) := of_decide_eq_true (Bool.and_eq_true_iff.mp hchk).1
  have hc := (Bool.and_eq_true_iff.mp hchk).2
  intro ad H locs lsA hW hl hn hkL hkS
  have hlen := Nat.eq_of_beq_eq_true hc
  subst hlen
  have C : xCtx Γ ad0 σ0 y d A H0 p R s m args meth c := ⟨hx, hb, hml, hown, hts, hnw, hK, hA, hfr, hlo, hnm, hsc⟩
  obtain ⟨hP, hD, hS, hwf, hag, hpre⟩ := id hW
  
  simp only [xstep] at hs
  split at hs
  · rename_i a r w st'
    split at hs
    · rename_i n _ r' _ hx1
      obtain ⟨i, hw, h⟩ := xopt_inv hs hp
      subst hw
      obtain ⟨hin, h⟩ := xone_inv h
      have ht : (xreg r).1 = 3 := by rw [hx1]
      have hn1 : (xreg r).2.1 = n := by rw [hx1]
      have hr := xtag_lt ht (by omega) (by omega)
      have htg : xtgt r = r' := by unfold xtgt; rw [hx1]; rfl
      have hi : i < xcnt σ r := hkS _ (List.mem_cons_of_mem _ List.mem_cons_self)
      obtain ⟨q, hq, -⟩ := xW_get Γ ad hr hi
      rw [xcell_refs ht, hn1, htg] at hq
      exact va_aldq hx hb hK hP q 2 hq rfl hin hdl ((xgo_wp h).2 ad H locs lsA hW hl hn hkL (fun v hv => by
        rcases List.mem_cons.mp hv with h | h
        · subst h
          cases hp3 : rP σ r i a.toNatClampNeg with
          | none => trivial
          | some j =>
            have := hwf.1 r i _ j ht hp3
            rw [htg] at this
            exact this
        · exact hkS v (List.mem_cons_of_mem _ (List.mem_cons_of_mem _ h))))
    · rename_i n _ r' _ hx1
      obtain ⟨i, hw, h⟩ := xopt_inv hs hp
      subst hw
      obtain ⟨hin, h⟩ := xone_inv h
      have ht : (xreg r).1 = 4 := by rw [hx1]
      have hn1 : (xreg r).2.1 = n := by rw [hx1]
      have hr := xtag_lt ht (by omega) (by omega)
      have htg : xtgt r = r' := by unfold xtgt; rw [hx1]; rfl
      have hlt : a.toNatClampNeg < n := Nat.not_le.mp fun q => hin (Or.inr q)
      have hi : i < xcnt σ r := hkS _ (List.mem_cons_of_mem _ List.mem_cons_self)
      obtain ⟨q, hq, -⟩ := xW_get Γ ad hr hi
      rw [xcell_fixed ht, hn1, htg] at hq
      refine va_aldq hx hb hK hP q 3 hq rfl hin hdl ?_
      rw [if_pos hlt]
      exact (xgo_wp h).2 ad H locs lsA hW hl hn hkL (fun v hv => by
        rcases List.mem_cons.mp hv with h | h
        · subst h
          obtain ⟨k1, k2⟩ := xtag4 hr ht
          show a.toNatClampNeg < xcnt σ r'
          rw [← htg, k1]
          unfold xcnt
          rw [if_neg (by omega), if_neg (by omega)]
          omega
        · exact hkS v (List.mem_cons_of_mem _ (List.mem_cons_of_mem _ h)))
    · cases hs
  · cases hs
set_option maxHeartbeats 4000000 in
set_option maxRecDepth 100000 in
theorem xs_aastore (C : xCtx Γ ad0 σ0 y d A H0 p R s m args meth c) {rk rr : Nat} {ks : List (Nat × List Nat)} {pc len : Nat} {aux ps : List Nat} {ls : xL} {st : List xV} {σ : xS} {o : Option Nat} {g : Nat → xB} (hchk : xchk (xmeth y).1 (xmeth y).2.1 (xmeth y).2.2.1 (pc, .aastore, len, aux) ps = true) (hs : xstep rk rr ks y (pc, .aastore, len, aux) ls st σ = some (.inr (.inl (o, g)))) (hp : xsP (xG Γ ad0 σ0 A H0 p l e R s m args below meth c Q y) o g)  : ∀ (ad : Nat → Nat → Nat) (H : Heap) (locs : List Loc) (lsA : Array Slot), xWd Γ ad0 σ0 A H0 s ad σ H locs → lv_has lsA (xmeth y).2.2.1 (xlv ad 0 ls) → ls.length = (xmeth y).2.2.1 → xokL σ ls → xokS σ st → W p l e R s m args below meth c H locs (σ.2.2.2.2.1 - σ0.2.2.2.2.1) (σ.2.2.2.2.2 - σ0.2.2.2.2.2) Q (F0 m pc lsA (st.map (xtv ad))) := by
  obtain ⟨hx, hb, hml, hown, hts, hnw, hK, hA, hfr, hlo, hnm, hsc⟩ := C
  have hdl : decode (xmeth y).2.1 pc = .ok (.aastore, len) := of_decide_eq_true (Bool.and_eq_true_iff.mp hchk).1
  have hc := (Bool.and_eq_true_iff.mp hchk).2
  intro ad H locs lsA hW hl hn hkL hkS
  have hlen := Nat.eq_of_beq_eq_true hc
  subst hlen
  have C : xCtx Γ ad0 σ0 y d A H0 p R s m args meth c := ⟨hx, hb, hml, hown, hts, hnw, hK, hA, hfr, hlo, hnm, hsc⟩
  obtain ⟨hP, hD, hS, hwf, hag, hpre⟩ := id hW
  
  simp only [xstep] at hs
  split at hs
  · rename_i r1 v a r w st'
    split at hs
    · rename_i n _ r' _ hx1
      cases hb1 : Nat.beq r1 r' with
      | false => rw [hb1] at hs; cases hs
      | true =>
      rw [hb1] at hs
      have hbe := Nat.eq_of_beq_eq_true hb1
      obtain ⟨i, hw, h⟩ := xopt_inv hs hp
      subst hw
      obtain ⟨hin, h⟩ := xone_inv h
      have ht : (xreg r).1 = 3 := by rw [hx1]
      have hn1 : (xreg r).2.1 = n := by rw [hx1]
      have hr := xtag_lt ht (by omega) (by omega)
      have htg : xtgt r = r' := by unfold xtgt; rw [hx1]; rfl
      have h16 : r1 = 16 := by rw [hbe, ← htg]; exact xtag3 hr ht
      rw [h16] at hbe
      subst h16
      have hi : i < xcnt σ r := hkS _ (List.mem_cons_of_mem _ (List.mem_cons_of_mem _ List.mem_cons_self))
      have hv1 : ∀ j, v = some j → j < xcnt σ 16 := fun j hj => by
        subst hj
        exact hkS _ List.mem_cons_self
      obtain ⟨q, hq, hqn⟩ := xW_get Γ ad hr hi
      rw [xcell_refs ht, hn1] at hq
      have hcell : (.inl (Γ.2.2.2.1, n, .inr (.inr (.inr (.inr (va_up (fun k => (rP σ r i k).map (ad (xtgt r))) a.toNatClampNeg (v.map (ad 16))))))) : va_E) = xcell Γ ad (wP σ r i a.toNatClampNeg v) r i := by
        rw [xcell_refs ht, hn1, rP_wP, if_pos ⟨rfl, rfl⟩]
        have e : va_up (fun k => (rP σ r i k).map (ad (xtgt r))) a.toNatClampNeg (v.map (ad 16)) = fun k => ((fun k' => if k' = a.toNatClampNeg then v else rP σ r i k') k).map (ad (xtgt r)) := by
          funext k
          unfold va_up
          by_cases hk : k = a.toNatClampNeg
          · rw [if_pos hk]
            dsimp only
            rw [if_pos hk, htg, ← hbe]
          · rw [if_neg hk]
            dsimp only
            rw [if_neg hk]
        rw [e]
      have kk : ∀ (H1 : Heap) (locs1 : List Loc), va_P Γ.1 vwCl ((xW Γ ad σ).set q (ad r i, .inl (Γ.2.2.2.1, n, .inr (.inr (.inr (.inr (va_up (fun k => (rP σ r i k).map (ad (xtgt r))) a.toNatClampNeg (v.map (ad 16))))))))) H1 → va_D A ((xW Γ ad σ).set q (ad r i, .inl (Γ.2.2.2.1, n, .inr (.inr (.inr (.inr (va_up (fun k => (rP σ r i k).map (ad (xtgt r))) a.toNatClampNeg (v.map (ad 16))))))))) → va_S A H0 H1 locs1 → W p l e R s m args below meth c H1 locs1 (σ.2.2.2.2.1 - σ0.2.2.2.2.1) (σ.2.2.2.2.2 - σ0.2.2.2.2.2) Q (F0 m (pc + 1) lsA (st'.map (xtv ad))) := by
        intro H1 locs1 hP1 hD1 hS1
        rw [hcell] at hP1 hD1
        exact (xgo_wp h).2 ad H1 locs1 lsA (xWd_upd hW rfl hr hqn (fun r' i' hne => ⟨rfl, rfl, by rw [rP_wP, if_neg hne]⟩) (xwf_wP hwf hv1 (fun _ => by rw [htg, ← hbe]) (fun h0 => by rw [ht] at h0; cases h0)) hP1 hD1 hS1) hl hn hkL (fun v hv => hkS v (List.mem_cons_of_mem _ (List.mem_cons_of_mem _ (List.mem_cons_of_mem _ hv))))
      cases v with
      | none => exact va_astqN hx hb hK hP hD hS q 2 hq rfl hin hdl kk
      | some j =>
        obtain ⟨q2, hq2, -⟩ := xW_get Γ ad (r := 16) (by omega) (hv1 j rfl)
        have h160 : (xreg 16).1 = 0 := by decide +kernel
        rw [xcell_obj h160] at hq2
        obtain ⟨hci, h100⟩ := xcls_in hwf h160 (hv1 j rfl)
        rw [if_pos (h100.mpr rfl)] at hci
        exact va_astqM hx hb hK hP hD hS q 2 hq rfl (xany hnw hK hP hq2 hci) hin hdl kk
    · cases hs
  · cases hs
set_option maxHeartbeats 4000000 in
set_option maxRecDepth 100000 in
theorem xs_arraylength (C : xCtx Γ ad0 σ0 y d A H0 p R s m args meth c) {rk rr : Nat} {ks : List (Nat × List Nat)} {pc len : Nat} {aux ps : List Nat} {ls : xL} {st : List xV} {σ : xS} {o : Option Nat} {g : Nat → xB} (hchk : xchk (xmeth y).1 (xmeth y).2.1 (xmeth y).2.2.1 (pc, .arraylength, len, aux) ps = true) (hs : xstep rk rr ks y (pc, .arraylength, len, aux) ls st σ = some (.inr (.inl (o, g)))) (hp : xsP (xG Γ ad0 σ0 A H0 p l e R s m args below meth c Q y) o g)  : ∀ (ad : Nat → Nat → Nat) (H : Heap) (locs : List Loc) (lsA : Array Slot), xWd Γ ad0 σ0 A H0 s ad σ H locs → lv_has lsA (xmeth y).2.2.1 (xlv ad 0 ls) → ls.length = (xmeth y).2.2.1 → xokL σ ls → xokS σ st → W p l e R s m args below meth c H locs (σ.2.2.2.2.1 - σ0.2.2.2.2.1) (σ.2.2.2.2.2 - σ0.2.2.2.2.2) Q (F0 m pc lsA (st.map (xtv ad))) := by
  obtain ⟨hx, hb, hml, hown, hts, hnw, hK, hA, hfr, hlo, hnm, hsc⟩ := C
  have hdl : decode (xmeth y).2.1 pc = .ok (.arraylength, len) := of_decide_eq_true (Bool.and_eq_true_iff.mp hchk).1
  have hc := (Bool.and_eq_true_iff.mp hchk).2
  intro ad H locs lsA hW hl hn hkL hkS
  have hlen := Nat.eq_of_beq_eq_true hc
  subst hlen
  have C : xCtx Γ ad0 σ0 y d A H0 p R s m args meth c := ⟨hx, hb, hml, hown, hts, hnw, hK, hA, hfr, hlo, hnm, hsc⟩
  obtain ⟨hP, hD, hS, hwf, hag, hpre⟩ := id hW
  
  simp only [xstep] at hs
  split at hs
  · rename_i r w st'
    split at hs
    · rename_i n _ hx1
      obtain ⟨i, hw, h⟩ := xopt_inv hs hp
      subst hw
      have ht : (xreg r).1 = 1 := by rw [hx1]
      have hn1 : (xreg r).2.1 = n := by rw [hx1]
      have hr := xtag_lt ht (by omega) (by omega)
      have hi : i < xcnt σ r := hkS _ List.mem_cons_self
      obtain ⟨q, hq, -⟩ := xW_get Γ ad hr hi
      rw [xcell_ints ht, hn1] at hq
      exact va_alen hx hb hK hP q 0 hq rfl rfl hdl ((xgo_wp h).2 ad H locs lsA hW hl hn hkL (fun v hv => by
        rcases List.mem_cons.mp hv with h | h
        · subst h; trivial
        · exact hkS v (List.mem_cons_of_mem _ h)))
    · rename_i hx1
      obtain ⟨i, hw, h⟩ := xopt_inv hs hp
      subst hw
      have hr : r = 36 := by
        refine Classical.byContradiction fun hne => ?_
        by_cases hr : r < 36
        · rcases xtags hr with h | h | h | h | h <;> rw [hx1] at h <;> cases h
        · rw [xreg_big (by omega)] at hx1
          cases hx1
      subst hr
      have hi : i < xcnt σ 36 := hkS _ List.mem_cons_self
      have hi0 : i = 0 := by
        have : xcnt σ 36 = 1 := rfl
        omega
      subst hi0
      obtain ⟨L, xs, g1, g2, g3, g4, g5, g6⟩ := hsc
      have e3072 : rI σ 36 0 3072 = nI L := (hpre.2.2.2 3072).trans g5
      have had : ad 36 0 = ad0 36 0 := hag 36 0 (by show 0 < 1; omega)
      show W p l e R s m args below meth c H locs _ _ Q (F0 m pc lsA (.ref (ad 36 0) :: st'.map (xtv ad)))
      rw [had]
      refine va_slen hx hb g1 g2 g3 hS hdl ?_
      have h := (xgo_wp h).2 ad H locs lsA hW hl hn hkL (fun v hv => by
        rcases List.mem_cons.mp hv with h | h
        · subst h; trivial
        · exact hkS v (List.mem_cons_of_mem _ h))
      rw [e3072] at h
      exact h
    · cases hs
  · cases hs
set_option maxHeartbeats 4000000 in
set_option maxRecDepth 100000 in
theorem xs_new (C : xCtx Γ ad0 σ0 y d A H0 p R s m args meth c) {rk rr : Nat} {ks : List (Nat × List Nat)} {pc len : Nat} {aux ps : List Nat} {ls : xL} {st : List xV} {σ : xS} {o : Option Nat} {g : Nat → xB} {i : Nat} (hchk : xchk (xmeth y).1 (xmeth y).2.1 (xmeth y).2.2.1 (pc, (.new i), len, aux) ps = true) (hs : xstep rk rr ks y (pc, (.new i), len, aux) ls st σ = some (.inr (.inl (o, g)))) (hp : xsP (xG Γ ad0 σ0 A H0 p l e R s m args below meth c Q y) o g)  : ∀ (ad : Nat → Nat → Nat) (H : Heap) (locs : List Loc) (lsA : Array Slot), xWd Γ ad0 σ0 A H0 s ad σ H locs → lv_has lsA (xmeth y).2.2.1 (xlv ad 0 ls) → ls.length = (xmeth y).2.2.1 → xokL σ ls → xokS σ st → W p l e R s m args below meth c H locs (σ.2.2.2.2.1 - σ0.2.2.2.2.1) (σ.2.2.2.2.2 - σ0.2.2.2.2.2) Q (F0 m pc lsA (st.map (xtv ad))) := by
  obtain ⟨hx, hb, hml, hown, hts, hnw, hK, hA, hfr, hlo, hnm, hsc⟩ := C
  have hdl : decode (xmeth y).2.1 pc = .ok ((.new i), len) := of_decide_eq_true (Bool.and_eq_true_iff.mp hchk).1
  have hc := (Bool.and_eq_true_iff.mp hchk).2
  intro ad H locs lsA hW hl hn hkL hkS
  simp only [Bool.and_eq_true] at hc
  have hlen := Nat.eq_of_beq_eq_true hc.1
  subst hlen
  have C : xCtx Γ ad0 σ0 y d A H0 p R s m args meth c := ⟨hx, hb, hml, hown, hts, hnw, hK, hA, hfr, hlo, hnm, hsc⟩
  obtain ⟨hP, hD, hS, hwf, hag, hpre⟩ := id hW
  
  simp only [xstep] at hs
  split at hs
  · rename_i ci
    simp only [Bool.and_eq_true] at hc
    obtain ⟨-, ⟨⟨hin, hw1⟩, hw2⟩, hw3⟩ := hc
    have hcs : ci ∈ xcsr := by simpa using hin
    have h13 : ci < 13 := xcsr_13 ci hcs
    obtain ⟨Cn, T, N, hcv, hcd⟩ := xcl_get h13
    rw [hcd] at hw1 hw2 hw3
    have hN : N = 2 := by
      have h160 : (xreg 16).1 = 0 := by decide +kernel
      have := (xreg_ty (r := 16) (k := 0) h160 (ci := ci) (by rw [if_pos (by decide +kernel)]; exact hcs) hcv).1
      rw [this]
      decide +kernel
    subst hN
    obtain ⟨ty0, hty0, -⟩ := xcl_ty hcv
    have htq : ∀ k, k < 2 → ty0 k = .int := by
      intro k hk
      have h160 : (xreg 16).1 = 0 := by decide +kernel
      have h1 := (xreg_ty (r := 16) (k := k) h160 (ci := ci) (by rw [if_pos (by decide +kernel)]; exact hcs) hcv).2 hk
      rw [hty0 k hk] at h1
      have hsl : (xslot 16 k).1 = 0 := by
        rcases (show k = 0 ∨ k = 1 by omega) with e | e <;> subst e <;> decide +kernel
      unfold xtyq at h1
      rw [hsl] at h1
      cases ht : ty0 k <;> rw [ht] at h1 <;> first | rfl | cases h1
    obtain ⟨hbd, hgo⟩ := xgo_wp (xjust_inv hs hp)
    have hbd : σ.2.2.2.2.1 + 1 ≤ R.cells + σ0.2.2.2.2.1 ∧ σ.2.2.2.2.2 + 2 ≤ R.slots + σ0.2.2.2.2.2 := hbd
    have hp1 := hpre.2.1
    have hp2 := hpre.2.2.1
    refine va_new (ci := ci) (fs := [.int 0, .int 0]) hx hb (xTs_of hts) (xcl_ws hcv) ty0 hty0 hown (hts _ (xg_mem hw1).1 (xg_mem hw1).2) (hts _ (xg_mem hw2).1 (xg_mem hw2).2) (hts _ (xg_mem hw3).1 (xg_mem hw3).2) hK hP hD hS hA hcv (fun j hj => by
      rw [htq j hj]
      rcases (show j = 0 ∨ j = 1 by omega) with e | e <;> subst e <;> rfl) (by omega) (by omega) hdl (fun q H1 hP1 hD1 hS1 => ?_)
    obtain ⟨hW1, hag1⟩ := xWd_new (ci := ci) hW hcs hP1 hD1 hS1
    have e1 : (wC σ ci).2.2.2.2.1 - σ0.2.2.2.2.1 = σ.2.2.2.2.1 - σ0.2.2.2.2.1 + 1 := by
      show σ.2.2.2.2.1 + 1 - σ0.2.2.2.2.1 = _
      omega
    have e2 : (wC σ ci).2.2.2.2.2 - σ0.2.2.2.2.2 = σ.2.2.2.2.2 - σ0.2.2.2.2.2 + 2 := by
      show σ.2.2.2.2.2 + 2 - σ0.2.2.2.2.2 = _
      omega
    have h := hgo _ H1 locs lsA hW1 (xlv_agr hag1 hkL hl) hn (fun k v hk => xok_wC (hkL k v hk)) (fun v hv => by
      rcases List.mem_cons.mp hv with h | h
      · subst h
        show (rC σ).length < xcnt (wC σ ci) 16
        unfold xcnt
        rw [if_pos rfl]
        show (rC σ).length < (rC σ ++ [ci]).length
        simp
      · exact xok_wC (hkS v h))
    rw [e1, e2] at h
    have e3 : (List.map (xtv (xadn ad (rC σ).length q)) (.inr (.inr (16, some (rC σ).length)) :: st)) = .ref q :: st.map (xtv ad) := by
      show va_rf (some (xadn ad (rC σ).length q 16 (rC σ).length)) :: st.map (xtv (xadn ad (rC σ).length q)) = _
      rw [show xadn ad (rC σ).length q 16 (rC σ).length = q from if_pos ⟨rfl, rfl⟩]
      refine congrArg _ (List.map_congr_left fun v hv => xtv_agr hag1 (hkS v hv))
    rw [e3] at h
    exact h
  · cases hs
end SND
