/-! THE MAIN THEOREM -/
def xMain (l : Launch) (n : Nat) : Prop := ∀ (d y : Nat) (cf : xC) (q : xR), exD n d cf = some q → y < xMeth.length → ∀ (Γ : xΓ) (ad0 : Nat → Nat → Nat) (σ0 : xS) (A : Nat → Prop) (H0 : Heap) (p : Program) (e : Env) (R : Room) (s : State) (m : MethodId) (args : Array Value) (below : List Frame) (meth : Method) (c : Code) (Q : State → Prop),
  xCtx Γ ad0 σ0 y d A H0 p R s m args meth c → (q.2.2.2.2.2.1 ≤ R.cells + σ0.2.2.2.2.1 ∧ q.2.2.2.2.2.2 ≤ R.slots + σ0.2.2.2.2.2) → xEnd Γ ad0 σ0 A H0 p l e R s m args below meth c Q y q → xPrim Γ ad0 σ0 A H0 p l e R s m args below meth c Q y → xG Γ ad0 σ0 A H0 p l e R s m args below meth c Q y cf
theorem xrep_get : ∀ (n k : Nat), xget (List.replicate n none) k = none
  | 0, _ => rfl
  | n + 1, 0 => rfl
  | n + 1, k + 1 => xrep_get n k
theorem xpad_get : ∀ (as : List xV) (n k : Nat) (v : xV), xget (xpad n as) k = some v → v ∈ as
  | [], n, k, v, h => by
    unfold xpad at h
    rw [xrep_get] at h
    cases h
  | .inl x :: r, n, 0, v, h => by cases h; exact List.mem_cons_self
  | .inl x :: r, n, k + 1, v, h => List.mem_cons_of_mem _ (xpad_get r _ k v h)
  | .inr (.inl x) :: r, n, 0, v, h => by cases h; exact List.mem_cons_self
  | .inr (.inl x) :: r, n, 1, v, h => by cases h
  | .inr (.inl x) :: r, n, k + 2, v, h => List.mem_cons_of_mem _ (xpad_get r _ k v h)
  | .inr (.inr x) :: r, n, 0, v, h => by cases h; exact List.mem_cons_self
  | .inr (.inr x) :: r, n, k + 1, v, h => List.mem_cons_of_mem _ (xpad_get r _ k v h)
theorem xpad_len : ∀ (as : List xV) (n : Nat), xwords as ≤ n → (xpad n as).length = n
  | [], n, _ => List.length_replicate
  | .inl x :: r, n, h => by
    have h : 1 + xwords r ≤ n := h
    show (xpad (n - 1) r).length + 1 = n
    rw [xpad_len r (n - 1) (by omega)]
    omega
  | .inr (.inl x) :: r, n, h => by
    have h : 2 + xwords r ≤ n := h
    show (xpad (n - 2) r).length + 1 + 1 = n
    rw [xpad_len r (n - 2) (by omega)]
    omega
  | .inr (.inr x) :: r, n, h => by
    have h : 1 + xwords r ≤ n := h
    show (xpad (n - 1) r).length + 1 = n
    rw [xpad_len r (n - 1) (by omega)]
    omega
theorem xsl_len (ad : Nat → Nat → Nat) : ∀ (as : List xV), (lg_sl (as.map (xtv ad))).length = xwords as
  | [] => rfl
  | v :: r => by
    have ih := xsl_len ad r
    by_cases hc : (xtv ad v).category = 2
    · have e : lg_sl ((v :: r).map (xtv ad)) = [.val (xtv ad v), .second] ++ lg_sl (r.map (xtv ad)) := by simp [lg_sl, hc]
      rw [e, List.length_append, ih]
      rw [xcat_tv] at hc
      show 2 + xwords r = xcat v + xwords r
      rw [hc]
    · have e : lg_sl ((v :: r).map (xtv ad)) = [.val (xtv ad v)] ++ lg_sl (r.map (xtv ad)) := by simp [lg_sl, hc]
      rw [e, List.length_append, ih]
      rw [xcat_tv] at hc
      show 1 + xwords r = xcat v + xwords r
      rcases v with x | x | x
      · rfl
      · exact absurd rfl hc
      · rfl
theorem xrep_lv {ad : Nat → Nat → Nat} : ∀ (n i : Nat), xlv ad i (List.replicate n none) = []
  | 0, _ => rfl
  | n + 1, i => xrep_lv n (i + 1)
theorem xpad_lv {ad : Nat → Nat → Nat} : ∀ (as : List xV) (n i : Nat), ∀ z ∈ xlv ad i (xpad n as), z ∈ lv_args i (as.map (xtv ad))
  | [], n, i, z, h => by
    unfold xpad at h
    rw [xrep_lv] at h
    cases h
  | .inl x :: r, n, i, z, h => by
    show z ∈ (i, Value.int x) :: lv_args (if (Value.int x).category = 2 then i + 2 else i + 1) (r.map (xtv ad))
    rw [if_neg (show ¬ (Value.int x).category = 2 from fun h => absurd (show 1 = 2 from h) (by decide))]
    rcases List.mem_cons.mp h with h | h
    · rw [h]; exact List.mem_cons_self
    · exact List.mem_cons_of_mem _ (xpad_lv r _ _ z h)
  | .inr (.inl x) :: r, n, i, z, h => by
    show z ∈ (i, Value.long x) :: lv_args (if (Value.long x).category = 2 then i + 2 else i + 1) (r.map (xtv ad))
    rw [if_pos (show (Value.long x).category = 2 from rfl)]
    rcases List.mem_cons.mp h with h | h
    · rw [h]; exact List.mem_cons_self
    · exact List.mem_cons_of_mem _ (xpad_lv r _ _ z h)
  | .inr (.inr x) :: r, n, i, z, h => by
    have hc : ¬ (xtv ad (.inr (.inr x))).category = 2 := by rw [xcat_tv]; show ¬ 1 = 2; decide
    show z ∈ (i, xtv ad (.inr (.inr x))) :: lv_args (if (xtv ad (.inr (.inr x))).category = 2 then i + 2 else i + 1) (r.map (xtv ad))
    rw [if_neg hc]
    rcases List.mem_cons.mp h with h | h
    · rw [h]; exact List.mem_cons_self
    · exact List.mem_cons_of_mem _ (xpad_lv r _ _ z h)
theorem xpre_rfl {σ : xS} : xpre σ σ := ⟨⟨[], (List.append_nil _).symm⟩, Nat.le_refl _, Nat.le_refl _, fun _ => rfl⟩
theorem xmet_of {l : Launch} {n d y1 h sz : Nat} {Γ : xΓ} {as : List xV} {σ : xS} {q : xR} {ad : Nat → Nat → Nat} {A : Nat → Prop} (hI : xMain l n) (hh : xhead (xmeth y1) h = true) (hRL : (xmeth y1).1.cls ≠ RL) (hlt : y1 < xMeth.length) (he : exD n d (xentry y1 as σ) = some q) (hwd : xwords as ≤ (xmeth y1).2.2.1) (hok : xokS σ as) (hwf : xwf σ) (hD : va_D A (xW Γ ad σ)) : xMet l Γ d y1 as σ q ad sz := by
  refine Met.ofW (cc := (xmeth y1).2.1) (maxL := (xmeth y1).2.2.1) (ret := (xmeth y1).2.2.2.2.2.1) (xhead_plain hh) rfl ?_
  intro p e s m args below meth c s₁ B hml hP
  obtain ⟨rfl, hsz, hPw, hnw, hK, hsc⟩ := hP
  have hts := atoms_spec (ws := xws y1) B.pre
  have C : xCtx Γ ad σ y1 d (va_A (xW Γ ad σ) sz) s.heap p (headSpec (xws y1) (xrm d σ q)).room s m (as.map (xtv ad)).toArray meth c :=
    ⟨B.exec, B.bytes, hml, findClass_of_methodNamed B.named, fun w h1 h2 => hts w (List.mem_cons_of_mem _ (List.mem_filter.mpr ⟨h1, h2⟩)), hnw, hK, fun x hx => Or.inr (by rw [← hsz]; exact hx), Nat.le_refl _, Nat.le_refl _, fun h => (name_of_methodNamed B.named B.method).1.trans h, hsc⟩
  have hm := exD_mono n d _ q he
  have hm1 : σ.2.2.2.2.1 ≤ q.2.2.2.2.2.1 := hm.1
  have hm2 : σ.2.2.2.2.2 ≤ q.2.2.2.2.2.2 := hm.2
  have hb : q.2.2.2.2.2.1 ≤ (headSpec (xws y1) (xrm d σ q)).room.cells + σ.2.2.2.2.1 ∧ q.2.2.2.2.2.2 ≤ (headSpec (xws y1) (xrm d σ q)).room.slots + σ.2.2.2.2.2 := by
    show q.2.2.2.2.2.1 ≤ (q.2.2.2.2.2.1 - σ.2.2.2.2.1) + σ.2.2.2.2.1 ∧ q.2.2.2.2.2.2 ≤ (q.2.2.2.2.2.2 - σ.2.2.2.2.2) + σ.2.2.2.2.2
    omega
  have K := (hI d y1 _ q he hlt Γ ad σ (va_A (xW Γ ad σ) sz) s.heap p e _ s m _ below meth c _ C hb (xend_met C hh B.returns B.notSynchronized) (fun z => absurd z hRL) rfl).2
  have K2 := K ad s.heap [] _ ⟨hPw, hD.self, va_S.rf, hwf, fun _ _ _ => rfl, xpre_rfl⟩ (lv_less (lv_entry (as.map (xtv ad)) (by rw [xsl_len]; exact hwd)) (xpad_lv as _ 0)) (xpad_len as _ hwd) (fun k v hk => hok v (xpad_get as _ k v hk)) (fun v hv => by cases hv)
  rw [lg_entry_eq]
  have e1 : (xentry y1 as σ).2.2.2.2.2.2.2.2.1 - σ.2.2.2.2.1 = 0 := Nat.sub_self _
  have e2 : (xentry y1 as σ).2.2.2.2.2.2.2.2.2 - σ.2.2.2.2.2 = 0 := Nat.sub_self _
  rw [e1, e2] at K2
  exact K2
theorem xfrom_mem {l r : List xE} {pc : Nat} {e : xE} (h : xfrom l pc = e :: r) : e ∈ l := by
  obtain ⟨pre, hp⟩ := xfrom_suf l pc
  rw [hp, h]
  simp
set_option maxHeartbeats 4000000 in
theorem xsnd (l : Launch) (hHd : ∀ y, y < xMeth.length → y ≠ 79 → ∃ h, xhead (xmeth y) h = true ∧ (xmeth y).1.cls ≠ RL) (hCk : ∀ y, y < xMeth.length → ∀ e ∈ (xmeth y).2.2.2.2.2.2.1, ∃ ps, xchk (xmeth y).1 (xmeth y).2.1 (xmeth y).2.2.1 e ps = true) : ∀ n, xMain l n := by
  intro n
  induction n with
  | zero => intro d y cf q h; cases h
  | succ n hI =>
    intro d y cf q h hy Γ ad0 σ0 A H0 p e R s m args below meth c Q C hbnd hEnd hPrim hcy
    have hmono := exD_mono (n + 1) d cf q h
    obtain ⟨y', pc, ls, st, σ⟩ := cf
    have hcy : y' = y := hcy
    subst hcy
    have hz : xbody (exD n) d (y', pc, ls, st, σ) = some q := h
    clear h
    unfold xbody xat at hz
    dsimp only at hz
    refine ⟨⟨Nat.le_trans hmono.1 hbnd.1, Nat.le_trans hmono.2 hbnd.2⟩, ?_⟩
    cases hx : xfrom (xmeth y').2.2.2.2.2.2.1 pc with
    | nil => rw [hx] at hz; cases hz
    | cons en rem =>
      rw [hx] at hz
      have hpc := xfrom_hd _ _ _ _ hx
      obtain ⟨ps, hchk⟩ := hCk y' hy en (xfrom_mem hx)
      obtain ⟨pc', ins, len, aux⟩ := en
      have hpc : pc' = pc := hpc
      subst hpc
      dsimp only at hz
      have hm := xmn_step (σ := σ) (rk := (xmeth y').2.2.2.1) (rr := (xmeth y').2.2.2.2.1) (ks := (xmeth y').2.2.2.2.2.2.2) (y := y') (e := (pc', ins, len, aux)) (ls := ls) (st := st)
      cases hs : xstep (xmeth y').2.2.2.1 (xmeth y').2.2.2.2.1 (xmeth y').2.2.2.2.2.2.2 y' (pc', ins, len, aux) ls st σ with
      | none => rw [hs] at hz; cases hz
      | some o =>
        rw [hs] at hz hm
        rcases o with r | ⟨o, g⟩ | ⟨o, g, k⟩
        · have h : some r = some q := hz
          cases h
          intro ad H locs lsA hW hl hn hkL hkS
          exact hEnd _ _ _ _ _ _ _ _ hchk hs ad H locs lsA hW hl hkS
        · have h : (xob o fun i => xsel (exD n d) (g i).1 (g i).2) = some q := hz
          obtain ⟨i, hi, h⟩ := xob_iff.mp h
          refine xdisp C hPrim (xfrom_mem hx) hchk hs ⟨i, hi, xselP_of (fun cf hcf => ?_) _ _ h⟩
          exact hI d y' cf q hcf hy Γ ad0 σ0 A H0 p e R s m args below meth c Q C hbnd hEnd hPrim
        · cases d with
          | zero => cases hz
          | succ d =>
            have h : (xob o fun i => (exD n d (g i)).bind fun r => exD n (d + 1) (k r)) = some q := hz
            obtain ⟨i, hi, h⟩ := xob_iff.mp h
            obtain ⟨q1, hq1, h⟩ := Option.bind_eq_some_iff.mp h
            have hcont : xG Γ ad0 σ0 A H0 p l e R s m args below meth c Q y' (k q1) := hI (d + 1) y' (k q1) q h hy Γ ad0 σ0 A H0 p e R s m args below meth c Q C hbnd hEnd hPrim
            have hic : xisC ins = true := hm.1
            have hle1 : xle σ (g i).2.2.2.2 := hm.2.1 i
            have hle2 := exD_mono n d _ q1 hq1
            have hle := xle_tr hle1 hle2
            intro ad H locs lsA hW hl hn hkL hkS
            have hdl : decode (xmeth y').2.1 pc' = .ok (ins, len) := of_decide_eq_true (Bool.and_eq_true_iff.mp hchk).1
            have hc := (Bool.and_eq_true_iff.mp hchk).2
            unfold xisC at hic
            split at hic
            · rename_i idx
              simp only [Bool.and_eq_true] at hc
              have hlen := Nat.eq_of_beq_eq_true hc.1
              subst hlen
              have hc2 := hc.2
              simp only [xstep] at hs
              unfold xstatic at hs
              split at hs
              · split at hs
                · rename_i y1 nn kk r w _ as st' htk
                  cases hcond : (Nat.ble (xwords st') 16 && Nat.beq (xwords as) w) with
                  | false => rw [hcond] at hs; cases hs
                  | true =>
                    rw [hcond] at hs
                    cases hs
                    simp only [Bool.and_eq_true] at hcond
                    obtain ⟨hst, hna⟩ := xtake_nil htk
                    subst hst
                    have hRR : xcR y1 kk r w = true := by
                      have hc3 := hc2
                      unfold xcC at hc3
                      simp only [Bool.and_eq_true] at hc3
                      exact hc3.2
                    obtain ⟨r1, r2, r3, r4, r5⟩ := xcR_of hRR
                    obtain ⟨hh, hHh, hRL⟩ := hHd y1 r4 r5
                    have hM : xMet l Γ d y1 as σ q1 ad H.size := xmet_of hI hHh hRL r4 hq1 (by rw [Nat.eq_of_beq_eq_true hcond.2]; exact r1) (fun v hv => hkS v (List.mem_append_left _ (List.mem_reverse.mpr hv))) hW.2.2.2.1 hW.2.1
                    have hrun := xrun_S (e := e) (below := below) C hHh hc2 hM hW hle (xres_wp hcont).1 hna (Nat.le_of_ble_eq_true hcond.1) hl.1 hdl
                    rw [List.map_append, List.map_reverse]
                    exact xcall_fin C hle hrun hcont hW hl hn hkL (fun v hv => hkS v (List.mem_append_right _ hv))
                · cases hs
              · split at hs
                · rename_i n1 dp r1 i1 sp r0 i0 st'
                  cases hcond : (Nat.beq (xreg r1).1 1 && Nat.beq (xreg r0).1 1 && Nat.ble (xwords st') 16) with
                  | false => rw [hcond] at hs; cases hs
                  | true => rw [hcond] at hs; cases hs
                · cases hs
              · split at hs
                · rename_i i1 d1 st'
                  cases hcond : (Nat.ble (xwords st') 16) with
                  | false => rw [hcond] at hs; cases hs
                  | true => rw [hcond] at hs; cases hs
                · cases hs
              · cases hs
            · rename_i idx
              simp only [Bool.and_eq_true] at hc
              have hlen := Nat.eq_of_beq_eq_true hc.1
              subst hlen
              have hc2 := hc.2
              simp only [xstep] at hs
              unfold xvirtual at hs
              split at hs
              · split at hs
                · rename_i y1 cn nn kk r w _ as ro oo st' htk
                  cases hcond : (Nat.ble (xwords st') 16 && Nat.beq (xwords as) w && Nat.beq (xreg ro).2.1 cn && Nat.beq (xreg ro).1 0) with
                  | false => rw [hcond] at hs; cases hs
                  | true =>
                    rw [hcond] at hs
                    cases hs
                    subst hi
                    simp only [Bool.and_eq_true] at hcond
                    obtain ⟨hst, hna⟩ := xtake_nil htk
                    subst hst
                    have hRR : xcR y1 kk r (w + 1) = true := by
                      have hc3 := hc2
                      unfold xcV at hc3
                      simp only [Bool.and_eq_true] at hc3
                      exact hc3.2
                    obtain ⟨r1, r2, r3, r4, r5⟩ := xcR_of hRR
                    obtain ⟨hh, hHh, hRL⟩ := hHd y1 r4 r5
                    have hobj : xok σ (.inr (.inr (ro, some i))) := hkS _ (List.mem_append_right _ List.mem_cons_self)
                    have hM : xMet l Γ d y1 (.inr (.inr (ro, some i)) :: as) σ q1 ad H.size := xmet_of hI hHh hRL r4 hq1 (by
                      show 1 + xwords as ≤ _
                      rw [Nat.eq_of_beq_eq_true hcond.1.1.2]
                      omega) (fun v hv => by
                      rcases List.mem_cons.mp hv with h | h
                      · rw [h]; exact hobj
                      · exact hkS v (List.mem_append_left _ (List.mem_reverse.mpr h))) hW.2.2.2.1 hW.2.1
                    have hrun := xrun_V (e := e) (below := below) C hHh hc2 hM hW hle (xres_wp hcont).1 hna (Nat.le_of_ble_eq_true hcond.1.1.1) hl.1 (Nat.eq_of_beq_eq_true hcond.2) (Nat.eq_of_beq_eq_true hcond.1.2) hobj hdl
                    rw [List.map_append, List.map_reverse]
                    exact xcall_fin C hle hrun hcont hW hl hn hkL (fun v hv => hkS v (List.mem_append_right _ (List.mem_cons_of_mem _ hv)))
                · cases hs
              · split at hs
                · rename_i sel nn kk r w _ as ro oo st' htk
                  cases hcond : (Nat.ble (xwords st') 16 && Nat.beq (xwords as) w && Nat.beq ro 16) with
                  | false => rw [hcond] at hs; cases hs
                  | true =>
                    rw [hcond] at hs
                    cases hs
                    subst hi
                    simp only [Bool.and_eq_true] at hcond
                    have hro := Nat.eq_of_beq_eq_true hcond.2
                    subst hro
                    obtain ⟨hst, hna⟩ := xtake_nil htk
                    subst hst
                    have hobj : xok σ (.inr (.inr (16, some i))) := hkS _ (List.mem_append_right _ List.mem_cons_self)
                    have hcs : (rC σ).getD i 0 ∈ xcsr := by
                      have h1 := (xcls_in (r := 16) (i := i) hW.2.2.2.1 (by decide +kernel) hobj).1
                      rw [if_pos (by decide +kernel)] at h1
                      exact h1
                    have hR0 : xcR (xvt sel 0) kk r (w + 1) = true ∧ xcR (xvt sel ((rC σ).getD i 0)) kk r (w + 1) = true := by
                      have hc3 := hc2
                      unfold xcV at hc3
                      simp only [Bool.and_eq_true, List.all_eq_true] at hc3
                      refine ⟨hc3.1.2, ?_⟩
                      obtain ⟨j, hj, ej⟩ := List.getElem_of_mem hcs
                      have h4 := hc3.2 j (List.mem_range.mpr hj)
                      have ej2 : xcsr.getD j 0 = (rC σ).getD i 0 := by rw [List.getD_eq_getElem?_getD, List.getElem?_eq_getElem hj]; exact ej
                      rw [ej2] at h4
                      exact h4.1.1.2
                    obtain ⟨r1, r2, r3, r4, r5⟩ := xcR_of hR0.2
                    obtain ⟨u1, u2, u3, u4, u5⟩ := xcR_of hR0.1
                    obtain ⟨hh, hHh, hRL⟩ := hHd _ r4 r5
                    obtain ⟨hh0, hHh0, -⟩ := hHd _ u4 u5
                    have hM : xMet l Γ d (xvt sel ((rC σ).getD i 0)) (.inr (.inr (16, some i)) :: as) σ q1 ad H.size := xmet_of hI hHh hRL r4 hq1 (by
                      show 1 + xwords as ≤ _
                      rw [Nat.eq_of_beq_eq_true hcond.1.2]
                      omega) (fun v hv => by
                      rcases List.mem_cons.mp hv with h | h
                      · rw [h]; exact hobj
                      · exact hkS v (List.mem_append_left _ (List.mem_reverse.mpr h))) hW.2.2.2.1 hW.2.1
                    have hrun := xrun_U (e := e) (below := below) C hHh0 hHh hc2 rfl hM hW hle (xres_wp hcont).1 hna (Nat.le_of_ble_eq_true hcond.1.1) hl.1 rfl hobj hdl
                    rw [List.map_append, List.map_reverse]
                    exact xcall_fin C hle hrun hcont hW hl hn hkL (fun v hv => hkS v (List.mem_append_right _ (List.mem_cons_of_mem _ hv)))
                · cases hs
              · split at hs
                · rename_i d1 st'
                  cases hcond : (Nat.ble (xwords st') 16) with
                  | false => rw [hcond] at hs; cases hs
                  | true => rw [hcond] at hs; cases hs
                · cases hs
              · cases hs
            · rename_i idx
              simp only [Bool.and_eq_true] at hc
              have hlen := Nat.eq_of_beq_eq_true hc.1
              subst hlen
              have hc2 := hc.2
              simp only [xstep] at hs
              unfold xspecial at hs
              split at hs
              · split at hs
                · rename_i y1 nn kk r w _ as ro iO st' htk
                  cases hcond : (Nat.ble (xwords st') 16 && Nat.beq (xwords as) w && Nat.beq ro 16) with
                  | false => rw [hcond] at hs; cases hs
                  | true =>
                    rw [hcond] at hs
                    cases hs
                    simp only [Bool.and_eq_true] at hcond
                    have hro := Nat.eq_of_beq_eq_true hcond.2
                    subst hro
                    obtain ⟨hst, hna⟩ := xtake_nil htk
                    subst hst
                    have hobj : xok σ (.inr (.inr (16, some iO))) := hkS _ (List.mem_append_right _ List.mem_cons_self)
                    have hRR : xcR y1 kk r (w + 1) = true := by
                      have hc3 := hc2
                      unfold xcS at hc3
                      simp only [Bool.and_eq_true] at hc3
                      exact hc3.1.2
                    obtain ⟨r1, r2, r3, r4, r5⟩ := xcR_of hRR
                    obtain ⟨hh, hHh, hRL⟩ := hHd y1 r4 r5
                    have hM : xMet l Γ d y1 (.inr (.inr (16, some iO)) :: as) σ q1 ad H.size := xmet_of hI hHh hRL r4 hq1 (by
                      show 1 + xwords as ≤ _
                      rw [Nat.eq_of_beq_eq_true hcond.1.2]
                      omega) (fun v hv => by
                      rcases List.mem_cons.mp hv with h | h
                      · rw [h]; exact hobj
                      · exact hkS v (List.mem_append_left _ (List.mem_reverse.mpr h))) hW.2.2.2.1 hW.2.1
                    have hrun := xrun_P (e := e) (below := below) C hHh hc2 hM hW hle (xres_wp hcont).1 hna (Nat.le_of_ble_eq_true hcond.1.1) hl.1 rfl hobj hdl
                    rw [List.map_append, List.map_reverse]
                    exact xcall_fin C hle hrun hcont hW hl hn hkL (fun v hv => hkS v (List.mem_append_right _ (List.mem_cons_of_mem _ hv)))
                · cases hs
              · split at hs
                · rename_i ro iO st'
                  cases hcond : (Nat.ble (xwords st') 16 && Nat.beq ro 16) with
                  | false => rw [hcond] at hs; cases hs
                  | true => rw [hcond] at hs; cases hs
                · cases hs
              · cases hs
            · cases hic
