/-! SWITCHES, arraycopy, CALLS, ENDS: a run of the abstract machine is a run of the real one -/
theorem xkey {x : Int32} {v : Nat} (hv : Nat.blt v 1000000 = true) : x = nI v ↔ x.toInt = (v : Int) := by
  have hlt : v < 1000000 := Nat.le_of_ble_eq_true hv
  constructor
  · intro h
    rw [h]
    exact nI_toInt (by omega)
  · intro h
    exact Int32.toInt_inj.mp (by rw [h]; exact (nI_toInt (by omega)).symm)
theorem xsw_table {G : xC → Prop} {ks : List (Nat × List Nat)} {y pc : Nat} {ls : xL} {st : List xV} {σ : xS} {x : Int32} {df : Option xC} : ∀ (kts : List Nat) (lo : Int) (offs : List Int), xcT pc lo kts offs = true → xselP G (xsw ks y ls st σ x kts) df →
    (∃ (j : Nat) (t : Nat) (off : Int), offs[j]? = some off ∧ x.toInt = lo + j ∧ (pc : Int) + off = (t : Int) ∧ xoc G (xgo ks y t ls st σ)) ∨ ((x.toInt < lo ∨ lo + offs.length ≤ x.toInt) ∧ xoc G df)
  | [], lo, [], _, h => Or.inr ⟨by rcases Int.lt_or_le x.toInt lo with h | h; exact Or.inl h; exact Or.inr (by simpa using h), h⟩
  | [], _, _ :: _, hc, _ => by cases hc
  | [_], _, [], hc, _ => by cases hc
  | [_], _, _ :: _, hc, _ => by cases hc
  | _ :: _ :: _, _, [], hc, _ => by cases hc
  | v :: t :: r, lo, o :: os, hc, h => by
    unfold xcT at hc
    simp only [Bool.and_eq_true, decide_eq_true_eq] at hc
    obtain ⟨⟨⟨h1, h2⟩, h3⟩, h4⟩ := hc
    by_cases hx : x = nI v
    · exact Or.inl ⟨0, t, o, rfl, by rw [(xkey h2).mp hx, h1]; simp, h3, h.1 hx⟩
    · have hne : x.toInt ≠ lo := fun q => hx ((xkey h2).mpr (by rw [q, h1]))
      rcases xsw_table r (lo + 1) os h4 (h.2 hx) with ⟨j, t', off, g1, g2, g3, g4⟩ | ⟨g1, g2⟩
      · exact Or.inl ⟨j + 1, t', off, g1, by rw [g2]; push_cast; omega, g3, g4⟩
      · refine Or.inr ⟨?_, g2⟩
        simp only [List.length_cons]
        push_cast
        rcases g1 with g | g
        · exact Or.inl (by omega)
        · exact Or.inr (by omega)
theorem xsw_look {G : xC → Prop} {ks : List (Nat × List Nat)} {y pc td : Nat} {ls : xL} {st : List xV} {σ : xS} {x : Int32} {d : Int} (hd : (pc : Int) + d = (td : Int)) : ∀ (kts : List Nat) (prs : List (Int × Int)), xcL pc kts prs = true → xselP G (xsw ks y ls st σ x kts) (xgo ks y td ls st σ) →
    ∃ (t : Nat), (pc : Int) + Op.lookupswitch.offset prs d x.toInt = (t : Int) ∧ xoc G (xgo ks y t ls st σ)
  | [], [], _, h => ⟨td, hd, h⟩
  | [], _ :: _, hc, _ => by cases hc
  | [_], [], hc, _ => by cases hc
  | [_], _ :: _, hc, _ => by cases hc
  | _ :: _ :: _, [], hc, _ => by cases hc
  | v :: t :: r, (k, o) :: os, hc, h => by
    unfold xcL at hc
    simp only [Bool.and_eq_true, decide_eq_true_eq] at hc
    obtain ⟨⟨⟨h1, h2⟩, h3⟩, h4⟩ := hc
    by_cases hx : x = nI v
    · refine ⟨t, ?_, h.1 hx⟩
      rw [Op.lookupswitch.offset_cons, if_pos (by rw [h1]; exact ((xkey h2).mp hx).symm)]
      exact h3
    · obtain ⟨t', g1, g2⟩ := xsw_look hd r os h4 (h.2 hx)
      refine ⟨t', ?_, g2⟩
      rw [Op.lookupswitch.offset_cons, if_neg (fun q => hx ((xkey h2).mpr (by rw [← q, h1])))]
      exact g1
theorem xwords_sum (ad : Nat → Nat → Nat) : ∀ (st : List xV), ((st.map (xtv ad)).map fun v => v.category).sum = xwords st
  | [] => rfl
  | v :: st => by
    show (xtv ad v).category + ((st.map (xtv ad)).map fun v => v.category).sum = xcat v + xwords st
    rw [xwords_sum ad st, xcat_tv]
section SND
variable {p : Program} {l : Launch} {e : Env} {R : Room} {s : State} {m : MethodId} {args : Array Value} {below : List Frame} {meth : Method} {c : Code} {Q : State → Prop}
variable {Γ : xΓ} {y d : Nat} {A : Nat → Prop} {H0 : Heap} {σ0 : xS} {ad0 : Nat → Nat → Nat}
set_option maxHeartbeats 4000000 in
set_option maxRecDepth 100000 in
theorem xs_tableswitch (C : xCtx Γ ad0 σ0 y d A H0 p R s m args meth c) {rk rr : Nat} {ks : List (Nat × List Nat)} {pc len : Nat} {aux ps : List Nat} {ls : xL} {st : List xV} {σ : xS} {o : Option Nat} {g : Nat → xB} {dd lo hi : Int} {offs : Array Int} (hchk : xchk (xmeth y).1 (xmeth y).2.1 (xmeth y).2.2.1 (pc, (.tableswitch dd lo hi offs), len, aux) ps = true) (hs : xstep rk rr ks y (pc, (.tableswitch dd lo hi offs), len, aux) ls st σ = some (.inr (.inl (o, g)))) (hp : xsP (xG Γ ad0 σ0 A H0 p l e R s m args below meth c Q y) o g)  : ∀ (ad : Nat → Nat → Nat) (H : Heap) (locs : List Loc) (lsA : Array Slot), xWd Γ ad0 σ0 A H0 s ad σ H locs → lv_has lsA (xmeth y).2.2.1 (xlv ad 0 ls) → ls.length = (xmeth y).2.2.1 → xokL σ ls → xokS σ st → W p l e R s m args below meth c H locs (σ.2.2.2.2.1 - σ0.2.2.2.2.1) (σ.2.2.2.2.2 - σ0.2.2.2.2.2) Q (F0 m pc lsA (st.map (xtv ad))) := by
  obtain ⟨hx, hb, hml, hown, hts, hnw, hK, hA, hfr, hlo, hnm, hsc⟩ := C
  have hdl : decode (xmeth y).2.1 pc = .ok ((.tableswitch dd lo hi offs), len) := of_decide_eq_true (Bool.and_eq_true_iff.mp hchk).1
  have hc := (Bool.and_eq_true_iff.mp hchk).2
  intro ad H locs lsA hW hl hn hkL hkS
  simp only [xstep] at hs
  split at hs
  · rename_i t kts a st'
    simp only [Bool.and_eq_true, decide_eq_true_eq] at hc
    obtain ⟨⟨hd, hT⟩, hsz⟩ := hc
    obtain ⟨i, -, h⟩ := xopt_inv hs hp
    rcases xsw_table kts lo offs.toList hT h with ⟨j, t', off, g1, g2, g3, g4⟩ | ⟨g1, g2⟩
    · have hj : j < offs.size := by
        have := (List.getElem?_eq_some_iff.mp g1).1
        simpa using this
      refine lv_tableIn hx hb hdl (off := off) (tgt := t') (by omega) (by omega) ?_ g3 ((xgo_wp g4).2 ad H locs lsA hW hl hn hkL (fun v hv => hkS v (List.mem_cons_of_mem _ hv)))
      rw [show (a.toInt - lo).toNat = j by omega, ← Array.getElem?_toList]
      exact g1
    · refine lv_tableOut hx hb hdl (tgt := t) ?_ hd ((xgo_wp g2).2 ad H locs lsA hW hl hn hkL (fun v hv => hkS v (List.mem_cons_of_mem _ hv)))
      rcases g1 with g | g
      · exact Or.inl g
      · rw [Array.length_toList] at g
        exact Or.inr (by omega)
  · cases hs
set_option maxHeartbeats 4000000 in
set_option maxRecDepth 100000 in
theorem xs_lookupswitch (C : xCtx Γ ad0 σ0 y d A H0 p R s m args meth c) {rk rr : Nat} {ks : List (Nat × List Nat)} {pc len : Nat} {aux ps : List Nat} {ls : xL} {st : List xV} {σ : xS} {o : Option Nat} {g : Nat → xB} {dd : Int} {prs : Array (Int × Int)} (hchk : xchk (xmeth y).1 (xmeth y).2.1 (xmeth y).2.2.1 (pc, (.lookupswitch dd prs), len, aux) ps = true) (hs : xstep rk rr ks y (pc, (.lookupswitch dd prs), len, aux) ls st σ = some (.inr (.inl (o, g)))) (hp : xsP (xG Γ ad0 σ0 A H0 p l e R s m args below meth c Q y) o g)  : ∀ (ad : Nat → Nat → Nat) (H : Heap) (locs : List Loc) (lsA : Array Slot), xWd Γ ad0 σ0 A H0 s ad σ H locs → lv_has lsA (xmeth y).2.2.1 (xlv ad 0 ls) → ls.length = (xmeth y).2.2.1 → xokL σ ls → xokS σ st → W p l e R s m args below meth c H locs (σ.2.2.2.2.1 - σ0.2.2.2.2.1) (σ.2.2.2.2.2 - σ0.2.2.2.2.2) Q (F0 m pc lsA (st.map (xtv ad))) := by
  obtain ⟨hx, hb, hml, hown, hts, hnw, hK, hA, hfr, hlo, hnm, hsc⟩ := C
  have hdl : decode (xmeth y).2.1 pc = .ok ((.lookupswitch dd prs), len) := of_decide_eq_true (Bool.and_eq_true_iff.mp hchk).1
  have hc := (Bool.and_eq_true_iff.mp hchk).2
  intro ad H locs lsA hW hl hn hkL hkS
  simp only [xstep] at hs
  split at hs
  · rename_i t kts a st'
    simp only [Bool.and_eq_true, decide_eq_true_eq] at hc
    obtain ⟨⟨hd, hL⟩, hsrt⟩ := hc
    obtain ⟨i, -, h⟩ := xopt_inv hs hp
    obtain ⟨t', g1, g2⟩ := xsw_look hd kts prs.toList hL h
    exact lv_lookup hx hb hdl hsrt rfl g1 ((xgo_wp g2).2 ad H locs lsA hW hl hn hkL (fun v hv => hkS v (List.mem_cons_of_mem _ hv)))
  · cases hs
set_option maxHeartbeats 4000000 in
set_option maxRecDepth 100000 in
theorem xs_arraycopy (C : xCtx Γ ad0 σ0 y d A H0 p R s m args meth c) {rk rr : Nat} {ks : List (Nat × List Nat)} {pc len : Nat} {aux ps : List Nat} {ls : xL} {st : List xV} {σ : xS} {o : Option Nat} {g : Nat → xB} {i : Nat} (hax : aux = [5]) (hchk : xchk (xmeth y).1 (xmeth y).2.1 (xmeth y).2.2.1 (pc, (.invokestatic i), len, aux) ps = true) (hs : xstep rk rr ks y (pc, (.invokestatic i), len, aux) ls st σ = some (.inr (.inl (o, g)))) (hp : xsP (xG Γ ad0 σ0 A H0 p l e R s m args below meth c Q y) o g)  : ∀ (ad : Nat → Nat → Nat) (H : Heap) (locs : List Loc) (lsA : Array Slot), xWd Γ ad0 σ0 A H0 s ad σ H locs → lv_has lsA (xmeth y).2.2.1 (xlv ad 0 ls) → ls.length = (xmeth y).2.2.1 → xokL σ ls → xokS σ st → W p l e R s m args below meth c H locs (σ.2.2.2.2.1 - σ0.2.2.2.2.1) (σ.2.2.2.2.2 - σ0.2.2.2.2.2) Q (F0 m pc lsA (st.map (xtv ad))) := by
  obtain ⟨hx, hb, hml, hown, hts, hnw, hK, hA, hfr, hlo, hnm, hsc⟩ := C
  have hdl : decode (xmeth y).2.1 pc = .ok ((.invokestatic i), len) := of_decide_eq_true (Bool.and_eq_true_iff.mp hchk).1
  have hc := (Bool.and_eq_true_iff.mp hchk).2
  intro ad H locs lsA hW hl hn hkL hkS
  simp only [Bool.and_eq_true] at hc
  have hlen := Nat.eq_of_beq_eq_true hc.1
  subst hlen
  subst hax
  obtain ⟨hP, hD, hS, hwf, hag, hpre⟩ := id hW
  simp only [xstep, xstatic] at hs
  split at hs
  · rename_i n dp r1 i1 sp r0 i0 st'
    cases hcond : (Nat.beq (xreg r1).1 1 && Nat.beq (xreg r0).1 1 && Nat.ble (xwords st') 16) with
    | false => rw [hcond] at hs; cases hs
    | true =>
      rw [hcond] at hs
      simp only [Bool.and_eq_true] at hcond
      have ht1 := Nat.eq_of_beq_eq_true hcond.1.1
      have ht0 := Nat.eq_of_beq_eq_true hcond.1.2
      obtain ⟨⟨g1, g2, g3, g4, g5⟩, h⟩ := xguard_inv hs hp
      have hr1 := xtag_lt ht1 (by omega) (by omega)
      have hr0 := xtag_lt ht0 (by omega) (by omega)
      have hi1 : i1 < xcnt σ r1 := hkS (.inr (.inr (r1, some i1))) (by simp)
      have hi0 : i0 < xcnt σ r0 := hkS (.inr (.inr (r0, some i0))) (by simp)
      obtain ⟨q1, hq1, hqn1⟩ := xW_get Γ ad hr1 hi1
      obtain ⟨q0, hq0, -⟩ := xW_get Γ ad hr0 hi0
      rw [xcell_ints ht1] at hq1
      rw [xcell_ints ht0] at hq0
      have hc2 := hc.2
      unfold xcC at hc2
      simp only [Bool.and_eq_true] at hc2
      obtain ⟨⟨⟨w1, w2⟩, w3⟩, w4⟩ := hc2
      have hcell : (.inl (Γ.2.1, (xreg r1).2.1, .inl (va_cpy (rI σ r0 i0) (rI σ r1 i1) sp.toNatClampNeg dp.toNatClampNeg n.toNatClampNeg)) : va_E) = xcell Γ ad (wR σ r1 i1 (va_cpy (σ.1 r0 i0) (σ.1 r1 i1) sp.toNatClampNeg dp.toNatClampNeg n.toNatClampNeg)) r1 i1 := by
        rw [xcell_ints ht1, rI_wR, if_pos ⟨rfl, rfl⟩]
        rfl
      refine va_copyi hx hb (hml.trans hl.1.symm) hown (hts _ (xg_mem w1).1 (xg_mem w1).2) (hts _ (xg_mem w2).1 (xg_mem w2).2) (hts _ (xg_mem w3).1 (xg_mem w3).2) (hts _ (xg_mem w4).1 (xg_mem w4).2) hK hP hD hS q0 q1 0 0 hq0 hq1 rfl rfl rfl g1 g2 g3 g4 g5 (fun _ _ => rfl) (by omega) ?_ hdl (fun H1 locs1 hP1 hD1 hS1 => ?_)
      · have e : ((st'.map (xtv ad)).map fun v => v.category).sum = xwords st' := xwords_sum ad st'
        have := Nat.le_of_ble_eq_true hcond.2
        rw [e]
        have e2 : nativeFrameWords "java/lang/System" "arraycopy" 5 = 7 := by decide +kernel
        rw [e2]
        omega
      · rw [hcell] at hP1 hD1
        exact (xgo_wp h).2 ad H1 locs1 lsA (xWd_upd hW rfl hr1 hqn1 (fun r2 i2 hne => ⟨by rw [rI_wR, if_neg hne], rfl, rfl⟩) (xwf_same hwf rfl rfl) hP1 hD1 hS1) hl hn hkL (fun v hv => hkS v (by simp [hv]))
  · cases hs
end SND
