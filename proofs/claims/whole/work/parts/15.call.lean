/-! CALLS AND ENDS -/
def xret (ad : Nat → Nat → Nat) (k r : Nat) (v : Int32 × Int64 × Option Nat) : Option Value := match k with
  | 0 => none
  | 1 => some (.int v.1)
  | 2 => some (.long v.2.1)
  | 4 => some (.int v.1)
  | _ => some (va_rf (v.2.2.map (ad r)))
theorem xpush_map (ad : Nat → Nat → Nat) (k r : Nat) (v : Int32 × Int64 × Option Nat) (st : List xV) : (xpush k r v st).map (xtv ad) = (xret ad k r v).toList ++ st.map (xtv ad) := match k with
  | 0 => rfl
  | 1 => rfl
  | 2 => rfl
  | 3 => rfl
  | 4 => rfl
  | _ + 5 => rfl
theorem xpush_mem {k r : Nat} {v : Int32 × Int64 × Option Nat} {st : List xV} {w : xV} (h : w ∈ xpush k r v st) : w ∈ xpush k r v [] ∨ w ∈ st := match k, h with
  | 0, h => Or.inr h
  | 1, h => by rcases List.mem_cons.mp h with h | h; exact Or.inl (by rw [h]; exact List.mem_cons_self); exact Or.inr h
  | 2, h => by rcases List.mem_cons.mp h with h | h; exact Or.inl (by rw [h]; exact List.mem_cons_self); exact Or.inr h
  | 3, h => by rcases List.mem_cons.mp h with h | h; exact Or.inl (by rw [h]; exact List.mem_cons_self); exact Or.inr h
  | 4, h => by rcases List.mem_cons.mp h with h | h; exact Or.inl (by rw [h]; exact List.mem_cons_self); exact Or.inr h
  | _ + 5, h => by rcases List.mem_cons.mp h with h | h; exact Or.inl (by rw [h]; exact List.mem_cons_self); exact Or.inr h
def xPc (Γ : xΓ) (ad : Nat → Nat → Nat) (σ : xS) (as : List xV) (sz : Nat) : Array Value → State → Prop := fun v U =>
  v = (as.map (xtv ad)).toArray ∧ U.heap.size = sz ∧ va_P Γ.1 vwCl (xW Γ ad σ) U.heap ∧ (∀ w ∈ lw_tbl, xnest w = true → va_Nw w U) ∧ va_K Γ.1 vwCl (xtys Γ) U ∧ xscr ad σ U U.heap (va_A (xW Γ ad σ) sz)
def xQc (Γ : xΓ) (ad : Nat → Nat → Nat) (σ : xS) (A : Nat → Prop) (q : xR) (k r : Nat) : Array Value → State → Outcome → State → Prop := fun _ st o t =>
  (∃ ad', xagr σ ad ad' ∧ o = .returned (xret ad' k r q.1) ∧ va_P Γ.1 vwCl (xW Γ ad' q.2) t.heap ∧ va_D A (xW Γ ad' q.2) ∧ xwf q.2 ∧ xpre σ q.2 ∧ ∀ v ∈ xpush k r q.1 [], xok q.2 v) ∧ va_F A st t
def xws (y : Nat) : List Jvm.Cond := Jvm.Cond.code (xmeth y).1 (xmeth y).2.1 (xmeth y).2.2.1 (xmeth y).2.2.2.2.2.1 :: xTs
def xrm (d : Nat) (σ : xS) (q : xR) : Room := { frames := d + 1, cells := q.2.2.2.2.2.1 - σ.2.2.2.2.1, slots := q.2.2.2.2.2.2 - σ.2.2.2.2.2, locals := 64 * (d + 1) }
def xMet (l : Launch) (Γ : xΓ) (d y : Nat) (as : List xV) (σ : xS) (q : xR) (ad : Nat → Nat → Nat) (sz : Nat) : Prop := Met l (xmeth y).1 (xws y) (xrm d σ q) (xPc Γ ad σ as sz) (xQc Γ ad σ (va_A (xW Γ ad σ) sz) q (xmeth y).2.2.2.1 (xmeth y).2.2.2.2.1) (q.2.2.2.2.2.1 - σ.2.2.2.2.1) (q.2.2.2.2.2.2 - σ.2.2.2.2.2) (va_A (xW Γ ad σ) sz)
theorem xnw_warm {w : Jvm.Cond} (hn : xnest w = true) {s U : State} (hW : s.WarmedH U.vm) (h : va_Nw w s) : va_Nw w U := by
  unfold xnest at hn
  split at hn
  · exact va_Nw.warmF hW h
  · exact va_Nw.warmM hW h
  · exact va_Nw.warmC hW h
  · cases hn
theorem xnw_tab {w : Jvm.Cond} (hn : xnest w = true) : w.onTables = true := by
  unfold xnest at hn
  split at hn
  · rfl
  · rfl
  · rfl
  · cases hn
theorem xscr_moved {ad : Nat → Nat → Nat} {σ : xS} {s U : State} {H : Heap} {A : Nat → Prop} (hvm : s.vm.Alike U.vm) (h : xscr ad σ s H A) : xscr ad σ U H A := by
  obtain ⟨L, xs, h1, h2⟩ := h
  exact ⟨L, xs, va_X.moved hvm h1, h2⟩
theorem xPc_blind {Γ : xΓ} {ad : Nat → Nat → Nat} {σ : xS} {as : List xV} {sz : Nat} : FrameBlind (xPc Γ ad σ as sz) := fun a U g mk q =>
  ⟨q.1, q.2.1, q.2.2.1, fun w hw hn => va_Nw.same (u := U) (U := U.calling g mk a) (xnw_tab hn) rfl (q.2.2.2.1 w hw hn), va_K.moved (u := U) (U := U.calling g mk a) (Vm.Alike.refl U.vm) q.2.2.2.2.1, xscr_moved (s := U) (U := U.calling g mk a) (Vm.Alike.refl U.vm) q.2.2.2.2.2⟩
theorem xtake_eq : ∀ (n : Nat) (st acc as st' : List xV), xtake n st acc = some (as, st') → acc.reverse ++ st = as.reverse ++ st' ∧ as.length = acc.length + n
  | 0, st, acc, as, st', h => by
    cases h
    exact ⟨rfl, rfl⟩
  | n + 1, [], acc, as, st', h => by cases h
  | n + 1, v :: st, acc, as, st', h => by
    obtain ⟨h1, h2⟩ := xtake_eq n st (v :: acc) as st' h
    refine ⟨?_, by rw [h2, List.length_cons]; omega⟩
    rw [← h1, List.reverse_cons, List.append_assoc]
    rfl
theorem xtake_nil {n : Nat} {st as st' : List xV} (h : xtake n st [] = some (as, st')) : st = as.reverse ++ st' ∧ as.length = n := by
  obtain ⟨h1, h2⟩ := xtake_eq n st [] as st' h
  exact ⟨h1, by rw [h2]; exact Nat.zero_add n⟩
theorem xcnt_pre {σ0 σ : xS} (h : xpre σ0 σ) (r : Nat) : xcnt σ0 r ≤ xcnt σ r := by
  obtain ⟨⟨t, ht⟩, -⟩ := h
  unfold xcnt
  by_cases h16 : r = 16
  · rw [if_pos h16, if_pos h16, ht, List.length_append]
    omega
  · rw [if_neg h16, if_neg h16]
    exact Nat.le_refl _
theorem xok_pre {σ0 σ : xS} (h : xpre σ0 σ) {v : xV} (hv : xok σ0 v) : xok σ v := by
  rcases v with x | x | ⟨r, o⟩
  · trivial
  · trivial
  · cases o with
    | none => trivial
    | some i => exact Nat.lt_of_lt_of_le (show i < xcnt σ0 r from hv) (xcnt_pre h r)
theorem xpre_tr {a b c : xS} (h1 : xpre a b) (h2 : xpre b c) : xpre a c := by
  obtain ⟨⟨t1, e1⟩, a1, b1, c1⟩ := h1
  obtain ⟨⟨t2, e2⟩, a2, b2, c2⟩ := h2
  exact ⟨⟨t1 ++ t2, by rw [e2, e1, List.append_assoc]⟩, Nat.le_trans a1 a2, Nat.le_trans b1 b2, fun k => (c2 k).trans (c1 k)⟩
theorem xst_agr {ad ad' : Nat → Nat → Nat} {σ : xS} (ha : xagr σ ad ad') {st : List xV} (h : xokS σ st) : st.map (xtv ad') = st.map (xtv ad) := List.map_congr_left fun v hv => xtv_agr ha (h v hv)
section SND
variable {p : Program} {l : Launch} {e : Env} {R : Room} {s : State} {m : MethodId} {args : Array Value} {below : List Frame} {meth : Method} {c : Code} {Q : State → Prop}
variable {Γ : xΓ} {y d : Nat} {A : Nat → Prop} {H0 : Heap} {σ0 : xS} {ad0 : Nat → Nat → Nat}
theorem xres_wp {ks : List (Nat × List Nat)} {pc k r : Nat} {ls : xL} {st : List xV} {q : xR} (h : xG Γ ad0 σ0 A H0 p l e R s m args below meth c Q y (xresume ks y pc ls k r st q)) :
    (q.2.2.2.2.2.1 ≤ R.cells + σ0.2.2.2.2.1 ∧ q.2.2.2.2.2.2 ≤ R.slots + σ0.2.2.2.2.2) ∧ ∀ (ad : Nat → Nat → Nat) (H : Heap) (locs : List Loc) (lsA : Array Slot), xWd Γ ad0 σ0 A H0 s ad q.2 H locs → lv_has lsA (xmeth y).2.2.1 (xlv ad 0 ls) → ls.length = (xmeth y).2.2.1 → xokL q.2 ls → xokS q.2 (xpush k r q.1 st) →
      W p l e R s m args below meth c H locs (q.2.2.2.2.2.1 - σ0.2.2.2.2.1) (q.2.2.2.2.2.2 - σ0.2.2.2.2.2) Q (F0 m pc lsA ((xpush k r q.1 st).map (xtv ad))) := by
  unfold xresume at h
  cases hx : xkills ks pc with
  | nil =>
    rw [hx] at h
    exact h rfl
  | cons a ra =>
    rw [hx] at h
    dsimp only at h
    rw [xforce_eq] at h
    obtain ⟨h1, h2⟩ := h rfl
    refine ⟨h1, fun ad H locs lsA hW hl hn hkL hkS => h2 ad H locs lsA hW (lv_less hl fun w hw => ?_) ((xkill_len _ _).trans hn) (fun k v hk => hkL k v (xkill_get _ _ _ _ hk)) hkS⟩
    obtain ⟨k, v, hk, e⟩ := xlv_mem.mp hw
    exact xlv_mem.mpr ⟨k, v, xkill_get _ _ _ _ hk, e⟩
/-- behind a call -/
theorem xcall_fin (C : xCtx Γ ad0 σ0 y d A H0 p R s m args meth c) {ad : Nat → Nat → Nat} {σ : xS} {H : Heap} {locs : List Loc} {lsA : Array Slot} {ls : xL} {st' : List xV} {st0 : List Value} {aa : Array Value} {ks : List (Nat × List Nat)} {pc k r : Nat} {q : xR} (hle : xle σ q.2)
    (hrun : va_Run p l e R s m args below meth c H locs (σ.2.2.2.2.1 - σ0.2.2.2.2.1) (σ.2.2.2.2.2 - σ0.2.2.2.2.2) (q.2.2.2.2.2.1 - σ.2.2.2.2.1) (q.2.2.2.2.2.2 - σ.2.2.2.2.2) (F0 m pc lsA st0) (st'.map (xtv ad)) (xQc Γ ad σ (va_A (xW Γ ad σ) H.size) q k r aa) (va_A (xW Γ ad σ) H.size))
    (hc : xG Γ ad0 σ0 A H0 p l e R s m args below meth c Q y (xresume ks y (pc + 3) ls k r st' q)) (hW : xWd Γ ad0 σ0 A H0 s ad σ H locs) (hl : lv_has lsA (xmeth y).2.2.1 (xlv ad 0 ls)) (hn : ls.length = (xmeth y).2.2.1) (hkL : xokL σ ls) (hkS : xokS σ st') :
    W p l e R s m args below meth c H locs (σ.2.2.2.2.1 - σ0.2.2.2.2.1) (σ.2.2.2.2.2 - σ0.2.2.2.2.2) Q (F0 m pc lsA st0) := by
  obtain ⟨hx, hb, hml, hown, hts, hnw, hK, hA, hfr, hlo, hnm, hsc⟩ := C
  obtain ⟨hP, hD, hS, hwf, hag, hpre⟩ := hW
  have hA1 : ∀ x, va_A (xW Γ ad σ) H.size x → A x := by
    rintro x (⟨k, e, h⟩ | h)
    · exact hD.2 k _ h
    · exact hA x (Nat.le_trans hS.1 h)
  intro T hT X
  obtain ⟨v, st₀, t, T', L, h0, X', hL, e1, e2, ⟨⟨ad', g1, g2, g3, g4, g5, g6, g7⟩, hz, hk⟩, st⟩ := hrun T hT X
  cases g2
  rw [h0] at hz hk
  have hcells : (σ.2.2.2.2.1 - σ0.2.2.2.2.1) + (q.2.2.2.2.2.1 - σ.2.2.2.2.1) = q.2.2.2.2.2.1 - σ0.2.2.2.2.1 := by
    have := hle.1
    have := hpre.2.1
    omega
  have hslots : (σ.2.2.2.2.2 - σ0.2.2.2.2.2) + (q.2.2.2.2.2.2 - σ.2.2.2.2.2) = q.2.2.2.2.2.2 - σ0.2.2.2.2.2 := by
    have := hle.2
    have := hpre.2.2.1
    omega
  rw [hcells, hslots] at X'
  have hW1 : xWd Γ ad0 σ0 A H0 s ad' q.2 T'.heap (locs ++ L) := by
    refine ⟨by rw [e1]; exact g3, g4.weaken (fun k w _ h => hA1 _ h), ⟨Nat.le_trans hS.1 (by rw [e1]; exact hz), fun x h1 h2 => ?_, fun w hw => ?_⟩, g5, fun r i hi => ?_, xpre_tr hpre g6⟩
    · rw [e1, hk x (Nat.lt_of_lt_of_le h1 hS.1) (fun z => h2 (hA1 x z))]
      exact hS.2.1 x h1 h2
    · rcases List.mem_append.mp hw with h | h
      · exact hS.2.2 w h
      · exact hA1 _ (hL w h)
    · rw [g1 r i (Nat.lt_of_lt_of_le hi (xcnt_pre hpre r))]
      exact hag r i hi
  have K := (xres_wp hc).2 ad' T'.heap (locs ++ L) lsA hW1 (xlv_agr g1 hkL hl) hn (fun k v hk => xok_pre g6 (hkL k v hk)) (fun v hv => by
    rcases xpush_mem hv with h | h
    · exact g7 v h
    · exact xok_pre g6 (hkS v h))
  rw [xpush_map, xst_agr g1 hkS] at K
  obtain ⟨t2, a1, b1⟩ := K T' rfl X'
  exact ⟨t2, st t2 a1, b1⟩
theorem xpreS (C : xCtx Γ ad0 σ0 y d A H0 p R s m args meth c) {ad : Nat → Nat → Nat} {σ : xS} {H : Heap} {locs : List Loc} (hW : xWd Γ ad0 σ0 A H0 s ad σ H locs) (as : List xV) (U : State) (hU : U.heap = H) (hw : s.WarmedH U.vm) : xPc Γ ad σ as H.size (as.map (xtv ad)).toArray U := by
  obtain ⟨hx, hb, hml, hown, hts, hnw, hK, hA, hfr, hlo, hnm, hsc⟩ := C
  obtain ⟨hP, hD, hS, hwf, hag, hpre⟩ := hW
  refine ⟨rfl, by rw [hU], by rw [hU]; exact hP, fun w h1 h2 => xnw_warm h2 hw (hnw w h1 h2), va_K.moved hw.alike hK, ?_⟩
  obtain ⟨L, xs, h1, h2, h3, h4, h5, h6⟩ := hsc
  have e36 : ad 36 0 = ad0 36 0 := hag 36 0 (by show 0 < xcnt σ0 36; unfold xcnt; rw [if_neg (by decide), if_pos rfl]; exact Nat.one_pos)
  have hsz : ad0 36 0 < H.size := Nat.lt_of_lt_of_le h2 hS.1
  rw [hU]
  refine ⟨L, xs, ?_, by rw [e36]; exact hsz, ?_, fun k hk => (hpre.2.2.2 k).trans (h4 k hk), (hpre.2.2.2 3072).trans h5, h6⟩
  · rw [e36]
    exact va_X.moved hw.alike (va_X.kept h1 (hS.2.1 _ h2 h3))
  · rw [e36]
    rintro (⟨k, e, h⟩ | h)
    · exact h3 (hD.2 k _ h)
    · omega
theorem xback (C : xCtx Γ ad0 σ0 y (d + 1) A H0 p R s m args meth c) {y1 i j sz : Nat} {as : List xV} {σ : xS} {q : xR} {ad : Nat → Nat → Nat} (hh : xhead (xmeth y1) i = true) (hini : xg j (.initialized (xmeth y1).1.cls) = true) (hM : xMet l Γ d y1 as σ q ad sz) :
    Back l R p e below s args (xmeth y1).1 3 16 (PreOf R (q.2.2.2.2.2.1 - σ.2.2.2.2.1) (q.2.2.2.2.2.2 - σ.2.2.2.2.2) (xPc Γ ad σ as sz)) (PostOf (xQc Γ ad σ (va_A (xW Γ ad σ) sz) q (xmeth y1).2.2.2.1 (xmeth y1).2.2.2.2.1) (q.2.2.2.2.2.1 - σ.2.2.2.2.1) (q.2.2.2.2.2.2 - σ.2.2.2.2.2) (va_A (xW Γ ad σ) sz)) := by
  obtain ⟨hx, hb, hml, hown, hts, hnw, hK, hA, hfr, hlo, hnm, hsc⟩ := C
  rcases hq : xmeth y1 with ⟨nm, bytes, maxL, rk, rr, rt, code, ks⟩
  have hh2 := hh
  rw [hq] at hh2
  unfold xhead at hh2
  simp only [Bool.and_eq_true] at hh2
  obtain ⟨⟨⟨h1, h2⟩, h3⟩, h4⟩ := hh2
  have hM2 := hM
  unfold xMet xws at hM2
  rw [hq] at hM2
  rw [hq] at hini
  have hcode := xg_mem h1
  have hmL := Nat.le_of_ble_eq_true h3
  refine back_of (bytes := bytes) (maxL := maxL) (ret := rt) hM2 xPc_blind rfl rfl ?_ ?_ (pay_in (big := xTs) (args := args) (xTs_of hts) fun w hw => ?_) List.mem_cons_self (fun a' U hW => word_at hW (good_of_word (xg_mem hini).2) (hts _ (xg_mem hini).1 (xg_mem hini).2))
  · show d + 1 + 1 ≤ R.frames
    omega
  · show 16 + (maxL + 11) + 64 * (d + 1) ≤ R.locals
    omega
  · rcases List.mem_cons.mp hw with h | h
    · rw [h]
      exact ⟨List.mem_filter.mpr hcode, good_of_word hcode.2⟩
    · exact ⟨h, good_of_word (List.mem_filter.mp h).2⟩
theorem xrun_of {H : Heap} {locs : List Loc} {cells slots mc ms : Nat} {g : JFrame} {rest : List Value} {Qc : Array Value → State → Outcome → State → Prop} {free : Addr → Prop} {aa : Array Value}
    (h : ∀ T : State, T.heap = H → Stand p l e R s m args below meth c T locs cells slots → ∃ (v : Option Value) (vm₁ : Vm) (B : Pt), s.WarmedH vm₁ ∧ Stand p l e R s m args below meth c B.U B.locs B.cells B.slots ∧ PostOf Qc mc ms free ⟨T.setVm vm₁, locs, cells, slots⟩ aa v B ∧
      ∀ target, Steps p.tables e below (B.U.setTop { g with pc := g.pc + 3, stack := v.toList ++ rest }) target → Steps p.tables e below (T.setTop g) target) :
    va_Run p l e R s m args below meth c H locs cells slots mc ms g rest (Qc aa) free := by
  intro T hT X
  obtain ⟨v, vm₁, ⟨U', l2, c2, s2⟩, hW₁, X', ⟨g', mk, t, L, e1, e2, hq, h1, hL, h2, h3⟩, st⟩ := h T hT X
  dsimp only [Pt.U, Pt.locs, Pt.cells, Pt.slots] at X' e1 e2 h1 h2 h3 st
  subst h1; subst h2; subst h3
  exact ⟨v, (T.setVm vm₁).calling g' mk aa, t, U', L, hT, X', hL, e1, e2, hq, st⟩
end SND
