/-! READING AND WRITING THE HEAP: facts of the tables of classes, the world behind a write -/
def xclWs : Bool := (List.range 13).all fun ci => (u_ws (vwCl.getD ci (RX0, TX0, 2)).1 (vwCl.getD ci (RX0, TX0, 2)).2.1 (vwCl.getD ci (RX0, TX0, 2)).2.2).all fun w => decide (w ∈ lw_tbl) && goodWord w
theorem xclWs_ok : xclWs = true := by decide +kernel
def xtyq (q : Nat × Nat × Nat) (ty : Option FieldType) : Bool := match q.1, ty with
  | 0, some .int => true
  | 4, some .boolean => true
  | 1, some .long => true
  | 2, some _ => true
  | 5, some _ => true
  | 3, some (.object _) => true
  | _, _ => false
/-- the slots of a region are the fields of its class, in number and type -/
def xregTy : Bool := (List.range 36).all fun r => !Nat.beq (xreg r).1 0 || ((if (xreg r).2.1 = 100 then xcsr else [(xreg r).2.1]).all fun ci =>
  Nat.blt ci 13 && Nat.beq (vwCl.getD ci (RX0, TX0, 2)).2.2 (xreg r).2.2.2.length && ((List.range (xreg r).2.2.2.length).all fun k => xtyq (xslot r k) (parseFieldDescriptor ((vwCl.getD ci (RX0, TX0, 2)).2.1 k).2.2.1)) &&
  (Nat.beq (xreg r).2.1 100 == Nat.beq r 16))
theorem xregTy_ok : xregTy = true := by decide +kernel
def xTs : List Jvm.Cond := lw_tbl.filter goodWord
theorem xTs_of {s : State} {args : Array Value} (hts : ∀ w ∈ lw_tbl, goodWord w = true → w.before args s = true) : ∀ w ∈ xTs, w.before args s = true := fun w hw => hts w (List.mem_filter.mp hw).1 (List.mem_filter.mp hw).2
theorem xcl_ws {ci : Nat} {C : String} {T : u_T} {N : Nat} (hc : vwCl[ci]? = some (C, T, N)) : ∀ w ∈ u_ws C T N, w ∈ xTs := by
  intro w hw
  have hl : ci < 13 := (List.getElem?_eq_some_iff.mp hc).1
  have h := List.all_eq_true.mp xclWs_ok ci (List.mem_range.mpr hl)
  rw [List.getD_eq_getElem?_getD, hc] at h
  have h := List.all_eq_true.mp h w hw
  rw [Bool.and_eq_true] at h
  exact List.mem_filter.mpr ⟨of_decide_eq_true h.1, h.2⟩
theorem xcl_get {ci : Nat} (h : ci < 13) : ∃ C T N, vwCl[ci]? = some (C, T, N) ∧ vwCl.getD ci (RX0, TX0, 2) = (C, T, N) := by
  have hl : ci < vwCl.length := h
  refine ⟨(vwCl[ci]).1, (vwCl[ci]).2.1, (vwCl[ci]).2.2, List.getElem?_eq_getElem hl, ?_⟩
  rw [List.getD_eq_getElem?_getD, List.getElem?_eq_getElem hl]
  rfl
theorem xcl_ty {ci : Nat} {C : String} {T : u_T} {N : Nat} (hc : vwCl[ci]? = some (C, T, N)) : ∃ ty : Nat → FieldType, (∀ k, k < N → parseFieldDescriptor (T k).2.2.1 = some (ty k)) ∧ ∀ a, a < N → ∀ b, b < N → a ≠ b → (T a).2.1 ≠ (T b).2.1 := by
  match ci, hc with
  | 0, hc => cases hc; exact ⟨tyX0, tyX0_ok, nmX0⟩
  | 1, hc => cases hc; exact ⟨tyX1, tyX1_ok, nmX1⟩
  | 2, hc => cases hc; exact ⟨tyX2, tyX2_ok, nmX2⟩
  | 3, hc => cases hc; exact ⟨tyX3, tyX3_ok, nmX3⟩
  | 4, hc => cases hc; exact ⟨tyX4, tyX4_ok, nmX4⟩
  | 5, hc => cases hc; exact ⟨tyX5, tyX5_ok, nmX5⟩
  | 6, hc => cases hc; exact ⟨tyX6, tyX6_ok, nmX6⟩
  | 7, hc => cases hc; exact ⟨tyX7, tyX7_ok, nmX7⟩
  | 8, hc => cases hc; exact ⟨tyX8, tyX8_ok, nmX8⟩
  | 9, hc => cases hc; exact ⟨tyX9, tyX9_ok, nmX9⟩
  | 10, hc => cases hc; exact ⟨tyX10, tyX10_ok, nmX10⟩
  | 11, hc => cases hc; exact ⟨tyX11, tyX11_ok, nmX11⟩
  | 12, hc => cases hc; exact ⟨tyX12, tyX12_ok, nmX12⟩
  | n + 13, hc => exact absurd (List.getElem?_eq_some_iff.mp hc).1 (by simp)
theorem xtag_lt {r t : Nat} (h : (xreg r).1 = t) (h9 : t ≠ 9) (h5 : t ≠ 5) : r < 36 := by
  refine Classical.byContradiction fun hn => ?_
  by_cases h36 : r = 36
  · subst h36
    exact h5 (h.symm.trans (by decide +kernel))
  · rw [xreg_big (by omega)] at h
    exact h9 h.symm
theorem xcell_obj {Γ : xΓ} {ad : Nat → Nat → Nat} {σ : xS} {r i : Nat} (h : (xreg r).1 = 0) : xcell Γ ad σ r i = .inr (xcls σ r i, xfs ad r i (rI σ r i) (rL σ r i) (rP σ r i)) := by
  unfold xcell xcellF
  rcases hx : xreg r with ⟨t, n, cn, sl⟩
  rw [hx] at h
  cases h
  rfl
theorem xcell_ints {Γ : xΓ} {ad : Nat → Nat → Nat} {σ : xS} {r i : Nat} (h : (xreg r).1 = 1) : xcell Γ ad σ r i = .inl (Γ.2.1, (xreg r).2.1, .inl (rI σ r i)) := by
  unfold xcell xcellF
  rcases hx : xreg r with ⟨t, n, cn, sl⟩
  rw [hx] at h
  cases h
  rfl
theorem xcell_longs {Γ : xΓ} {ad : Nat → Nat → Nat} {σ : xS} {r i : Nat} (h : (xreg r).1 = 2) : xcell Γ ad σ r i = .inl (Γ.2.2.1, (xreg r).2.1, .inr (.inl (rL σ r i))) := by
  unfold xcell xcellF
  rcases hx : xreg r with ⟨t, n, cn, sl⟩
  rw [hx] at h
  cases h
  rfl
theorem xcell_refs {Γ : xΓ} {ad : Nat → Nat → Nat} {σ : xS} {r i : Nat} (h : (xreg r).1 = 3) : xcell Γ ad σ r i = .inl (Γ.2.2.2.1, (xreg r).2.1, .inr (.inr (.inr (.inr (fun k => (rP σ r i k).map (ad (xtgt r))))))) := by
  unfold xcell xcellF
  rcases hx : xreg r with ⟨t, n, cn, sl⟩
  rw [hx] at h
  cases h
  rfl
theorem xcell_fixed {Γ : xΓ} {ad : Nat → Nat → Nat} {σ : xS} {r i : Nat} (h : (xreg r).1 = 4) : xcell Γ ad σ r i = .inl (Γ.2.2.2.2, (xreg r).2.1, .inr (.inr (.inr (.inr (fun k => if k < (xreg r).2.1 then some (ad (xtgt r) k) else none))))) := by
  unfold xcell xcellF
  rcases hx : xreg r with ⟨t, n, cn, sl⟩
  rw [hx] at h
  cases h
  rfl
theorem xfs_get {ad : Nat → Nat → Nat} {r i k : Nat} {fI : Nat → Int32} {fL : Nat → Int64} {fP : Nat → Option Nat} (hk : k < (xreg r).2.2.2.length) : (xfs ad r i fI fL fP)[k]? = some (xfv ad i fI fL fP k (xslot r k)) := by
  unfold xfs
  rw [List.getElem?_map, List.getElem?_range hk]
  rfl
theorem xfs_len {ad : Nat → Nat → Nat} {r i : Nat} {fI : Nat → Int32} {fL : Nat → Int64} {fP : Nat → Option Nat} : (xfs ad r i fI fL fP).length = (xreg r).2.2.2.length := by
  unfold xfs
  rw [List.length_map, List.length_range]
theorem xfs_set {ad : Nat → Nat → Nat} {r i k : Nat} {fI fI' : Nat → Int32} {fL fL' : Nat → Int64} {fP fP' : Nat → Option Nat} {v : Value} (hk : k < (xreg r).2.2.2.length) (hv : xfv ad i fI' fL' fP' k (xslot r k) = v) (ho : ∀ j, j ≠ k → fI' j = fI j ∧ fL' j = fL j ∧ fP' j = fP j) : (xfs ad r i fI fL fP).set k v = xfs ad r i fI' fL' fP' := by
  apply List.ext_getElem?
  intro j
  by_cases hj : j = k
  · subst hj
    rw [List.getElem?_set_self (by rw [xfs_len]; exact hk), xfs_get hk, hv]
  · rw [List.getElem?_set_ne (Ne.symm hj)]
    by_cases hl : j < (xreg r).2.2.2.length
    · rw [xfs_get hl, xfs_get hl]
      obtain ⟨h1, h2, h3⟩ := ho j hj
      unfold xfv
      rw [h1, h2, h3]
    · rw [List.getElem?_eq_none (by rw [xfs_len]; omega), List.getElem?_eq_none (by rw [xfs_len]; omega)]
theorem xcls_in {σ : xS} {r i : Nat} (hw : xwf σ) (h0 : (xreg r).1 = 0) (hi : i < xcnt σ r) : xcls σ r i ∈ (if (xreg r).2.1 = 100 then xcsr else [(xreg r).2.1]) ∧ ((xreg r).2.1 = 100 ↔ r = 16) := by
  have hr := xtag_lt h0 (by omega) (by omega)
  have h := List.all_eq_true.mp xregTy_ok r (List.mem_range.mpr hr)
  rw [h0] at h
  simp only [Nat.beq_refl, Bool.not_true, Bool.false_or, List.all_eq_true, Bool.and_eq_true, beq_iff_eq] at h
  have key : (xreg r).2.1 = 100 ↔ r = 16 := by
    have hex : ∃ ci, ci ∈ (if (xreg r).2.1 = 100 then xcsr else [(xreg r).2.1]) := by
      by_cases h100 : (xreg r).2.1 = 100
      · rw [if_pos h100]; exact ⟨0, by decide⟩
      · rw [if_neg h100]; exact ⟨_, List.mem_cons_self⟩
    obtain ⟨ci, hci⟩ := hex
    have h2 := (h ci hci).2
    constructor
    · intro e
      rw [e] at h2
      exact Nat.eq_of_beq_eq_true h2.symm
    · intro e
      rw [e, Nat.beq_refl] at h2
      rw [e]
      exact Nat.eq_of_beq_eq_true h2
  refine ⟨?_, key⟩
  unfold xcls
  by_cases h16 : r = 16
  · rw [if_pos h16, if_pos (key.mpr h16)]
    have hl : i < (rC σ).length := by
      unfold xcnt at hi
      rwa [if_pos h16] at hi
    rw [List.getD_eq_getElem?_getD, List.getElem?_eq_getElem hl]
    exact hw.2.2 _ (List.getElem_mem hl)
  · rw [if_neg h16, if_neg (fun e => h16 (key.mp e))]
    exact List.mem_cons_self
theorem xreg_ty {r ci k : Nat} (h0 : (xreg r).1 = 0) (hci : ci ∈ (if (xreg r).2.1 = 100 then xcsr else [(xreg r).2.1])) {C : String} {T : u_T} {N : Nat} (hc : vwCl[ci]? = some (C, T, N)) : N = (xreg r).2.2.2.length ∧ (k < N → xtyq (xslot r k) (parseFieldDescriptor (T k).2.2.1) = true) := by
  have hr := xtag_lt h0 (by omega) (by omega)
  have h := List.all_eq_true.mp xregTy_ok r (List.mem_range.mpr hr)
  rw [h0] at h
  simp only [Nat.beq_refl, Bool.not_true, Bool.false_or, List.all_eq_true, Bool.and_eq_true, List.mem_range] at h
  obtain ⟨⟨⟨h1, h2⟩, h3⟩, -⟩ := h ci hci
  rw [List.getD_eq_getElem?_getD, hc] at h2 h3
  have hN : N = (xreg r).2.2.2.length := Nat.eq_of_beq_eq_true h2
  exact ⟨hN, fun hk => h3 k (by rw [← hN]; exact hk)⟩
/-! ===== what a write leaves of the rest ===== -/
section
variable {Γ : xΓ} {ad0 ad : Nat → Nat → Nat} {σ0 σ σ' : xS} {A : Nat → Prop} {H0 H H1 : Heap} {s : State} {locs locs1 : List Loc}
theorem xWd_upd {q r i : Nat} (hW : xWd Γ ad0 σ0 A H0 s ad σ H locs) (hC : σ'.2.2.2 = σ.2.2.2) (hr : r < 36) (hq : (xnm σ)[q]? = some (r, i)) (ho : ∀ r' i', ¬ (r' = r ∧ i' = i) → rI σ' r' i' = rI σ r' i' ∧ rL σ' r' i' = rL σ r' i' ∧ rP σ' r' i' = rP σ r' i') (hwf : xwf σ')
    (hP : va_P Γ.1 vwCl ((xW Γ ad σ).set q (ad r i, xcell Γ ad σ' r i)) H1) (hD : va_D A ((xW Γ ad σ).set q (ad r i, xcell Γ ad σ' r i))) (hS : va_S A H0 H1 locs1) : xWd Γ ad0 σ0 A H0 s ad σ' H1 locs1 := by
  obtain ⟨hP0, hD0, hS0, hwf0, hag, hpre⟩ := hW
  have hrC : rC σ' = rC σ := congrArg Prod.fst hC
  have e : (xW Γ ad σ).set q (ad r i, xcell Γ ad σ' r i) = xW Γ ad σ' := by
    refine xW_set (xnm_C hrC) hD0 hq fun r' i' hne => ?_
    obtain ⟨a, b, c⟩ := ho r' i' hne
    exact xcell_same (xcls_C hrC r' i') a b c
  rw [e] at hP hD
  refine ⟨hP, hD, hS, hwf, hag, ?_⟩
  obtain ⟨⟨t, ht⟩, p1, p2, p3⟩ := hpre
  refine ⟨⟨t, hrC.trans ht⟩, ?_, ?_, fun k => ?_⟩
  · rw [hC]; exact p1
  · rw [hC]; exact p2
  · rw [(ho 36 0 (by omega)).1]
    exact p3 k
theorem xwf_same (hw : xwf σ) (hC : rC σ' = rC σ) (hP : rP σ' = rP σ) : xwf σ' := by
  refine ⟨fun r i k j h1 h2 => ?_, fun r i k j h1 h2 h3 => ?_, fun c hc => ?_⟩
  · rw [xcnt_C hC]
    rw [hP] at h2
    exact hw.1 r i k j h1 h2
  · rw [xcnt_C hC]
    rw [hP] at h3
    exact hw.2.1 r i k j h1 h2 h3
  · rw [hC] at hc
    exact hw.2.2 c hc
theorem xwf_wP {r i k : Nat} {v : Option Nat} {t : Nat} (hw : xwf σ) (hv : ∀ j, v = some j → j < xcnt σ t) (h3 : (xreg r).1 = 3 → xtgt r = t) (h0 : (xreg r).1 = 0 → (xslot r k).1 = 3 → (xslot r k).2.1 = t) : xwf (wP σ r i k v) := by
  have key : ∀ r' i' k' j, rP (wP σ r i k v) r' i' k' = some j → (r' = r ∧ k' = k ∧ v = some j) ∨ rP σ r' i' k' = some j := by
    intro r' i' k' j h
    rw [rP_wP] at h
    by_cases hh : r' = r ∧ i' = i
    · rw [if_pos hh] at h
      by_cases hk : k' = k
      · have h : (if k' = k then v else rP σ r i k') = some j := h
        rw [if_pos hk] at h
        exact Or.inl ⟨hh.1, hk, h⟩
      · have h : (if k' = k then v else rP σ r i k') = some j := h
        rw [if_neg hk] at h
        rw [hh.1, hh.2]
        exact Or.inr h
    · rw [if_neg hh] at h
      exact Or.inr h
  refine ⟨fun r' i' k' j h1 h2 => ?_, fun r' i' k' j h1 h2 h4 => ?_, fun c hc => hw.2.2 c hc⟩
  · rw [xcnt_C (rC_wP σ r i k v)]
    rcases key r' i' k' j h2 with ⟨a, b, c⟩ | h
    · rw [a] at h1 ⊢
      rw [h3 h1]
      exact hv j c
    · exact hw.1 r' i' k' j h1 h
  · rw [xcnt_C (rC_wP σ r i k v)]
    rcases key r' i' k' j h4 with ⟨a, b, c⟩ | h
    · rw [a] at h1
      rw [a, b] at h2 ⊢
      rw [h0 h1 h2]
      exact hv j c
    · exact hw.2.1 r' i' k' j h1 h2 h
theorem rI_wI (σ : xS) (r i k : Nat) (v : Int32) (r' i' : Nat) : rI (wI σ r i k v) r' i' = if r' = r ∧ i' = i then (fun k' => if k' = k then v else rI σ r i k') else rI σ r' i' := rI_wR _ _ _ _ _ _
end
def xadn (ad : Nat → Nat → Nat) (n q : Nat) : Nat → Nat → Nat := fun r i => if r = 16 ∧ i = n then q else ad r i
def xcast : Bool := xcsr.all fun ci => Nat.beq ci 0 || decide (Jvm.Cond.castable (vwCl.getD ci (RX0, TX0, 2)).1 RX0 ∈ lw_tbl)
theorem xcast_ok : xcast = true := by decide +kernel
theorem xcsr_13 : ∀ ci, ci ∈ xcsr → ci < 13 := by decide
theorem xany {Γ : xΓ} {ad : Nat → Nat → Nat} {σ : xS} {H : Heap} {s : State} {q2 ci v : Nat} {fs : List Value} (hnw : ∀ w ∈ lw_tbl, xnest w = true → va_Nw w s) (hK : va_K Γ.1 vwCl (xtys Γ) s) (hP : va_P Γ.1 vwCl (xW Γ ad σ) H) (hq2 : (xW Γ ad σ)[q2]? = some (v, .inr (ci, fs))) (hci : ci ∈ xcsr) : va_Any "OncePerRoad$Carrier" s H v := by
  obtain ⟨C, T, N, hc, hcd⟩ := xcl_get (xcsr_13 ci hci)
  refine va_rAny hK hP hq2 hc fun comp c0 h1 h2 => ?_
  have h := List.all_eq_true.mp xcast_ok ci hci
  rw [hcd] at h
  rcases Bool.or_eq_true_iff.mp h with h | h
  · have h0 := Nat.eq_of_beq_eq_true h
    subst h0
    cases hc
    have h3 := (hK.1 0 _ (show vwCl[0]? = some (RX0, TX0, 2) from rfl)).2
    have e : c0 = comp := Option.some.inj (h2.symm.trans h1)
    subst e
    have e2 : c0 = Γ.1.1 0 := Option.some.inj (h2.symm.trans h3.1)
    rw [e2]
    exact va_assign h3
  · have hw := hnw _ (of_decide_eq_true h) rfl
    obtain ⟨c1, t1, g1, g2, g3⟩ := Cond.castable_spec hw
    have e1 : c0 = c1 := Option.some.inj (h2.symm.trans g1)
    have e2 : comp = t1 := Option.some.inj (h1.symm.trans g2)
    rw [e1, e2]
    exact g3
theorem xcnt_wC {σ : xS} {ci : Nat} (r : Nat) : xcnt σ r ≤ xcnt (wC σ ci) r := by
  unfold xcnt
  by_cases h16 : r = 16
  · rw [if_pos h16, if_pos h16]
    show (rC σ).length ≤ (rC σ ++ [ci]).length
    simp
  · rw [if_neg h16, if_neg h16]
    exact Nat.le_refl _
theorem xWd_new {Γ : xΓ} {ad0 ad : Nat → Nat → Nat} {σ0 σ : xS} {A : Nat → Prop} {H0 H H1 : Heap} {s : State} {locs : List Loc} {ci q : Nat} (hW : xWd Γ ad0 σ0 A H0 s ad σ H locs) (hcs : ci ∈ xcsr) (hP1 : va_P Γ.1 vwCl (xW Γ ad σ ++ [(q, .inr (ci, [.int 0, .int 0]))]) H1) (hD1 : va_D A (xW Γ ad σ ++ [(q, .inr (ci, [.int 0, .int 0]))])) (hS1 : va_S A H0 H1 locs) :
    xWd Γ ad0 σ0 A H0 s (xadn ad (rC σ).length q) (wC σ ci) H1 locs ∧ xagr σ ad (xadn ad (rC σ).length q) := by
  obtain ⟨hP, hD, hS, hwf, hag, hpre⟩ := hW
  have hagr : xagr σ ad (xadn ad (rC σ).length q) := by
    intro r i hi
    refine if_neg fun ⟨h1, h2⟩ => ?_
    subst h1
    subst h2
    unfold xcnt at hi
    rw [if_pos rfl] at hi
    exact Nat.lt_irrefl _ hi
  have hI : ∀ r i, ¬ (r = 16 ∧ i = (rC σ).length) → rI (wC σ ci) r i = rI σ r i := fun r i hne => if_neg hne
  have hcell : ∀ r i, (r, i) ∈ xnm σ → xcell Γ (xadn ad (rC σ).length q) (wC σ ci) r i = xcell Γ ad σ r i := by
    intro r i hm
    obtain ⟨hr, hi⟩ := xnm_of hm
    have hne : ¬ (r = 16 ∧ i = (rC σ).length) := by
      rintro ⟨h1, h2⟩
      subst h1
      subst h2
      unfold xcnt at hi
      rw [if_pos rfl] at hi
      exact Nat.lt_irrefl _ hi
    rw [← xcell_agr (Γ := Γ) hr hi hwf hagr]
    refine xcell_same ?_ (hI r i hne) rfl rfl
    unfold xcls
    by_cases h16 : r = 16
    · rw [if_pos h16, if_pos h16]
      have hl : i < (rC σ).length := by
        unfold xcnt at hi
        rwa [if_pos h16] at hi
      show (rC σ ++ [ci]).getD i 0 = _
      rw [List.getD_eq_getElem?_getD, List.getD_eq_getElem?_getD, List.getElem?_append_left hl]
    · rw [if_neg h16, if_neg h16]
  have h160 : (xreg 16).1 = 0 := by decide +kernel
  have hnew : xcell Γ (xadn ad (rC σ).length q) (wC σ ci) 16 (rC σ).length = .inr (ci, [.int 0, .int 0]) := by
    rw [xcell_obj h160]
    have e1 : xcls (wC σ ci) 16 (rC σ).length = ci := by
      unfold xcls
      rw [if_pos rfl]
      show (rC σ ++ [ci]).getD (rC σ).length 0 = ci
      rw [List.getD_eq_getElem?_getD, List.getElem?_append_right (Nat.le_refl _), Nat.sub_self]
      rfl
    have e2 : rI (wC σ ci) 16 (rC σ).length = fun _ => 0 := if_pos ⟨rfl, rfl⟩
    rw [e1, e2]
    rfl
  have hxW : xW Γ (xadn ad (rC σ).length q) (wC σ ci) = xW Γ ad σ ++ [(q, .inr (ci, [.int 0, .int 0]))] := by
    have hn : xnm (wC σ ci) = xnm σ ++ [(16, (rC σ).length)] := by
      unfold xnm
      show xns ++ List.map (fun i => (16, i)) (List.range (rC σ ++ [ci]).length) = _
      rw [List.length_append, List.append_assoc]
      show xns ++ List.map (fun i => (16, i)) (List.range ((rC σ).length + 1)) = _
      rw [List.range_succ, List.map_append]
      rfl
    unfold xW
    rw [hn, List.map_append]
    congr 1
    · apply List.map_congr_left
      rintro ⟨r, i⟩ hm
      dsimp only
      rw [hcell r i hm, hagr r i (xnm_of hm).2]
    · show [(xadn ad (rC σ).length q 16 (rC σ).length, xcell Γ (xadn ad (rC σ).length q) (wC σ ci) 16 (rC σ).length)] = _
      rw [hnew, show xadn ad (rC σ).length q 16 (rC σ).length = q from if_pos ⟨rfl, rfl⟩]
  rw [← hxW] at hP1 hD1
  refine ⟨⟨hP1, hD1, hS1, ?_, ?_, ?_⟩, hagr⟩
  · refine ⟨fun r i k j h1 h2 => ?_, fun r i k j h1 h2 h3 => ?_, fun c hc => ?_⟩
    · exact Nat.lt_of_lt_of_le (hwf.1 r i k j h1 h2) (xcnt_wC _)
    · exact Nat.lt_of_lt_of_le (hwf.2.1 r i k j h1 h2 h3) (xcnt_wC _)
    · rcases List.mem_append.mp (show c ∈ rC σ ++ [ci] from hc) with h | h
      · exact hwf.2.2 c h
      · rw [List.mem_singleton.mp h]
        exact hcs
  · intro r i hi
    have h0 : xcnt σ0 r ≤ xcnt σ r := by
      obtain ⟨⟨t, ht⟩, -⟩ := hpre
      unfold xcnt
      by_cases h16 : r = 16
      · rw [if_pos h16, if_pos h16, ht, List.length_append]
        omega
      · rw [if_neg h16, if_neg h16]
        exact Nat.le_refl _
    rw [hagr r i (Nat.lt_of_lt_of_le hi h0)]
    exact hag r i hi
  · obtain ⟨⟨t, ht⟩, p1, p2, p3⟩ := hpre
    refine ⟨⟨t ++ [ci], ?_⟩, ?_, ?_, fun k => ?_⟩
    · show rC σ ++ [ci] = _
      rw [ht, List.append_assoc]
    · show _ ≤ σ.2.2.2.2.1 + 1
      omega
    · show _ ≤ σ.2.2.2.2.2 + 2
      omega
    · rw [hI 36 0 (fun h => by omega)]
      exact p3 k
