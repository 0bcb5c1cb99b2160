/-! THE ABSTRACT STATE IN A HEAP: which cells hold it, reading, writing, making -/
/-- the classes' tables, the classes of int[], long[], Carrier[], Row[] -/
abbrev xΓ : Type := va_G × ClassId × ClassId × ClassId × ClassId
def xtys (Γ : xΓ) : List (ClassId × FieldType) := [(Γ.2.1, .int), (Γ.2.2.1, .long), (Γ.2.2.2.1, .object "OncePerRoad$Carrier"), (Γ.2.2.2.2, .object "OncePerRoad$Row")]
def xtv (ad : Nat → Nat → Nat) : xV → Value
  | .inl x => .int x
  | .inr (.inl x) => .long x
  | .inr (.inr (r, o)) => va_rf (o.map (ad r))
def xcnt (σ : xS) (r : Nat) : Nat := if r = 16 then (rC σ).length else if r = 36 then 1 else (xreg r).2.2.1
def xok (σ : xS) : xV → Prop
  | .inr (.inr (r, some i)) => i < xcnt σ r
  | _ => True
def xtgt (r : Nat) : Nat := ((xreg r).2.2.2.getD 0 (0, 0, 0)).1
def xfv (ad : Nat → Nat → Nat) (i : Nat) (fI : Nat → Int32) (fL : Nat → Int64) (fP : Nat → Option Nat) (k : Nat) (q : Nat × Nat × Nat) : Value := match q with
  | (0, _, _) => .int (fI k)
  | (4, _, _) => .int (fI k)
  | (1, _, _) => .long (fL k)
  | (2, r', _) => .ref (ad r' i)
  | (5, r', a) => .ref (ad r' a)
  | (_, r', _) => va_rf ((fP k).map (ad r'))
def xfs (ad : Nat → Nat → Nat) (r i : Nat) (fI : Nat → Int32) (fL : Nat → Int64) (fP : Nat → Option Nat) : List Value := (List.range (xreg r).2.2.2.length).map fun k => xfv ad i fI fL fP k (xslot r k)
/-- a thing's class -/
def xcls (σ : xS) (r i : Nat) : Nat := if r = 16 then (rC σ).getD i 0 else (xreg r).2.1
def xcellF (Γ : xΓ) (ad : Nat → Nat → Nat) (r i c : Nat) (fI : Nat → Int32) (fL : Nat → Int64) (fP : Nat → Option Nat) : va_E := match xreg r with
  | (0, _) => .inr (c, xfs ad r i fI fL fP)
  | (1, n, _) => .inl (Γ.2.1, n, .inl fI)
  | (2, n, _) => .inl (Γ.2.2.1, n, .inr (.inl fL))
  | (3, n, _) => .inl (Γ.2.2.2.1, n, .inr (.inr (.inr (.inr (fun k => (fP k).map (ad (xtgt r)))))))
  | (_, n, _) => .inl (Γ.2.2.2.2, n, .inr (.inr (.inr (.inr (fun k => if k < n then some (ad (xtgt r) k) else none)))))
def xcell (Γ : xΓ) (ad : Nat → Nat → Nat) (σ : xS) (r i : Nat) : va_E := xcellF Γ ad r i (xcls σ r i) (rI σ r i) (rL σ r i) (rP σ r i)
def xns : List (Nat × Nat) := (List.range 36).flatMap fun r => if r = 16 then [] else (List.range (xreg r).2.2.1).map fun i => (r, i)
def xnm (σ : xS) : List (Nat × Nat) := xns ++ (List.range (rC σ).length).map fun i => (16, i)
def xW (Γ : xΓ) (ad : Nat → Nat → Nat) (σ : xS) : va_W := (xnm σ).map fun n => (ad n.1 n.2, xcell Γ ad σ n.1 n.2)
theorem xnm_mem {σ : xS} {r i : Nat} (h1 : r < 36) (h2 : i < xcnt σ r) : (r, i) ∈ xnm σ := by
  unfold xnm xns
  unfold xcnt at h2
  by_cases h : r = 16
  · subst h
    simp at h2
    exact List.mem_append_right _ (List.mem_map.mpr ⟨i, List.mem_range.mpr h2, rfl⟩)
  · rw [if_neg h, if_neg (by omega)] at h2
    refine List.mem_append_left _ (List.mem_flatMap.mpr ⟨r, List.mem_range.mpr h1, ?_⟩)
    rw [if_neg h]
    exact List.mem_map.mpr ⟨i, List.mem_range.mpr h2, rfl⟩
theorem xnm_of {σ : xS} {r i : Nat} (h : (r, i) ∈ xnm σ) : r < 36 ∧ i < xcnt σ r := by
  unfold xnm xns at h
  rcases List.mem_append.mp h with h | h
  · obtain ⟨r', hr, h⟩ := List.mem_flatMap.mp h
    have hr := List.mem_range.mp hr
    by_cases h16 : r' = 16
    · simp [h16] at h
    · rw [if_neg h16] at h
      obtain ⟨j, hj, e⟩ := List.mem_map.mp h
      cases e
      refine ⟨hr, ?_⟩
      unfold xcnt
      rw [if_neg h16, if_neg (by omega)]
      exact List.mem_range.mp hj
  · obtain ⟨j, hj, e⟩ := List.mem_map.mp h
    cases e
    refine ⟨by omega, ?_⟩
    unfold xcnt
    rw [if_pos rfl]
    exact List.mem_range.mp hj
theorem xW_get (Γ : xΓ) (ad : Nat → Nat → Nat) {σ : xS} {r i : Nat} (h1 : r < 36) (h2 : i < xcnt σ r) : ∃ q : Nat, (xW Γ ad σ)[q]? = some (ad r i, xcell Γ ad σ r i) ∧ (xnm σ)[q]? = some (r, i) := by
  obtain ⟨q, hq⟩ := List.getElem?_of_mem (xnm_mem h1 h2)
  exact ⟨q, by unfold xW; rw [List.getElem?_map, hq]; rfl, hq⟩
theorem xW_set {Γ : xΓ} {ad : Nat → Nat → Nat} {σ σ' : xS} {A : Nat → Prop} {q r i : Nat} (hn : xnm σ' = xnm σ) (hD : va_D A (xW Γ ad σ)) (hq : (xnm σ)[q]? = some (r, i)) (hc : ∀ r' i', ¬ (r' = r ∧ i' = i) → xcell Γ ad σ' r' i' = xcell Γ ad σ r' i') : (xW Γ ad σ).set q (ad r i, xcell Γ ad σ' r i) = xW Γ ad σ' := by
  have hl : q < (xW Γ ad σ).length := by
    have := (List.getElem?_eq_some_iff.mp hq).1
    simpa [xW] using this
  have hq0 : (xW Γ ad σ)[q]? = some (ad r i, xcell Γ ad σ r i) := by unfold xW; rw [List.getElem?_map, hq]; rfl
  apply List.ext_getElem?
  intro k
  by_cases hk : k = q
  · subst hk
    rw [List.getElem?_set_self hl]
    unfold xW
    rw [hn, List.getElem?_map, hq]
    rfl
  · rw [List.getElem?_set_ne (Ne.symm hk)]
    cases hx : (xnm σ)[k]? with
    | none =>
      unfold xW
      rw [hn, List.getElem?_map, List.getElem?_map, hx]
      rfl
    | some n =>
      obtain ⟨r', i'⟩ := n
      have hk0 : (xW Γ ad σ)[k]? = some (ad r' i', xcell Γ ad σ r' i') := by unfold xW; rw [List.getElem?_map, hx]; rfl
      have hk1 : (xW Γ ad σ')[k]? = some (ad r' i', xcell Γ ad σ' r' i') := by unfold xW; rw [hn, List.getElem?_map, hx]; rfl
      rw [hk0, hk1]
      have hne : ¬ (r' = r ∧ i' = i) := by
        rintro ⟨rfl, rfl⟩
        exact hk (hD.1 k q _ _ hk0 hq0 rfl)
      rw [hc r' i' hne]
/-- addresses that agree on the things that there are -/
def xagr (σ : xS) (ad ad' : Nat → Nat → Nat) : Prop := ∀ r i, i < xcnt σ r → ad' r i = ad r i
/-- references lead to things that there are; carriers are of the carriers' classes -/
def xwf (σ : xS) : Prop := (∀ r i k j, (xreg r).1 = 3 → rP σ r i k = some j → j < xcnt σ (xtgt r)) ∧ (∀ r i k j, (xreg r).1 = 0 → (xslot r k).1 = 3 → rP σ r i k = some j → j < xcnt σ (xslot r k).2.1) ∧ ∀ c ∈ rC σ, c ∈ [0, 1, 3, 4, 5, 6, 8, 9]
theorem xtv_agr {σ : xS} {ad ad' : Nat → Nat → Nat} (h : xagr σ ad ad') {v : xV} (hv : xok σ v) : xtv ad' v = xtv ad v := by
  rcases v with x | x | ⟨r, o⟩
  · rfl
  · rfl
  · cases o with
    | none => rfl
    | some i =>
      show va_rf (some (ad' r i)) = va_rf (some (ad r i))
      rw [h r i hv]
/-- the table of regions: fixed references lead to things that there are -/
def xregOk : Bool := (List.range 36).all fun r =>
  (match (xreg r).1 with
   | 0 => (List.range (xreg r).2.2.2.length).all fun k => match xslot r k with
      | (2, r', _) => !Nat.beq r 16 && !Nat.beq r' 16 && Nat.blt r' 36 && Nat.ble (xreg r).2.2.1 (xreg r').2.2.1
      | (5, r', a) => !Nat.beq r' 16 && Nat.blt r' 36 && Nat.blt a (xreg r').2.2.1
      | (3, r', _) => Nat.beq r' 16 || (Nat.blt r' 36)
      | (0, _, _) => true
      | (1, _, _) => true
      | (4, _, _) => true
      | _ => false
   | 3 => Nat.beq (xtgt r) 16
   | 4 => Nat.beq (xtgt r) 14 && Nat.ble (xreg r).2.1 (xreg 14).2.2.1
   | 1 => true
   | 2 => true
   | _ => false)
theorem xregOk_ok : xregOk = true := by decide +kernel
theorem xreg_big {r : Nat} (h : ¬ r < 37) : xreg r = (9, 0, 0, []) := by
  have : xReg.length = 37 := by decide +kernel
  simp [xreg, List.getD, List.getElem?_eq_none (by omega : xReg.length ≤ r)]
theorem xfix {r k r' a : Nat} (hr : r < 36) (h0 : (xreg r).1 = 0) (hk : k < (xreg r).2.2.2.length) (hs : xslot r k = (2, r', a)) : r ≠ 16 ∧ r' ≠ 16 ∧ r' < 36 ∧ (xreg r).2.2.1 ≤ (xreg r').2.2.1 := by
  have h := List.all_eq_true.mp xregOk_ok r (List.mem_range.mpr hr)
  rw [h0] at h
  have h := List.all_eq_true.mp h k (List.mem_range.mpr hk)
  rw [hs] at h
  simp only [Bool.and_eq_true, Bool.not_eq_true'] at h
  obtain ⟨⟨⟨h1, h2⟩, h3⟩, h4⟩ := h
  exact ⟨fun e => by rw [e] at h1; exact absurd h1 (by decide), fun e => by rw [e] at h2; exact absurd h2 (by decide), Nat.le_of_ble_eq_true h3, Nat.le_of_ble_eq_true h4⟩
theorem xfix5 {r k r' a : Nat} (hr : r < 36) (h0 : (xreg r).1 = 0) (hk : k < (xreg r).2.2.2.length) (hs : xslot r k = (5, r', a)) : r' ≠ 16 ∧ r' < 36 ∧ a < (xreg r').2.2.1 := by
  have h := List.all_eq_true.mp xregOk_ok r (List.mem_range.mpr hr)
  rw [h0] at h
  have h := List.all_eq_true.mp h k (List.mem_range.mpr hk)
  rw [hs] at h
  simp only [Bool.and_eq_true, Bool.not_eq_true'] at h
  obtain ⟨⟨h2, h3⟩, h4⟩ := h
  exact ⟨fun e => by rw [e] at h2; exact absurd h2 (by decide), Nat.le_of_ble_eq_true h3, Nat.le_of_ble_eq_true h4⟩
theorem xtag3 {r : Nat} (hr : r < 36) (h : (xreg r).1 = 3) : xtgt r = 16 := by
  have h1 := List.all_eq_true.mp xregOk_ok r (List.mem_range.mpr hr)
  rw [h] at h1
  exact Nat.eq_of_beq_eq_true h1
theorem xtag4 {r : Nat} (hr : r < 36) (h : (xreg r).1 = 4) : xtgt r = 14 ∧ (xreg r).2.1 ≤ (xreg 14).2.2.1 := by
  have h1 := List.all_eq_true.mp xregOk_ok r (List.mem_range.mpr hr)
  rw [h] at h1
  simp only [Bool.and_eq_true] at h1
  exact ⟨Nat.eq_of_beq_eq_true h1.1, Nat.le_of_ble_eq_true h1.2⟩
theorem xtags {r : Nat} (hr : r < 36) : (xreg r).1 = 0 ∨ (xreg r).1 = 1 ∨ (xreg r).1 = 2 ∨ (xreg r).1 = 3 ∨ (xreg r).1 = 4 := by
  have h1 := List.all_eq_true.mp xregOk_ok r (List.mem_range.mpr hr)
  match h : (xreg r).1, h1 with
  | 0, _ => exact Or.inl rfl
  | 1, _ => exact Or.inr (Or.inl rfl)
  | 2, _ => exact Or.inr (Or.inr (Or.inl rfl))
  | 3, _ => exact Or.inr (Or.inr (Or.inr (Or.inl rfl)))
  | 4, _ => exact Or.inr (Or.inr (Or.inr (Or.inr rfl)))
theorem xcell_same {Γ : xΓ} {ad : Nat → Nat → Nat} {σ σ' : xS} {r i : Nat} (hC : xcls σ' r i = xcls σ r i) (hI : rI σ' r i = rI σ r i) (hL : rL σ' r i = rL σ r i) (hP : rP σ' r i = rP σ r i) : xcell Γ ad σ' r i = xcell Γ ad σ r i := by
  unfold xcell
  rw [hC, hI, hL, hP]
/-- the same cell, the addresses known otherwise -/
theorem xcell_agr {Γ : xΓ} {ad ad' : Nat → Nat → Nat} {σ : xS} {r i : Nat} (hr : r < 36) (hi : i < xcnt σ r) (hw : xwf σ) (ha : xagr σ ad ad') : xcell Γ ad' σ r i = xcell Γ ad σ r i := by
  have hmap : ∀ (k t' : Nat), (∀ j, rP σ r i k = some j → j < xcnt σ t') → (rP σ r i k).map (ad' t') = (rP σ r i k).map (ad t') := by
    intro k t' hv
    cases hp : rP σ r i k with
    | none => rfl
    | some j => show some (ad' t' j) = some (ad t' j); rw [ha t' j (hv j hp)]
  rcases hx : xreg r with ⟨t, n, cn, sl⟩
  unfold xcell xcellF
  rcases xtags hr with h | h | h | h | h
  · rw [hx] at h
    cases h
    rw [hx]
    dsimp only
    refine congrArg Sum.inr (congrArg (Prod.mk _) ?_)
    unfold xfs
    apply List.map_congr_left
    intro k hk
    have hk := List.mem_range.mp hk
    rcases hs : xslot r k with ⟨a, b, d⟩
    unfold xfv
    match a, hs with
    | 0, hs => rfl
    | 1, hs => rfl
    | 2, hs =>
      obtain ⟨g1, g2, g3, g4⟩ := xfix hr (by rw [hx]) hk hs
      show Value.ref _ = Value.ref _
      rw [ha]
      unfold xcnt at hi ⊢
      rw [if_neg g1, if_neg (by omega)] at hi
      rw [if_neg g2, if_neg (by omega)]
      omega
    | 3, hs =>
      show va_rf _ = va_rf _
      rw [hmap k b]
      intro j hj
      have := hw.2.1 r i k j (by rw [hx]) (by rw [hs]) hj
      rwa [hs] at this
    | 4, hs => rfl
    | 5, hs =>
      obtain ⟨g2, g3, g4⟩ := xfix5 hr (by rw [hx]) hk hs
      show Value.ref _ = Value.ref _
      rw [ha]
      unfold xcnt
      rw [if_neg g2, if_neg (by omega)]
      exact g4
    | a + 6, hs =>
      exfalso
      have h1 := List.all_eq_true.mp xregOk_ok r (List.mem_range.mpr hr)
      rw [hx] at h1 hk
      have h1 := List.all_eq_true.mp h1 k (List.mem_range.mpr hk)
      rw [hs] at h1
      cases h1
  · rw [hx] at h
    cases h
    rw [hx]
    rfl
  · rw [hx] at h
    cases h
    rw [hx]
    rfl
  · have h3 := h
    rw [hx] at h
    cases h
    rw [hx]
    dsimp only
    have e : (fun k => (rP σ r i k).map (ad' (xtgt r))) = (fun k => (rP σ r i k).map (ad (xtgt r))) := by
      funext k
      exact hmap k (xtgt r) (fun j hj => hw.1 r i k j h3 hj)
    exact congrArg (fun z => (Sum.inl (Γ.2.2.2.1, n, .inr (.inr (.inr (.inr z)))) : va_E)) e
  · have h3 := xtag4 hr h
    rw [hx] at h
    cases h
    rw [hx]
    dsimp only
    have e : (fun k => if k < n then some (ad' (xtgt r) k) else none) = (fun k => if k < n then some (ad (xtgt r) k) else none) := by
      funext k
      by_cases hk : k < n
      · rw [if_pos hk, if_pos hk, ha]
        rw [h3.1]
        have := h3.2
        rw [hx] at this
        unfold xcnt
        rw [if_neg (by omega), if_neg (by omega)]
        dsimp only at this
        omega
      · rw [if_neg hk, if_neg hk]
    exact congrArg (fun z => (Sum.inl (Γ.2.2.2.2, n, .inr (.inr (.inr (.inr z)))) : va_E)) e
theorem xW_agr {Γ : xΓ} {ad ad' : Nat → Nat → Nat} {σ : xS} (hw : xwf σ) (ha : xagr σ ad ad') : xW Γ ad' σ = xW Γ ad σ := by
  unfold xW
  apply List.map_congr_left
  rintro ⟨r, i⟩ hm
  obtain ⟨h1, h2⟩ := xnm_of hm
  dsimp only
  rw [ha r i h2, xcell_agr h1 h2 hw ha]
/-! ===== reads of writes ===== -/
theorem rI_wR (σ : xS) (r i : Nat) (f : Nat → Int32) (r' i' : Nat) : rI (wR σ r i f) r' i' = if r' = r ∧ i' = i then f else rI σ r' i' := by
  unfold rI wR
  by_cases h : r' = r ∧ i' = i <;> simp [h]
theorem rL_wR (σ : xS) (r i : Nat) (f : Nat → Int32) : rL (wR σ r i f) = rL σ := rfl
theorem rP_wR (σ : xS) (r i : Nat) (f : Nat → Int32) : rP (wR σ r i f) = rP σ := rfl
theorem rC_wR (σ : xS) (r i : Nat) (f : Nat → Int32) : rC (wR σ r i f) = rC σ := rfl
theorem rI_wL (σ : xS) (r i k : Nat) (v : Int64) : rI (wL σ r i k v) = rI σ := rfl
theorem rP_wL (σ : xS) (r i k : Nat) (v : Int64) : rP (wL σ r i k v) = rP σ := rfl
theorem rC_wL (σ : xS) (r i k : Nat) (v : Int64) : rC (wL σ r i k v) = rC σ := rfl
theorem rL_wL (σ : xS) (r i k : Nat) (v : Int64) (r' i' : Nat) : rL (wL σ r i k v) r' i' = if r' = r ∧ i' = i then (fun k' => if k' = k then v else rL σ r i k') else rL σ r' i' := by
  unfold rL wL
  by_cases h : r' = r ∧ i' = i <;> simp [h]
theorem rI_wP (σ : xS) (r i k : Nat) (v : Option Nat) : rI (wP σ r i k v) = rI σ := rfl
theorem rL_wP (σ : xS) (r i k : Nat) (v : Option Nat) : rL (wP σ r i k v) = rL σ := rfl
theorem rC_wP (σ : xS) (r i k : Nat) (v : Option Nat) : rC (wP σ r i k v) = rC σ := rfl
theorem rP_wP (σ : xS) (r i k : Nat) (v : Option Nat) (r' i' : Nat) : rP (wP σ r i k v) r' i' = if r' = r ∧ i' = i then (fun k' => if k' = k then v else rP σ r i k') else rP σ r' i' := by
  unfold rP wP
  by_cases h : r' = r ∧ i' = i <;> simp [h]
theorem xnm_C {σ σ' : xS} (h : rC σ' = rC σ) : xnm σ' = xnm σ := by unfold xnm; rw [h]
theorem xcls_C {σ σ' : xS} (h : rC σ' = rC σ) (r i : Nat) : xcls σ' r i = xcls σ r i := by unfold xcls; rw [h]
theorem xcnt_C {σ σ' : xS} (h : rC σ' = rC σ) (r : Nat) : xcnt σ' r = xcnt σ r := by unfold xcnt; rw [h]
theorem xok_C {σ σ' : xS} (h : rC σ' = rC σ) (v : xV) : xok σ' v ↔ xok σ v := by
  rcases v with x | x | ⟨r, o⟩
  · exact Iff.rfl
  · exact Iff.rfl
  · cases o with
    | none => exact Iff.rfl
    | some i => show i < xcnt σ' r ↔ i < xcnt σ r; rw [xcnt_C h]

/-! ===== locals ===== -/
def xlv (ad : Nat → Nat → Nat) : Nat → xL → List (Nat × Value)
  | _, [] => []
  | n, none :: l => xlv ad (n + 1) l
  | n, some v :: l => (n, xtv ad v) :: xlv ad (n + 1) l
theorem xlv_mem {ad : Nat → Nat → Nat} {q : Nat × Value} : ∀ {l : xL} {n : Nat}, q ∈ xlv ad n l ↔ ∃ k v, xget l k = some v ∧ q = (n + k, xtv ad v)
  | [], n => by
    constructor
    · intro h; cases h
    · rintro ⟨k, v, h, -⟩; cases h
  | none :: l, n => by
    unfold xlv
    rw [xlv_mem]
    constructor
    · rintro ⟨k, v, h, e⟩
      exact ⟨k + 1, v, h, by rw [e]; congr 1; omega⟩
    · rintro ⟨k, v, h, e⟩
      cases k with
      | zero => cases h
      | succ k => exact ⟨k, v, h, by rw [e]; congr 1; omega⟩
  | some w :: l, n => by
    unfold xlv
    rw [List.mem_cons, xlv_mem]
    constructor
    · rintro (e | ⟨k, v, h, e⟩)
      · exact ⟨0, w, rfl, e⟩
      · exact ⟨k + 1, v, h, by rw [e]; congr 1; omega⟩
    · rintro ⟨k, v, h, e⟩
      cases k with
      | zero => cases h; exact Or.inl e
      | succ k => exact Or.inr ⟨k, v, h, by rw [e]; congr 1; omega⟩
theorem xlv_get {ad : Nat → Nat → Nat} {ls : Array Slot} {nL k : Nat} {l : xL} {v : xV} (h : lv_has ls nL (xlv ad 0 l)) (hk : xget l k = some v) : ls[k]? = some (.val (xtv ad v)) := by
  have := h.2.2 (k, xtv ad v) (xlv_mem.mpr ⟨k, v, hk, by simp⟩)
  exact this
theorem lv_less {ls : Array Slot} {nL : Nat} {l l' : List (Nat × Value)} (h : lv_has ls nL l) (hs : ∀ q ∈ l', q ∈ l) : lv_has ls nL l' := ⟨h.1, h.2.1, fun q hq => h.2.2 q (hs q hq)⟩
theorem xget_lt : ∀ {l : xL} {k : Nat} {v : xV}, xget l k = some v → k < l.length
  | [], _, _, h => by cases h
  | _ :: l, 0, _, _ => Nat.zero_lt_succ _
  | _ :: l, k + 1, v, h => Nat.succ_lt_succ (xget_lt (l := l) h)
theorem xset_len : ∀ (l : xL) (i : Nat) (v : Option xV), (xset l i v).length = l.length
  | [], _, _ => rfl
  | _ :: _, 0, _ => rfl
  | a :: l, i + 1, v => congrArg (· + 1) (xset_len l i v)
theorem xget_xset : ∀ (l : xL) (i : Nat) (v : Option xV) (k : Nat), xget (xset l i v) k = if k = i ∧ i < l.length then v else xget l k
  | [], i, v, k => by simp [xset]
  | a :: l, 0, v, 0 => by simp [xset, xget]
  | a :: l, 0, v, k + 1 => by simp [xset, xget]
  | a :: l, i + 1, v, 0 => by simp [xset, xget]
  | a :: l, i + 1, v, k + 1 => by
    have := xget_xset l i v k
    simpa [xset, xget] using this
theorem xkill_len : ∀ (ks : List Nat) (l : xL), (xkill ks l).length = l.length
  | [], _ => rfl
  | k :: ks, l => (xkill_len ks _).trans (xset_len l k none)
theorem xkill_get : ∀ (ks : List Nat) (l : xL) (k : Nat) (v : xV), xget (xkill ks l) k = some v → xget l k = some v
  | [], _, _, _, h => h
  | j :: ks, l, k, v, h => by
    have h1 := xkill_get ks _ k v h
    rw [xget_xset] at h1
    split at h1
    · cases h1
    · exact h1
theorem xclr_len (l : xL) (i : Nat) : (xclr l i).length = l.length := by
  cases i with
  | zero => rfl
  | succ j =>
    simp only [xclr]
    split
    · exact xset_len _ _ _
    · rfl
theorem xclr_get {l : xL} {i k : Nat} {v : xV} (h : xget (xclr l i) k = some v) : xget l k = some v ∧ ¬ (k + 1 = i ∧ ∃ x, v = .inr (.inl x)) := by
  cases i with
  | zero => exact ⟨h, fun ⟨e, _⟩ => by omega⟩
  | succ j =>
    simp only [xclr] at h
    split at h
    · rename_i x hx
      rw [xget_xset] at h
      split at h
      · cases h
      · rename_i hn
        refine ⟨h, fun ⟨e, _⟩ => hn ⟨by omega, xget_lt hx⟩⟩
    · rename_i hx
      refine ⟨h, fun ⟨e, x, hv⟩ => ?_⟩
      have e : k = j := by omega
      subst e
      subst hv
      exact hx x h
theorem xput_len (l : xL) (i : Nat) (v : xV) : (xput l i v).length = l.length := (xset_len _ _ _).trans (xclr_len l i)
theorem xput_get {l : xL} {i k : Nat} {v w : xV} (h : xget (xput l i v) k = some w) : (k = i ∧ w = v) ∨ (k ≠ i ∧ xget l k = some w ∧ ¬ (k + 1 = i ∧ ∃ x, w = .inr (.inl x))) := by
  unfold xput at h
  rw [xget_xset] at h
  split at h
  · rename_i e
    exact Or.inl ⟨e.1, (Option.some.inj h).symm⟩
  · rename_i hn
    obtain ⟨h1, h2⟩ := xclr_get h
    by_cases hk : k = i
    · exact absurd ⟨hk, by subst hk; have := xget_lt h1; rw [xclr_len]; exact this⟩ hn
    · exact Or.inr ⟨hk, h1, h2⟩
theorem xcat_tv (ad : Nat → Nat → Nat) (v : xV) : (xtv ad v).category = xcat v := by
  rcases v with x | x | ⟨r, o⟩
  · rfl
  · rfl
  · cases o <;> rfl
theorem xput_has {ad : Nat → Nat → Nat} {ls : Array Slot} {nL i : Nat} {l : xL} {v : xV} (h : lv_has ls nL ((i, xtv ad v) :: (xlv ad 0 l).filter (fun q => !(q.1 == i) && !(q.1 + 1 == i && q.2.category == 2)))) : lv_has ls nL (xlv ad 0 (xput l i v)) := by
  refine lv_less h fun q hq => ?_
  obtain ⟨k, w, hk, e⟩ := xlv_mem.mp hq
  rw [Nat.zero_add] at e
  subst e
  rcases xput_get hk with ⟨h1, h2⟩ | ⟨h1, h2, h3⟩
  · subst h1; subst h2
    exact List.mem_cons_self
  · refine List.mem_cons_of_mem _ (List.mem_filter.mpr ⟨xlv_mem.mpr ⟨k, w, h2, by rw [Nat.zero_add]⟩, ?_⟩)
    simp only [Bool.and_eq_true, Bool.not_eq_true', beq_eq_false_iff_ne, Bool.and_eq_false_imp, beq_iff_eq, ne_eq]
    refine ⟨h1, fun e hc => h3 ⟨e, ?_⟩⟩
    rw [xcat_tv] at hc
    rcases w with x | x | x
    · cases hc
    · exact ⟨x, rfl⟩
    · cases hc
theorem xput_has2 {ad : Nat → Nat → Nat} {ls : Array Slot} {nL i : Nat} {l : xL} {x : Int64} (h : lv_has ls nL ((i, Value.long x) :: (xlv ad 0 l).filter (fun q => !(q.1 == i) && (!(q.1 == i + 1) && !(q.1 + 1 == i && q.2.category == 2))))) : lv_has ls nL (xlv ad 0 (xset (xput l i (.inr (.inl x))) (i + 1) none)) := by
  refine lv_less h fun q hq => ?_
  obtain ⟨k, w, hk, e⟩ := xlv_mem.mp hq
  rw [Nat.zero_add] at e
  subst e
  rw [xget_xset] at hk
  split at hk
  · cases hk
  · rename_i hn
    have hk1 : k ≠ i + 1 := fun e => hn ⟨e, by subst e; have := xget_lt hk; exact this⟩
    rcases xput_get hk with ⟨h1, h2⟩ | ⟨h1, h2, h3⟩
    · subst h1; subst h2
      exact List.mem_cons_self
    · refine List.mem_cons_of_mem _ (List.mem_filter.mpr ⟨xlv_mem.mpr ⟨k, w, h2, by rw [Nat.zero_add]⟩, ?_⟩)
      simp only [Bool.and_eq_true, Bool.not_eq_true', beq_eq_false_iff_ne, Bool.and_eq_false_imp, beq_iff_eq, ne_eq]
      refine ⟨h1, hk1, fun e hc => h3 ⟨e, ?_⟩⟩
      rw [xcat_tv] at hc
      rcases w with x | x | x
      · cases hc
      · exact ⟨x, rfl⟩
      · cases hc
