def leHH : List (Nat × Nat × Nat × Nat) := [(0, 9, 12, 13), (0, 9, 16, 15)]
theorem xW_wN {Γ : xΓ} {ad : Nat → Nat → Nat} {σ : xS} {a b : Nat} : xW Γ ad (wN σ a b) = xW Γ ad σ := rfl
/-- the state behind the law's element, at its cells -/
theorem xE_case (σ : xS) (d i : Int32) : (weOut σ d ∧ xElem σ d i = (1, wN σ 1 8)) ∨ (¬ weOut σ d ∧ weNo σ d i ∧ xElem σ d i = (2, wN σ 1 8)) ∨ (¬ weOut σ d ∧ ¬ weNo σ d i ∧ xElem σ d i = (0, wL (wN σ 1 8) 35 0 0 (rI σ 15 d.toNatClampNeg i.toNatClampNeg).toInt64)) := by
  unfold xElem
  by_cases h1 : weOut σ d
  · exact Or.inl ⟨h1, if_pos h1⟩
  · by_cases h2 : weNo σ d i
    · exact Or.inr (Or.inl ⟨h1, h2, (if_neg h1).trans (if_pos h2)⟩)
    · exact Or.inr (Or.inr ⟨h1, h2, (if_neg h1).trans (if_neg h2)⟩)
theorem xwf_wN {σ : xS} {a b : Nat} (h : xwf σ) : xwf (wN σ a b) := h
theorem xpre_wN {σ : xS} {a b : Nat} : xpre σ (wN σ a b) := ⟨⟨[], (List.append_nil _).symm⟩, Nat.le_add_right _ _, Nat.le_add_right _ _, fun _ => rfl⟩
