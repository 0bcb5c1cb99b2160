/-! STATES: what a write leaves; lands as numbers -/
def cN (σ : xS) : Nat := σ.2.2.2.2.1
def cS (σ : xS) : Nat := σ.2.2.2.2.2
theorem w_I1 {σ : xS} {r i k : Nat} {v : Int32} : rI (wI σ r i k v) r i = fun k' => if k' = k then v else rI σ r i k' := by
  funext k'
  show (if r = r ∧ i = i then (fun k' => if k' = k then v else σ.1 r i k') else σ.1 r i) k' = _
  rw [if_pos ⟨rfl, rfl⟩]
  rfl
theorem w_I2 {σ : xS} {r i k r' i' : Nat} {v : Int32} (h : r' ≠ r) : rI (wI σ r i k v) r' i' = rI σ r' i' := by
  funext k'
  show (if r' = r ∧ i' = i then (fun k' => if k' = k then v else σ.1 r i k') else σ.1 r' i') k' = _
  rw [if_neg (fun e => h e.1)]
  rfl
theorem w_I3 {σ : xS} {r i k r' i' : Nat} {v : Int32} (h : i' ≠ i) : rI (wI σ r i k v) r' i' = rI σ r' i' := by
  funext k'
  show (if r' = r ∧ i' = i then (fun k' => if k' = k then v else σ.1 r i k') else σ.1 r' i') k' = _
  rw [if_neg (fun e => h e.2)]
  rfl
theorem w_Is {σ : xS} {r i k : Nat} {v : Int32} : rI (wI σ r i k v) r i k = v := by rw [w_I1]; exact if_pos rfl
theorem w_In {σ : xS} {r i k k' : Nat} {v : Int32} (h : k' ≠ k) : rI (wI σ r i k v) r i k' = rI σ r i k' := by rw [w_I1]; exact if_neg h
theorem w_IL {σ : xS} {r i k : Nat} {v : Int32} : rL (wI σ r i k v) = rL σ := rfl
theorem w_IP {σ : xS} {r i k : Nat} {v : Int32} : rP (wI σ r i k v) = rP σ := rfl
theorem w_IC {σ : xS} {r i k : Nat} {v : Int32} : rC (wI σ r i k v) = rC σ := rfl
theorem w_LI {σ : xS} {r i k : Nat} {v : Int64} : rI (wL σ r i k v) = rI σ := rfl
theorem w_LP {σ : xS} {r i k : Nat} {v : Int64} : rP (wL σ r i k v) = rP σ := rfl
theorem w_LC {σ : xS} {r i k : Nat} {v : Int64} : rC (wL σ r i k v) = rC σ := rfl
theorem w_L1 {σ : xS} {r i k : Nat} {v : Int64} : rL (wL σ r i k v) r i = fun k' => if k' = k then v else rL σ r i k' := by
  funext k'
  show (if r = r ∧ i = i then (fun k' => if k' = k then v else σ.2.1 r i k') else σ.2.1 r i) k' = _
  rw [if_pos ⟨rfl, rfl⟩]
  rfl
theorem w_L2 {σ : xS} {r i k r' i' : Nat} {v : Int64} (h : ¬ (r' = r ∧ i' = i)) : rL (wL σ r i k v) r' i' = rL σ r' i' := by
  funext k'
  show (if r' = r ∧ i' = i then (fun k' => if k' = k then v else σ.2.1 r i k') else σ.2.1 r' i') k' = _
  rw [if_neg h]
  rfl
theorem w_PI {σ : xS} {r i k : Nat} {v : Option Nat} : rI (wP σ r i k v) = rI σ := rfl
theorem w_PL {σ : xS} {r i k : Nat} {v : Option Nat} : rL (wP σ r i k v) = rL σ := rfl
theorem w_PC {σ : xS} {r i k : Nat} {v : Option Nat} : rC (wP σ r i k v) = rC σ := rfl
theorem w_P1 {σ : xS} {r i k : Nat} {v : Option Nat} : rP (wP σ r i k v) r i = fun k' => if k' = k then v else rP σ r i k' := by
  funext k'
  show (if r = r ∧ i = i then (fun k' => if k' = k then v else σ.2.2.1 r i k') else σ.2.2.1 r i) k' = _
  rw [if_pos ⟨rfl, rfl⟩]
  rfl
theorem w_P2 {σ : xS} {r i k r' i' : Nat} {v : Option Nat} (h : ¬ (r' = r ∧ i' = i)) : rP (wP σ r i k v) r' i' = rP σ r' i' := by
  funext k'
  show (if r' = r ∧ i' = i then (fun k' => if k' = k then v else σ.2.2.1 r i k') else σ.2.2.1 r' i') k' = _
  rw [if_neg h]
  rfl
/-- nothing else changes than at the places of S; the carriers and the counts stay -/
def xF (S : Nat → Nat → Nat → Prop) (σ σ' : xS) : Prop := (∀ r i k, ¬ S r i k → rI σ' r i k = rI σ r i k) ∧ (∀ r i k, ¬ S r i k → rL σ' r i k = rL σ r i k) ∧ (∀ r i k, ¬ S r i k → rP σ' r i k = rP σ r i k) ∧ rC σ' = rC σ ∧ cN σ' = cN σ ∧ cS σ' = cS σ
theorem xF_refl {S : Nat → Nat → Nat → Prop} (σ : xS) : xF S σ σ := ⟨fun _ _ _ _ => rfl, fun _ _ _ _ => rfl, fun _ _ _ _ => rfl, rfl, rfl, rfl⟩
theorem xF_trans {S : Nat → Nat → Nat → Prop} {σ σ' σ'' : xS} (h : xF S σ σ') (g : xF S σ' σ'') : xF S σ σ'' :=
  ⟨fun r i k n => (g.1 r i k n).trans (h.1 r i k n), fun r i k n => (g.2.1 r i k n).trans (h.2.1 r i k n), fun r i k n => (g.2.2.1 r i k n).trans (h.2.2.1 r i k n), g.2.2.2.1.trans h.2.2.2.1, g.2.2.2.2.1.trans h.2.2.2.2.1, g.2.2.2.2.2.trans h.2.2.2.2.2⟩
theorem xF_le {S S' : Nat → Nat → Nat → Prop} {σ σ' : xS} (h : xF S σ σ') (g : ∀ r i k, S r i k → S' r i k) : xF S' σ σ' :=
  ⟨fun r i k n => h.1 r i k (fun s => n (g r i k s)), fun r i k n => h.2.1 r i k (fun s => n (g r i k s)), fun r i k n => h.2.2.1 r i k (fun s => n (g r i k s)), h.2.2.2⟩
theorem xF_wI {S : Nat → Nat → Nat → Prop} {σ σ' : xS} (h : xF S σ σ') {r i k : Nat} (v : Int32) (s : S r i k) : xF S σ (wI σ' r i k v) := by
  refine ⟨fun r' i' k' n => ?_, h.2.1, h.2.2.1, h.2.2.2⟩
  rw [← h.1 r' i' k' n]
  by_cases a : r' = r
  · by_cases b : i' = i
    · subst a; subst b
      exact w_In (fun e => n (by rw [e]; exact s))
    · rw [w_I3 b]
  · rw [w_I2 a]
theorem xF_wL {S : Nat → Nat → Nat → Prop} {σ σ' : xS} (h : xF S σ σ') {r i k : Nat} (v : Int64) (s : S r i k) : xF S σ (wL σ' r i k v) := by
  refine ⟨h.1, fun r' i' k' n => ?_, h.2.2.1, h.2.2.2⟩
  rw [← h.2.1 r' i' k' n]
  by_cases a : r' = r ∧ i' = i
  · obtain ⟨a, b⟩ := a
    subst a; subst b
    rw [w_L1]
    exact if_neg (fun e => n (by rw [e]; exact s))
  · rw [w_L2 a]
theorem xF_wP {S : Nat → Nat → Nat → Prop} {σ σ' : xS} (h : xF S σ σ') {r i k : Nat} (v : Option Nat) (s : S r i k) : xF S σ (wP σ' r i k v) := by
  refine ⟨h.1, h.2.1, fun r' i' k' n => ?_, h.2.2.2⟩
  rw [← h.2.2.1 r' i' k' n]
  by_cases a : r' = r ∧ i' = i
  · obtain ⟨a, b⟩ := a
    subst a; subst b
    rw [w_P1]
    exact if_neg (fun e => n (by rw [e]; exact s))
  · rw [w_P2 a]
theorem xF_wR {S : Nat → Nat → Nat → Prop} {σ σ' : xS} (h : xF S σ σ') {r i : Nat} (f : Nat → Int32) (s : ∀ k, ¬ S r i k → f k = rI σ' r i k) : xF S σ (wR σ' r i f) := by
  refine ⟨fun r' i' k' n => ?_, h.2.1, h.2.2.1, h.2.2.2⟩
  rw [← h.1 r' i' k' n]
  show (if r' = r ∧ i' = i then f else σ'.1 r' i') k' = _
  by_cases a : r' = r ∧ i' = i
  · obtain ⟨a, b⟩ := a
    subst a; subst b
    rw [if_pos ⟨rfl, rfl⟩]
    exact s k' n
  · rw [if_neg a]; rfl
theorem xF_I {S : Nat → Nat → Nat → Prop} {σ σ' : xS} (h : xF S σ σ') {r i : Nat} (n : ∀ k, ¬ S r i k) : rI σ' r i = rI σ r i := funext fun k => h.1 r i k (n k)
theorem xF_L {S : Nat → Nat → Nat → Prop} {σ σ' : xS} (h : xF S σ σ') {r i : Nat} (n : ∀ k, ¬ S r i k) : rL σ' r i = rL σ r i := funext fun k => h.2.1 r i k (n k)
theorem xF_P {S : Nat → Nat → Nat → Prop} {σ σ' : xS} (h : xF S σ σ') {r i : Nat} (n : ∀ k, ¬ S r i k) : rP σ' r i = rP σ r i := funext fun k => h.2.2.1 r i k (n k)
/-- a land as numbers: places, roads, carriers; from, to, miles, nicks; kinds, figures -/
abbrev mX : Type := (Nat × Nat × Nat) × ((Nat → Nat) × (Nat → Nat) × (Nat → Nat) × (Nat → Nat)) × (Nat → Nat) × (Nat → Nat)
def xaP (X : mX) : Nat := X.1.1
def xaR (X : mX) : Nat := X.1.2.1
def xaC (X : mX) : Nat := X.1.2.2
def xaF (X : mX) : Nat → Nat := X.2.1.1
def xaT (X : mX) : Nat → Nat := X.2.1.2.1
def xaM (X : mX) : Nat → Nat := X.2.1.2.2.1
def xaN (X : mX) : Nat → Nat := X.2.1.2.2.2
def xaK (X : mX) : Nat → Nat := X.2.2.1
def xaG (X : mX) : Nat → Nat := X.2.2.2
/-- within bounds, the roads up to n -/
def WX (n : Nat) (X : mX) : Prop := 2 ≤ xaP X ∧ xaP X ≤ 6 ∧ xaR X ≤ 9 ∧ xaC X ≤ 6 ∧ n ≤ 10 ∧ (∀ r, r < n → xaF X r < xaP X ∧ xaT X r < xaP X ∧ xaF X r ≠ xaT X r ∧ 1 ≤ xaM X r ∧ xaM X r ≤ 9 ∧ xaN X r < 16) ∧ (∀ c, c < xaC X → xaK X c < 8 ∧ xaG X c ≤ 9)
/-- the land in a row of the reference -/
def ML (f : Nat → Int32) (n : Nat) (X : mX) : Prop := WX n X ∧ f 0 = nI (xaP X) ∧ f 1 = nI (xaR X) ∧ f 2 = nI (xaC X) ∧ (∀ r, r < n → f (3 + 4 * r) = nI (xaF X r) ∧ f (3 + 4 * r + 1) = nI (xaT X r) ∧ f (3 + 4 * r + 2) = nI (xaM X r) ∧ f (3 + 4 * r + 3) = nI (xaN X r)) ∧ (∀ c, c < xaC X → f (43 + 2 * c) = nI (xaK X c) ∧ f (43 + 2 * c + 1) = nI (xaG X c))
/-- the other end -/
def oth (X : mX) (r p : Nat) : Option Nat := if xaF X r = p then some (xaT X r) else if xaT X r = p then some (xaF X r) else none
def fre (X : mX) (g r : Nat) : Bool := !(xaN X r).testBit g
/-- a number or less than 0 -/
def oI (k : Nat) : Option Nat → Int32
  | some q => nI q
  | none => -nI k
def popf : Nat → Nat → Nat
  | 0, _ => 0
  | k + 1, a => a % 2 + popf k (a / 2)
def ldg (P k f g been : Nat) : Nat := if (k = 3 ∨ k = 6) ∧ been.testBit (f % P) = true then (g + 1) % 4 else g
def ldm (P k f g been : Nat) : Nat := 2 ^ ldg P k f g been ||| (if k = 6 then 2 ^ ((ldg P k f g been + 1) % 4) else 0)
def wtm (k f r m n : Nat) : Nat := if k = 1 ∨ k = 7 then 10 * m else if k = 2 then 10 * m + 4 - popf 6 n else if k = 4 then (if r = f then 100 else 10) else if k = 6 then 10 + m else 10
theorem fre_t {X : mX} {g r : Nat} : (fre X g r = true) = ((xaN X r).testBit g = false) := by
  unfold fre
  cases (xaN X r).testBit g <;> decide
