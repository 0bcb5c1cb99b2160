/-! NUMBERS: what stands in the machine, as natural numbers -/
noncomputable def bI (p : Prop) : Int32 := xite p (nI 1) (nI 0)
theorem xite_T {α : Type} {a b : α} : xite True a b = a := xite_t trivial
theorem xite_F {α : Type} {a b : α} : xite False a b = b := xite_f (fun h => h)
theorem xite_not {α : Type} {p : Prop} {a b : α} : xite (¬ p) a b = xite p b a := by
  by_cases h : p
  · rw [xite_t h, xite_f (fun n => n h)]
  · rw [xite_f h, xite_t h]
theorem xite_same {α : Type} {p : Prop} {a : α} : xite p a a = a := by
  by_cases h : p
  · rw [xite_t h]
  · rw [xite_f h]
theorem xite_bind {α β : Type} {p : Prop} {a b : Option α} {f : α → Option β} : (xite p a b).bind f = xite p (a.bind f) (b.bind f) := by
  by_cases h : p
  · rw [xite_t h, xite_t h]
  · rw [xite_f h, xite_f h]
theorem obind {α β : Type} {a : α} {f : α → Option β} : (some a).bind f = f a := rfl
theorem bI_t {p : Prop} (h : p) : bI p = nI 1 := xite_t h
theorem bI_f {p : Prop} (h : ¬ p) : bI p = nI 0 := xite_f h
theorem n_0 : nI 0 = 0 := rfl
theorem bI_T : bI True = nI 1 := xite_t trivial
theorem bI_Fa : bI False = nI 0 := xite_f (fun h => h)
theorem bI_0 {p : Prop} : (bI p = 0) = ¬ p := by
  by_cases h : p
  · rw [bI_t h]
    exact propext ⟨fun e => absurd e (by decide), fun n => absurd h n⟩
  · rw [bI_f h]
    exact propext ⟨fun _ => h, fun _ => rfl⟩
theorem bI_n0 {p : Prop} : (¬ bI p = 0) = p := by
  rw [bI_0]
  exact propext Classical.not_not
theorem bI_x {p : Prop} : xb1 (bI p) = bI p := by
  by_cases h : p
  · rw [bI_t h]; decide
  · rw [bI_f h]; decide
theorem xb_0 : xb1 (nI 0) = nI 0 := by decide
theorem xb_1 : xb1 (nI 1) = nI 1 := by decide
theorem xite_bI {p : Prop} {σ : xS} : xite p (some ((nI 1, (0 : Int64), (none : Option Nat)), σ)) (some ((nI 0, 0, none), σ)) = some ((bI p, 0, none), σ) := by
  by_cases h : p
  · rw [xite_t h, bI_t h]
  · rw [xite_f h, bI_f h]
theorem xite_bI' {p : Prop} {σ : xS} : xite p (some ((nI 0, (0 : Int64), (none : Option Nat)), σ)) (some ((nI 1, 0, none), σ)) = some ((bI (¬ p), 0, none), σ) := by
  by_cases h : p
  · rw [xite_t h, bI_f (fun n => n h)]
  · rw [xite_f h, bI_t h]
theorem n_cl {n : Nat} (h : n < 2147483648) : (nI n).toNatClampNeg = n := nI_clamp h
theorem n_lt {a b : Nat} (ha : a < 2147483648) (hb : b < 2147483648) : (nI a < nI b) = (a < b) := propext (nI_ltI ha hb)
theorem n_le {a b : Nat} (ha : a < 2147483648) (hb : b < 2147483648) : (nI a ≤ nI b) = (a ≤ b) := propext (nI_leI ha hb)
theorem n_eq {a b : Nat} (ha : a < 2147483648) (hb : b < 2147483648) : (nI a = nI b) = (a = b) := propext (nI_eq ha hb)
theorem n_lt0 {a : Nat} (ha : a < 2147483648) : (nI a < 0) = False := eq_false (nI_pos ha)
theorem n_0lt {a : Nat} (ha : a < 2147483648) : (0 < nI a) = (0 < a) := by rw [← n_0, n_lt (by omega) ha]
theorem n_le0 {a : Nat} (ha : a < 2147483648) : (nI a ≤ 0) = (a = 0) := by
  rw [← n_0, n_le ha (by omega)]
  exact propext ⟨fun h => by omega, fun h => by omega⟩
theorem n_eq0 {a : Nat} (ha : a < 2147483648) : (nI a = 0) = (a = 0) := by rw [← n_0, n_eq ha (by omega)]
theorem n_toInt {a : Nat} (ha : a < 2147483648) : (nI a).toInt = (a : Int) := nI_toInt ha
theorem n_neg {k : Nat} (hk : k < 2147483648) : (-nI k).toInt = -(k : Int) := by
  rw [Int32.toInt_neg, n_toInt hk]
  exact Int.bmod_eq_of_le (by omega) (by omega)
theorem n_ltx {a b : Int32} : (a < b) = (a.toInt < b.toInt) := propext Int32.lt_iff_toInt_lt
theorem n_lex {a b : Int32} : (a ≤ b) = (a.toInt ≤ b.toInt) := propext Int32.le_iff_toInt_le
theorem n_eqx {a b : Int32} : (a = b) = (a.toInt = b.toInt) := propext ⟨fun h => by rw [h], fun h => Int32.toInt_inj.mp h⟩
theorem n_gneq {a k : Nat} (ha : a < 2147483648) (h0 : 0 < k) (hk : k < 2147483648) : (nI a = -nI k) = False := by
  rw [n_eqx, n_toInt ha, n_neg hk]
  exact eq_false (by omega)
theorem n_ngeq {a k : Nat} (ha : a < 2147483648) (h0 : 0 < k) (hk : k < 2147483648) : (-nI k = nI a) = False := by
  rw [n_eqx, n_toInt ha, n_neg hk]
  exact eq_false (by omega)
theorem n_ng0 {k : Nat} (h0 : 0 < k) (hk : k < 2147483648) : (-nI k = 0) = False := by
  rw [← n_0]
  exact n_ngeq (by omega) h0 hk
theorem n_nglt {k : Nat} (h0 : 0 < k) (hk : k < 2147483648) : (-nI k < 0) = True := by
  rw [← n_0, n_ltx, n_toInt (by omega), n_neg hk]
  exact eq_true (by omega)
theorem n_glt {a k : Nat} (ha : a < 2147483648) (hk : k < 2147483648) : (nI a < -nI k) = False := by
  rw [n_ltx, n_toInt ha, n_neg hk]
  exact eq_false (by omega)
theorem n_gle {a k : Nat} (ha : a < 2147483648) (h0 : 0 < k) (hk : k < 2147483648) : (nI a ≤ -nI k) = False := by
  rw [n_lex, n_toInt ha, n_neg hk]
  exact eq_false (by omega)
theorem n_ltg {a k : Nat} (ha : a < 2147483648) (h0 : 0 < k) (hk : k < 2147483648) : (-nI k < nI a) = True := by
  rw [n_ltx, n_toInt ha, n_neg hk]
  exact eq_true (by omega)
theorem n_leg {a k : Nat} (ha : a < 2147483648) (hk : k < 2147483648) : (-nI k ≤ nI a) = True := by
  rw [n_lex, n_toInt ha, n_neg hk]
  exact eq_true (by omega)
theorem n_gg {a k : Nat} (ha : a < 2147483648) (hk : k < 2147483648) : (-nI a = -nI k) = (a = k) := by
  rw [n_eqx, n_neg ha, n_neg hk]
  exact propext ⟨fun h => by omega, fun h => by omega⟩
theorem n_ge0 {a : Nat} (ha : a < 2147483648) : (0 ≤ nI a) = True := by
  rw [n_lex, n_toInt ha]
  exact eq_true (by show (0 : Int) ≤ a; omega)
theorem n_add (a b : Nat) : nI a + nI b = nI (a + b) := nI_add a b
theorem n_mul (a b : Nat) : nI a * nI b = nI (a * b) := pk_mul a b
theorem n_sub {a b : Nat} (h : b ≤ a) : nI a - nI b = nI (a - b) := pk_sub h
theorem n_rem {a d : Nat} (ha : a < 2147483648) (h0 : 0 < d) (hd : d < 2147483648) : nI a - nI a / nI d * nI d = nI (a % d) := pk_rem ha h0 hd
theorem n_div {a d : Nat} (ha : a < 2147483648) (h0 : 0 < d) (hd : d < 2147483648) : nI a / nI d = nI (a / d) := pk_div ha h0 hd
theorem n_31 : ∀ b : Nat, b < 32 → ((nI b &&& 31).toBitVec.smod 32).toNat = b := by decide +kernel
theorem n_shl {a b : Nat} (hb : b < 32) (h : a * 2 ^ b < 4294967296) : nI a <<< (nI b &&& 31) = nI (a * 2 ^ b) := pk_shlN _ b (n_31 b hb) h
theorem n_shl1 {b : Nat} (hb : b < 32) : nI 1 <<< (nI b &&& 31) = nI (2 ^ b) := by
  rw [n_shl hb (by rw [Nat.one_mul]; exact Nat.lt_of_le_of_lt (Nat.pow_le_pow_right (by omega) (by omega : b ≤ 31)) (by decide)), Nat.one_mul]
theorem n_shr {a b : Nat} (ha : a < 2147483648) (hb : b < 32) : nI a >>> (nI b &&& 31) = nI (a / 2 ^ b) := pk_shrN ha _ b (n_31 b hb)
theorem n_bv {a : Nat} : (nI a).toBitVec = BitVec.ofNat 32 a := rfl
theorem n_and (a b : Nat) : nI a &&& nI b = nI (a &&& b) := by
  apply Int32.toBitVec_inj.mp
  rw [Int32.toBitVec_and, n_bv, n_bv, n_bv]
  exact BitVec.ofNat_and.symm
theorem n_or (a b : Nat) : nI a ||| nI b = nI (a ||| b) := by
  apply Int32.toBitVec_inj.mp
  rw [Int32.toBitVec_or, n_bv, n_bv, n_bv]
  exact BitVec.ofNat_or.symm
theorem n_xor (a b : Nat) : nI a ^^^ nI b = nI (a ^^^ b) := by
  apply Int32.toBitVec_inj.mp
  rw [Int32.toBitVec_xor, n_bv, n_bv, n_bv]
  exact BitVec.ofNat_xor.symm
/-- what of a isn't in b -/
def nM (a b : Nat) : Nat := a ^^^ (a &&& b)
theorem nM_bit (a b k : Nat) : (nM a b).testBit k = (a.testBit k && !b.testBit k) := by
  unfold nM
  rw [Nat.testBit_xor, Nat.testBit_and]
  cases a.testBit k <;> cases b.testBit k <;> rfl
theorem n_not (a b : Nat) : nI a &&& (nI b ^^^ -nI 1) = nI (nM a b) := by
  unfold nM
  rw [← n_xor, ← n_and]
  generalize nI a = x
  generalize nI b = y
  apply Int32.toBitVec_inj.mp
  rw [Int32.toBitVec_and, Int32.toBitVec_xor, Int32.toBitVec_xor, Int32.toBitVec_and]
  have e : (-nI 1).toBitVec = BitVec.allOnes 32 := by decide
  rw [e, BitVec.xor_allOnes]
  ext i hi
  simp
  cases x.toBitVec[i] <;> cases y.toBitVec[i] <;> rfl
theorem n_not' (a b : Nat) : (nI b ^^^ -nI 1) &&& nI a = nI (nM a b) := by
  rw [← n_not]
  apply Int32.toBitVec_inj.mp
  rw [Int32.toBitVec_and, Int32.toBitVec_and, BitVec.and_comm]
def nB (b : Bool) : Nat := b.toNat
theorem n_bit {a b : Nat} (ha : a < 2147483648) (hb : b < 32) : (nI a >>> (nI b &&& 31)) &&& nI 1 = nI (nB (a.testBit b)) := by
  rw [n_shr ha hb, n_and]
  congr 1
  rw [Nat.and_one_is_mod, ← Nat.shiftRight_eq_div_pow]
  unfold nB
  rw [Nat.testBit_eq_decide_div_mod_eq, ← Nat.shiftRight_eq_div_pow]
  rcases Nat.mod_two_eq_zero_or_one (a >>> b) with h | h <;> rw [h] <;> rfl
theorem n_B1 {b : Bool} : (nI (nB b) = nI 1) = (b = true) := by cases b <;> decide
theorem n_B0 {b : Bool} : (nI (nB b) = 0) = (b = false) := by cases b <;> decide
theorem n_BB {a b : Bool} : (nI (nB a) = nI (nB b)) = (a = b) := by cases a <;> cases b <;> decide
/-- in the range: a number that is written -/
def inb (v : Int32) (n : Nat) : Prop := 0 ≤ v.toInt ∧ v.toInt < n
theorem inb_of {v : Int32} {n : Nat} (h : inb v n) (hn : n ≤ 2147483648) : ∃ k, k < n ∧ v = nI k := by
  obtain ⟨k, hk, e⟩ := nI_of (x := v) (by rw [n_ltx]; show ¬ v.toInt < 0; have := h.1; omega)
  subst e
  refine ⟨k, ?_, rfl⟩
  have := h.2
  rw [n_toInt (by omega)] at this
  omega
theorem inb_nI {k n : Nat} (hk : k < 2147483648) : inb (nI k) n = (k < n) := by
  unfold inb
  rw [n_toInt hk]
  exact propext ⟨fun h => by omega, fun h => by omega⟩
theorem n_l {a : Nat} (h : a < 2147483648) : (nI a).toInt64 = lN a := nI_l h
theorem n_cmp (x y : Int64) : (lg_cmp x y < 0) = (x.toInt < y.toInt) ∧ (0 < lg_cmp x y) = (y.toInt < x.toInt) := by
  unfold lg_cmp
  simp only [gt_iff_lt, Int64.lt_iff_toInt_lt, ← Int64.toInt_inj]
  constructor
  · apply propext
    repeat' split
    · exact ⟨fun h => absurd h (by decide), fun h => by omega⟩
    · exact ⟨fun h => absurd h (by decide), fun h => by omega⟩
    · exact ⟨fun h => by omega, fun h => by decide⟩
  · apply propext
    repeat' split
    · exact ⟨fun h => by omega, fun h => by decide⟩
    · exact ⟨fun h => absurd h (by decide), fun h => by omega⟩
    · exact ⟨fun h => absurd h (by decide), fun h => by omega⟩
theorem n_cmp1 (x y : Int64) : (lg_cmp x y < 0) = (x.toInt < y.toInt) := (n_cmp x y).1
theorem n_cmp2 (x y : Int64) : (0 < lg_cmp x y) = (y.toInt < x.toInt) := (n_cmp x y).2
theorem n_i2l (v : Int32) : (v.toInt64).toInt = v.toInt := Int32.toInt_toInt64 v
theorem n_lNt {n : Nat} (h : n < 2147483648) : (lN n).toInt = n := lN_toInt h
