/-! COUNT -/
theorem l_us : ∀ k : Nat, k < 64 → (((nI k).toInt64.toUInt64 &&& Int64.toUInt64 63).toBitVec % 64).toNat = k := by decide +kernel
theorem l_ushr0 (x s : Int64) (k : Nat) (hs : ((s.toUInt64 &&& Int64.toUInt64 63).toBitVec % 64).toNat = k) : (x.toUInt64 >>> (s.toUInt64 &&& Int64.toUInt64 63)).toInt64.toBitVec.toNat = x.toBitVec.toNat / 2 ^ k := by
  have e : (x.toUInt64 >>> (s.toUInt64 &&& Int64.toUInt64 63)).toInt64.toBitVec = x.toBitVec >>> k := by
    rw [← hs]
    exact UInt64.toBitVec_shiftRight _ _
  rw [e, BitVec.toNat_ushiftRight, Nat.shiftRight_eq_div_pow]
theorem l_ushr {n k : Nat} (hk : k < 64) (hn : n < 18446744073709551616) : ((lN n).toUInt64 >>> ((nI k).toInt64.toUInt64 &&& Int64.toUInt64 63)).toInt64 = lN (n / 2 ^ k) := by
  apply Int64.toBitVec_inj.mp
  apply BitVec.eq_of_toNat_eq
  have hd : n / 2 ^ k ≤ n := Nat.div_le_self _ _
  rw [l_ushr0 _ _ k (l_us k hk), l_tn hn, l_tn (Nat.lt_of_le_of_lt hd hn)]
theorem and_peel {x y m M b : Nat} (hx : x < 2 ^ b) (hm : m < 2 ^ b) : (x + 2 ^ b * y) &&& (m + 2 ^ b * M) = (x &&& m) + 2 ^ b * (y &&& M) := by
  have hp := Nat.two_pow_pos b
  have e1 : ((x + 2 ^ b * y) &&& (m + 2 ^ b * M)) / 2 ^ b = y &&& M := by
    rw [Nat.and_div_two_pow, Nat.add_mul_div_left _ _ hp, Nat.add_mul_div_left _ _ hp, Nat.div_eq_of_lt hx, Nat.div_eq_of_lt hm, Nat.zero_add, Nat.zero_add]
  have e2 : ((x + 2 ^ b * y) &&& (m + 2 ^ b * M)) % 2 ^ b = x &&& m := by
    rw [Nat.and_mod_two_pow, Nat.add_mul_mod_self_left, Nat.add_mul_mod_self_left, Nat.mod_eq_of_lt hx, Nat.mod_eq_of_lt hm]
  have := Nat.mod_add_div ((x + 2 ^ b * y) &&& (m + 2 ^ b * M)) (2 ^ b)
  rw [e1, e2] at this
  exact this.symm
def m5 : Nat → Nat
  | 0 => 0
  | k + 1 => 5 + 16 * m5 k
def m3 : Nat → Nat
  | 0 => 0
  | k + 1 => 3 + 16 * m3 k
def mF : Nat → Nat
  | 0 => 0
  | k + 1 => 15 + 256 * mF k
def st (k x : Nat) : Nat := ((x - (x / 2 &&& m5 k)) &&& m3 k) + ((x - (x / 2 &&& m5 k)) / 4 &&& m3 k)
theorem nib : ∀ x, x < 16 → (x / 2 &&& 5 ≤ x) ∧ (x - (x / 2 &&& 5) < 16) ∧ ((x - (x / 2 &&& 5)) &&& 3) + (x - (x / 2 &&& 5)) / 4 = popf 6 x ∧ popf 6 x ≤ 4 := by decide +kernel
theorem nib2 : ∀ x, x < 16 → ∀ b, b < 2 → (x / 2 + 8 * b) &&& 5 = x / 2 &&& 5 := by decide +kernel
theorem nib3 : ∀ u, u < 16 → ∀ b, b < 4 → (u / 4 + 4 * b) &&& 3 = u / 4 := by decide +kernel
theorem st_peel {k x y : Nat} (hx : x < 16) : st (k + 1) (x + 16 * y) = popf 6 x + 16 * st k y := by
  obtain ⟨n1, n2, n3, n4⟩ := nib x hx
  have e1 : (x + 16 * y) / 2 = (x / 2 + 8 * (y % 2)) + 2 ^ 4 * (y / 2) := by omega
  have e2 : (x + 16 * y) / 2 &&& m5 (k + 1) = (x / 2 &&& 5) + 16 * (y / 2 &&& m5 k) := by
    rw [e1]
    show _ &&& (5 + 2 ^ 4 * m5 k) = _
    rw [and_peel (by omega) (by omega), nib2 x hx _ (Nat.mod_lt _ (by omega))]
  have hy : y / 2 &&& m5 k ≤ y := Nat.le_trans Nat.and_le_left (Nat.div_le_self _ _)
  have e3 : (x + 16 * y) - ((x + 16 * y) / 2 &&& m5 (k + 1)) = (x - (x / 2 &&& 5)) + 2 ^ 4 * (y - (y / 2 &&& m5 k)) := by
    rw [e2]
    omega
  unfold st
  rw [e3]
  generalize hu : x - (x / 2 &&& 5) = u at *
  generalize hv : y - (y / 2 &&& m5 k) = v at *
  have e4 : (u + 2 ^ 4 * v) &&& m3 (k + 1) = (u &&& 3) + 16 * (v &&& m3 k) := and_peel (by omega) (by omega)
  have e5 : (u + 2 ^ 4 * v) / 4 = (u / 4 + 4 * (v % 4)) + 2 ^ 4 * (v / 4) := by omega
  have e6 : (u + 2 ^ 4 * v) / 4 &&& m3 (k + 1) = u / 4 + 16 * (v / 4 &&& m3 k) := by
    rw [e5]
    show _ &&& (3 + 2 ^ 4 * m3 k) = _
    rw [and_peel (by omega) (by omega), nib3 u n2 _ (Nat.mod_lt _ (by omega))]
  rw [e4, e6]
  omega
theorem st_0 : st 7 0 = 0 := by decide
theorem bytes {p0 p1 p2 p3 p4 p5 p6 p7 p8 : Nat} (h0 : p0 ≤ 4) (h1 : p1 ≤ 4) (h2 : p2 ≤ 4) (h3 : p3 ≤ 4) (h4 : p4 ≤ 4) (h5 : p5 ≤ 4) (h6 : p6 ≤ 4) (h7 : p7 ≤ 4) (h8 : p8 ≤ 4) (A : Nat) (hA : A = p0 + 16 * (p1 + 16 * (p2 + 16 * (p3 + 16 * (p4 + 16 * (p5 + 16 * (p6 + 16 * (p7 + 16 * p8)))))))) :
    (A + A / 16) &&& mF 8 = (p0 + p1) + 256 * ((p2 + p3) + 256 * ((p4 + p5) + 256 * ((p6 + p7) + 256 * p8))) := by
  have e : A + A / 16 = ((p0 + p1) + 16 * (p1 + p2)) + 2 ^ 8 * (((p2 + p3) + 16 * (p3 + p4)) + 2 ^ 8 * (((p4 + p5) + 16 * (p5 + p6)) + 2 ^ 8 * (((p6 + p7) + 16 * (p7 + p8)) + 2 ^ 8 * p8))) := by omega
  have low : ∀ a b, a < 16 → b < 16 → (a + 16 * b) &&& 15 = a := by
    intro a b ha hb
    rw [show (15 : Nat) = 2 ^ 4 - 1 from rfl, Nat.and_two_pow_sub_one_eq_mod]
    omega
  rw [e]
  show _ &&& (15 + 2 ^ 8 * (15 + 2 ^ 8 * (15 + 2 ^ 8 * (15 + 2 ^ 8 * mF 4)))) = _
  rw [and_peel (by omega) (by omega), and_peel (by omega) (by omega), and_peel (by omega) (by omega), and_peel (by omega) (by omega), low _ _ (by omega) (by omega), low _ _ (by omega) (by omega), low _ _ (by omega) (by omega), low _ _ (by omega) (by omega)]
  have e8 : p8 &&& mF 4 = p8 := by
    have : ∀ p, p < 5 → p &&& mF 4 = p := by decide
    exact this p8 (by omega)
  rw [e8]
theorem swar {N : Nat} (hN : N < 68719476736) : ∃ n0 n1 n2 n3 n4 n5 n6 n7 n8 : Nat, n0 < 16 ∧ n1 < 16 ∧ n2 < 16 ∧ n3 < 16 ∧ n4 < 16 ∧ n5 < 16 ∧ n6 < 16 ∧ n7 < 16 ∧ n8 < 16 ∧ N = n0 + 16 * (n1 + 16 * (n2 + 16 * (n3 + 16 * (n4 + 16 * (n5 + 16 * (n6 + 16 * (n7 + 16 * n8)))))))  ∧ n0 = N % 16 ∧ n1 = N / 16 % 16 ∧ n2 = N / 256 % 16 ∧ n3 = N / 4096 % 16 ∧ n4 = N / 65536 % 16 ∧ n5 = N / 1048576 % 16 ∧ n6 = N / 16777216 % 16 ∧ n7 = N / 268435456 % 16 ∧ n8 = N / 4294967296 % 16 :=
  ⟨_, _, _, _, _, _, _, _, _, by omega, by omega, by omega, by omega, by omega, by omega, by omega, by omega, by omega, by omega, rfl, rfl, rfl, rfl, rfl, rfl, rfl, rfl, rfl⟩
def sp (f : Nat → Nat) : Nat → Nat
  | 0 => 0
  | n + 1 => sp f n + popf 6 (f n)
theorem sp_0 {f : Nat → Nat} {R : Nat} : ∀ k, (∀ r, R ≤ r → f r = 0) → sp f (R + k) = sp f R := by
  intro k h
  induction k with
  | zero => rfl
  | succ k ih =>
    show sp f (R + k) + popf 6 (f (R + k)) = sp f R
    rw [h _ (by omega), left_00, ih]
    rfl
theorem sp_c {f g : Nat → Nat} : ∀ n, (∀ r, r < n → f r = g r) → sp f n = sp g n := by
  intro n
  induction n with
  | zero => intro _; rfl
  | succ n ih =>
    intro h
    show sp f n + popf 6 (f n) = sp g n + popf 6 (g n)
    rw [ih (fun r hr => h r (by omega)), h n (by omega)]
theorem dv256 {x y : Nat} (h : x < 256) : (x + 256 * y) / 256 = y := by
  rw [Nat.add_mul_div_left _ _ (by omega), Nat.div_eq_of_lt h, Nat.zero_add]
theorem fold5 {b0 b1 b2 b3 b4 a3 a4 a5 : Nat} (h0 : b0 ≤ 8) (h1 : b1 ≤ 8) (h2 : b2 ≤ 8) (h3 : b3 ≤ 8) (h4 : b4 ≤ 8) (e3 : a3 = b0 + 256 * (b1 + 256 * (b2 + 256 * (b3 + 256 * b4)))) (e4 : a4 = a3 + a3 / 256) (e5 : a5 = a4 + a4 / 65536) : (a5 + a5 / 4294967296) % 128 = b0 + b1 + b2 + b3 + b4 := by
  have f4 : a4 = (b0 + b1) + 256 * ((b1 + b2) + 256 * ((b2 + b3) + 256 * ((b3 + b4) + 256 * b4))) := by
    rw [e4, e3, dv256 (by omega)]
    clear e3 e4 e5
    omega
  have d4 : a4 / 65536 = (b2 + b3) + 256 * ((b3 + b4) + 256 * b4) := by
    rw [f4, show (65536 : Nat) = 256 * 256 from rfl, ← Nat.div_div_eq_div_mul, dv256 (by omega), dv256 (by omega)]
  have f5 : a5 = (b0 + b1 + b2 + b3) + 256 * ((b1 + b2 + b3 + b4) + 256 * ((b2 + b3 + b4) + 256 * ((b3 + b4) + 256 * b4))) := by
    rw [e5, d4, f4]
    clear e3 e4 e5 f4 d4
    omega
  have d5 : a5 / 4294967296 = b4 := by
    rw [f5, show (4294967296 : Nat) = 256 * 256 * 256 * 256 from rfl, ← Nat.div_div_eq_div_mul, ← Nat.div_div_eq_div_mul, ← Nat.div_div_eq_div_mul, dv256 (by omega), dv256 (by omega), dv256 (by omega), dv256 (by omega)]
  rw [d5, f5]
  clear e3 e4 e5 f4 d4 f5 d5
  generalize (b1 + b2 + b3 + b4) + 256 * ((b2 + b3 + b4) + 256 * ((b3 + b4) + 256 * b4)) = K
  omega
/-- the bits of all nicks -/
theorem bits_all {N R : Nat} {nk : Nat → Nat} (h : nrep N R nk) (hR : R ≤ 9) (hk : ∀ r, r < R → nk r < 16) :
    (let a3 := (st 16 N + st 16 N / 16) &&& mF 8
     let a4 := a3 + a3 / 256
     let a5 := a4 + a4 / 65536
     (a5 + a5 / 4294967296) % 128 = sp nk R ∧ st 16 N < 68719476736 ∧ a3 < 68719476736) := by
  have hN := nrep_lt h hR
  obtain ⟨n0, n1, n2, n3, n4, n5, n6, n7, n8, l0, l1, l2, l3, l4, l5, l6, l7, l8, eN, q0, q1, q2, q3, q4, q5, q6, q7, q8⟩ := swar (N := N) hN
  have nb : ∀ r, r < 9 → N / 16 ^ r % 16 = if r < R then nk r else 0 := by
    intro r hr
    by_cases c : r < R
    · rw [if_pos c, ← nrep_nicks h c (hk r c), show (15 : Nat) = 2 ^ 4 - 1 from rfl, Nat.and_two_pow_sub_one_eq_mod, Nat.pow_mul]
    · rw [if_neg c]
      have : N < 16 ^ r := by
        have h1 := h.1
        rw [Nat.pow_mul] at h1
        exact Nat.lt_of_lt_of_le h1 (Nat.pow_le_pow_right (by omega) (by omega))
      rw [Nat.div_eq_of_lt this]
  have esp : sp nk R = popf 6 n0 + popf 6 n1 + popf 6 n2 + popf 6 n3 + popf 6 n4 + popf 6 n5 + popf 6 n6 + popf 6 n7 + popf 6 n8 := by
    have e1 : sp nk R = sp (fun r => if r < R then nk r else 0) R := sp_c R (fun r hr => (if_pos hr).symm)
    have e2 : sp (fun r => if r < R then nk r else 0) 9 = sp (fun r => if r < R then nk r else 0) R := by
      have := sp_0 (f := fun r => if r < R then nk r else 0) (R := R) (9 - R) (fun r hr => if_neg (by omega))
      rw [show R + (9 - R) = 9 by omega] at this
      exact this
    rw [e1, ← e2]
    show 0 + popf 6 (if 0 < R then nk 0 else 0) + popf 6 (if 1 < R then nk 1 else 0) + popf 6 (if 2 < R then nk 2 else 0) + popf 6 (if 3 < R then nk 3 else 0) + popf 6 (if 4 < R then nk 4 else 0) + popf 6 (if 5 < R then nk 5 else 0) + popf 6 (if 6 < R then nk 6 else 0) + popf 6 (if 7 < R then nk 7 else 0) + popf 6 (if 8 < R then nk 8 else 0) = _
    rw [← nb 0 (by omega), ← nb 1 (by omega), ← nb 2 (by omega), ← nb 3 (by omega), ← nb 4 (by omega), ← nb 5 (by omega), ← nb 6 (by omega), ← nb 7 (by omega), ← nb 8 (by omega), q0, q1, q2, q3, q4, q5, q6, q7, q8, Nat.zero_add]
    rw [show N / 16 ^ 0 = N by rw [Nat.pow_zero, Nat.div_one]]
  have e8 : st 8 n8 = popf 6 n8 := by
    have := st_peel (k := 7) (y := 0) l8
    rw [st_0, Nat.mul_zero, Nat.add_zero, Nat.add_zero] at this
    exact this
  have eA : st 16 N = popf 6 n0 + 16 * (popf 6 n1 + 16 * (popf 6 n2 + 16 * (popf 6 n3 + 16 * (popf 6 n4 + 16 * (popf 6 n5 + 16 * (popf 6 n6 + 16 * (popf 6 n7 + 16 * popf 6 n8))))))) := by
    rw [eN, st_peel l0, st_peel l1, st_peel l2, st_peel l3, st_peel l4, st_peel l5, st_peel l6, st_peel l7, e8]
  have p0 := (nib n0 l0).2.2.2
  have p1 := (nib n1 l1).2.2.2
  have p2 := (nib n2 l2).2.2.2
  have p3 := (nib n3 l3).2.2.2
  have p4 := (nib n4 l4).2.2.2
  have p5 := (nib n5 l5).2.2.2
  have p6 := (nib n6 l6).2.2.2
  have p7 := (nib n7 l7).2.2.2
  have p8 := (nib n8 l8).2.2.2
  have eB := bytes p0 p1 p2 p3 p4 p5 p6 p7 p8 _ eA
  clear q0 q1 q2 q3 q4 q5 q6 q7 q8 eN nb l0 l1 l2 l3 l4 l5 l6 l7 l8
  intro a3 a4 a5
  have e3 : a3 = _ := eB
  have e4 : a4 = a3 + a3 / 256 := rfl
  have e5 : a5 = a4 + a4 / 65536 := rfl
  generalize popf 6 n0 = x0 at *
  generalize popf 6 n1 = x1 at *
  generalize popf 6 n2 = x2 at *
  generalize popf 6 n3 = x3 at *
  generalize popf 6 n4 = x4 at *
  generalize popf 6 n5 = x5 at *
  generalize popf 6 n6 = x6 at *
  generalize popf 6 n7 = x7 at *
  generalize popf 6 n8 = x8 at *
  have g1 := fold5 (Nat.add_le_add p0 p1) (Nat.add_le_add p2 p3) (Nat.add_le_add p4 p5) (Nat.add_le_add p6 p7) (Nat.le_trans p8 (by omega)) e3 e4 e5
  refine ⟨?_, ?_, ?_⟩
  · rw [esp]
    refine g1.trans ?_
    clear g1 e3 e4 e5 eB eA esp
    omega
  · rw [eA]
    clear g1 e3 e4 e5 eB eA esp
    omega
  · rw [e3]
    clear g1 e3 e4 e5 eB eA esp
    omega
theorem m5_16 : m5 16 = 6148914691236517205 := by decide
theorem m3_16 : m3 16 = 3689348814741910323 := by decide
theorem mF_8 : mF 8 = 1085102592571150095 := by decide
theorem us1 {n : Nat} (hn : n < 18446744073709551616) : ((lN n).toUInt64 >>> ((nI 1).toInt64.toUInt64 &&& Int64.toUInt64 63)).toInt64 = lN (n / 2) := l_ushr (by omega) hn
theorem us2 {n : Nat} (hn : n < 18446744073709551616) : ((lN n).toUInt64 >>> ((nI 2).toInt64.toUInt64 &&& Int64.toUInt64 63)).toInt64 = lN (n / 4) := l_ushr (by omega) hn
theorem us4 {n : Nat} (hn : n < 18446744073709551616) : ((lN n).toUInt64 >>> ((nI 4).toInt64.toUInt64 &&& Int64.toUInt64 63)).toInt64 = lN (n / 16) := l_ushr (by omega) hn
theorem us8 {n : Nat} (hn : n < 18446744073709551616) : ((lN n).toUInt64 >>> ((nI 8).toInt64.toUInt64 &&& Int64.toUInt64 63)).toInt64 = lN (n / 256) := l_ushr (by omega) hn
theorem us16 {n : Nat} (hn : n < 18446744073709551616) : ((lN n).toUInt64 >>> ((nI 16).toInt64.toUInt64 &&& Int64.toUInt64 63)).toInt64 = lN (n / 65536) := l_ushr (by omega) hn
theorem us32 {n : Nat} (hn : n < 18446744073709551616) : ((lN n).toUInt64 >>> ((nI 32).toInt64.toUInt64 &&& Int64.toUInt64 63)).toInt64 = lN (n / 4294967296) := l_ushr (by omega) hn
theorem C78 (d : Nat) (σ : xS) {N R : Nat} {nk : Nat → Nat} (h : nrep N R nk) (hR : R ≤ 9) (hk : ∀ r, r < R → nk r < 16) : run (d + 1) (xentry 78 [.inr (.inl (lN N))] σ) = some ((nI (sp nk R), 0, none), σ) := by
  have hN := nrep_lt h hR
  have hN : N < 68719476736 := hN
  obtain ⟨b1, b2, b3⟩ := bits_all h hR hk
  unfold st at b1 b2 b3
  rw [m5_16, m3_16] at b1 b2 b3
  rw [mF_8] at b1 b3
  have hs : N / 2 &&& 6148914691236517205 ≤ N := Nat.le_trans Nat.and_le_left (Nat.div_le_self _ _)
  have ha : N - (N / 2 &&& 6148914691236517205) < 68719476736 := Nat.lt_of_le_of_lt (Nat.sub_le _ _) hN
  rw [B78_0, us1 (by omega), l_and, lN_sub hs]
  generalize N - (N / 2 &&& 6148914691236517205) = a1 at *
  rw [us2 (by omega), l_and, l_and, lN_add]
  generalize (a1 &&& 3689348814741910323) + (a1 / 4 &&& 3689348814741910323) = a2 at *
  rw [us4 (by omega), lN_add, l_and]
  generalize (a2 + a2 / 16) &&& 1085102592571150095 = a3 at *
  have b1 : (a3 + a3 / 256 + (a3 + a3 / 256) / 65536 + (a3 + a3 / 256 + (a3 + a3 / 256) / 65536) / 4294967296) % 128 = sp nk R := b1
  have c1 : a3 / 256 ≤ a3 := Nat.div_le_self _ _
  have d2 : a3 + a3 / 256 ≤ 2 * 68719476736 := by omega
  rw [us8 (by omega), lN_add]
  generalize a3 + a3 / 256 = a4 at *
  have c2 : a4 / 65536 ≤ a4 := Nat.div_le_self _ _
  rw [us16 (by omega), lN_add]
  have d3 : a4 + a4 / 65536 ≤ 4 * 68719476736 := by omega
  generalize a4 + a4 / 65536 = a5 at *
  rw [us32 (by omega), lN_add, lN_i, n_and, show (127 : Nat) = 2 ^ 7 - 1 from rfl, Nat.and_two_pow_sub_one_eq_mod]
  exact congrArg (fun x => some ((nI x, (0 : Int64), (none : Option Nat)), σ)) b1
def smi (X : mX) : Nat → Nat
  | 0 => 0
  | n + 1 => smi X n + xaM X n
theorem inb5 {w : Int32} (h : inb w 5) : w = nI 0 ∨ w = nI 1 ∨ w = nI 2 ∨ w = nI 3 ∨ w = nI 4 := by
  obtain ⟨k, hk, e⟩ := inb_of h (by omega)
  have : k = 0 ∨ k = 1 ∨ k = 2 ∨ k = 3 ∨ k = 4 := by omega
  rcases this with a | a | a | a | a <;> subst a <;> simp [e]
theorem duo_count (d : Nat) (S : mG) (w : Int32) : Duo (d + 60) (fun σ => xentry 160 [.inr (.inr (0, (some 0))), .inl w] σ) (fun σ => xentry 68 [.inr (.inr (17, (some 0))), .inl w] σ) S := by
  have lc : ∀ σ, CL σ 0 S.1 → ∀ m r, r + m = xaR S.1 → run (d + 59) (102, 4, [some (.inr (.inr (1, (some 0)))), some (.inl (nI (smi S.1 r))), some (.inl (nI (r)))], [], σ) = some ((nI (smi S.1 (xaR S.1)), 0, none), σ) := by
    intro σ h m
    have h9 := h.1.2.2.1
    induction m with
    | zero =>
      intro r hr
      have e : r = xaR S.1 := by omega
      subst e
      rw [B102_4]
      simp (disch := omega) only [n_cl, n_lt, n_le, n_eq, n_lt0, n_0lt, n_le0, n_eq0, n_gneq, n_ngeq, n_ng0, n_nglt, n_glt, n_gle, n_ltg, n_leg, n_gg, n_ge0, n_add, n_mul, n_rem, n_shl1, n_and, n_or, n_bit, n_not, n_not', n_B1, n_B0, n_BB, obind, xite_T, xite_F, xite_not, xite_same, oI_s, oI_n, Bool.false_eq_true, reduceCtorEq, eq_self, Classical.not_not, bI_T, bI_Fa, bI_0, bI_n0, bI_x, xb_0, xb_1, xite_bI, xite_bI', not_true_eq_false, not_false_eq_true, Nat.zero_add, Nat.add_zero, Nat.mul_zero, Nat.mul_one, Nat.one_mul, reduceIte, Nat.reduceEqDiff, Nat.reduceAdd, Nat.reduceMul, Nat.reduceSub, Nat.reduceLT, Nat.reduceLeDiff, Nat.reducePow, ite_true, ite_false, if_true, if_false, and_true, true_and, false_and, and_false, or_false, false_or, true_or, or_true, ne_eq, xite_t, xite_f, h.2.2.1]
    | succ m ih =>
      intro r hr
      have e := (h.2.2.2.2.1 r (by omega)).2.2
      rw [B102_4]
      simp (disch := omega) only [n_cl, n_lt, n_le, n_eq, n_lt0, n_0lt, n_le0, n_eq0, n_gneq, n_ngeq, n_ng0, n_nglt, n_glt, n_gle, n_ltg, n_leg, n_gg, n_ge0, n_add, n_mul, n_rem, n_shl1, n_and, n_or, n_bit, n_not, n_not', n_B1, n_B0, n_BB, obind, xite_T, xite_F, xite_not, xite_same, oI_s, oI_n, Bool.false_eq_true, reduceCtorEq, eq_self, Classical.not_not, bI_T, bI_Fa, bI_0, bI_n0, bI_x, xb_0, xb_1, xite_bI, xite_bI', not_true_eq_false, not_false_eq_true, Nat.zero_add, Nat.add_zero, Nat.mul_zero, Nat.mul_one, Nat.one_mul, reduceIte, Nat.reduceEqDiff, Nat.reduceAdd, Nat.reduceMul, Nat.reduceSub, Nat.reduceLT, Nat.reduceLeDiff, Nat.reducePow, ite_true, ite_false, if_true, if_false, and_true, true_and, false_and, and_false, or_false, false_or, true_or, or_true, ne_eq, xite_t, xite_f, h.2.2.1, e]
      exact ih (r + 1) (by omega)
  have l4 : ∀ σ, ML (rI σ 18 0) (xaR S.1) S.1 → ∀ m r, r + m = xaR S.1 → run (d + 60) (68, 77, [some (.inr (.inr (17, (some 0)))), none, some (.inl (nI (smi S.1 r))), some (.inl (nI (r)))], [], σ) = some ((nI (smi S.1 (xaR S.1)), 0, none), σ) := by
    intro σ h m
    have h9 := h.1.2.2.1
    induction m with
    | zero =>
      intro r hr
      have e : r = xaR S.1 := by omega
      subst e
      rw [B68_77]
      simp (disch := omega) only [n_cl, n_lt, n_le, n_eq, n_lt0, n_0lt, n_le0, n_eq0, n_gneq, n_ngeq, n_ng0, n_nglt, n_glt, n_gle, n_ltg, n_leg, n_gg, n_ge0, n_add, n_mul, n_rem, n_shl1, n_and, n_or, n_bit, n_not, n_not', n_B1, n_B0, n_BB, obind, xite_T, xite_F, xite_not, xite_same, oI_s, oI_n, Bool.false_eq_true, reduceCtorEq, eq_self, Classical.not_not, bI_T, bI_Fa, bI_0, bI_n0, bI_x, xb_0, xb_1, xite_bI, xite_bI', not_true_eq_false, not_false_eq_true, Nat.zero_add, Nat.add_zero, Nat.mul_zero, Nat.mul_one, Nat.one_mul, reduceIte, Nat.reduceEqDiff, Nat.reduceAdd, Nat.reduceMul, Nat.reduceSub, Nat.reduceLT, Nat.reduceLeDiff, Nat.reducePow, ite_true, ite_false, if_true, if_false, and_true, true_and, false_and, and_false, or_false, false_or, true_or, or_true, ne_eq, xite_t, xite_f, h.2.2.1]
    | succ m ih =>
      intro r hr
      rw [B68_77]
      simp (disch := omega) only [n_cl, n_lt, n_le, n_eq, n_lt0, n_0lt, n_le0, n_eq0, n_gneq, n_ngeq, n_ng0, n_nglt, n_glt, n_gle, n_ltg, n_leg, n_gg, n_ge0, n_add, n_mul, n_rem, n_shl1, n_and, n_or, n_bit, n_not, n_not', n_B1, n_B0, n_BB, obind, xite_T, xite_F, xite_not, xite_same, oI_s, oI_n, Bool.false_eq_true, reduceCtorEq, eq_self, Classical.not_not, bI_T, bI_Fa, bI_0, bI_n0, bI_x, xb_0, xb_1, xite_bI, xite_bI', not_true_eq_false, not_false_eq_true, Nat.zero_add, Nat.add_zero, Nat.mul_zero, Nat.mul_one, Nat.one_mul, reduceIte, Nat.reduceEqDiff, Nat.reduceAdd, Nat.reduceMul, Nat.reduceSub, Nat.reduceLT, Nat.reduceLeDiff, Nat.reducePow, ite_true, ite_false, if_true, if_false, and_true, true_and, false_and, and_false, or_false, false_or, true_or, or_true, ne_eq, xite_t, xite_f, h.2.2.1, M8_2 _ _ h (show r < xaR S.1 by omega)]
      exact ih (r + 1) (by omega)
  have l3 : ∀ σ, ML (rI σ 18 0) (xaR S.1) S.1 → ∀ m r, r + m = xaR S.1 → run (d + 60) (68, 45, [some (.inr (.inr (17, (some 0)))), none, some (.inl (nI (sp (xaN S.1) r))), some (.inl (nI (r)))], [], σ) = some ((nI (sp (xaN S.1) (xaR S.1)), 0, none), σ) := by
    intro σ h m
    have h9 := h.1.2.2.1
    induction m with
    | zero =>
      intro r hr
      have e : r = xaR S.1 := by omega
      subst e
      rw [B68_45]
      simp (disch := omega) only [n_cl, n_lt, n_le, n_eq, n_lt0, n_0lt, n_le0, n_eq0, n_gneq, n_ngeq, n_ng0, n_nglt, n_glt, n_gle, n_ltg, n_leg, n_gg, n_ge0, n_add, n_mul, n_rem, n_shl1, n_and, n_or, n_bit, n_not, n_not', n_B1, n_B0, n_BB, obind, xite_T, xite_F, xite_not, xite_same, oI_s, oI_n, Bool.false_eq_true, reduceCtorEq, eq_self, Classical.not_not, bI_T, bI_Fa, bI_0, bI_n0, bI_x, xb_0, xb_1, xite_bI, xite_bI', not_true_eq_false, not_false_eq_true, Nat.zero_add, Nat.add_zero, Nat.mul_zero, Nat.mul_one, Nat.one_mul, reduceIte, Nat.reduceEqDiff, Nat.reduceAdd, Nat.reduceMul, Nat.reduceSub, Nat.reduceLT, Nat.reduceLeDiff, Nat.reducePow, ite_true, ite_false, if_true, if_false, and_true, true_and, false_and, and_false, or_false, false_or, true_or, or_true, ne_eq, xite_t, xite_f, h.2.2.1]
    | succ m ih =>
      intro r hr
      have hb := h.1.2.2.2.2.2.1 r (by omega)
      rw [B68_45]
      simp (disch := omega) only [n_cl, n_lt, n_le, n_eq, n_lt0, n_0lt, n_le0, n_eq0, n_gneq, n_ngeq, n_ng0, n_nglt, n_glt, n_gle, n_ltg, n_leg, n_gg, n_ge0, n_add, n_mul, n_rem, n_shl1, n_and, n_or, n_bit, n_not, n_not', n_B1, n_B0, n_BB, obind, xite_T, xite_F, xite_not, xite_same, oI_s, oI_n, Bool.false_eq_true, reduceCtorEq, eq_self, Classical.not_not, bI_T, bI_Fa, bI_0, bI_n0, bI_x, xb_0, xb_1, xite_bI, xite_bI', not_true_eq_false, not_false_eq_true, Nat.zero_add, Nat.add_zero, Nat.mul_zero, Nat.mul_one, Nat.one_mul, reduceIte, Nat.reduceEqDiff, Nat.reduceAdd, Nat.reduceMul, Nat.reduceSub, Nat.reduceLT, Nat.reduceLeDiff, Nat.reducePow, ite_true, ite_false, if_true, if_false, and_true, true_and, false_and, and_false, or_false, false_or, true_or, or_true, ne_eq, xite_t, xite_f, h.2.2.1, M8_3 _ _ h (show r < xaR S.1 by omega), M15]
      exact ih (r + 1) (by omega)
  by_cases hw : inb w 5
  · refine duo_bad (xite (w = nI 0) (nI (xaP S.1)) (xite (w = nI 1) (nI (xaR S.1)) (xite (w = nI 2) (nI (xaC S.1)) (xite (w = nI 3) (nI (sp (xaN S.1) (xaR S.1))) (nI (smi S.1 (xaR S.1))))))) (fun σ h => ?_) (fun σ h => ?_)
    · obtain ⟨N, eN, hR⟩ := h.1.2.2.2.2.2.1
      have e3 := C78 (d + 58) σ hR h.1.1.2.2.1 (fun r hr => (h.1.1.2.2.2.2.2.1 r hr).2.2.2.2.2)
      have e4 : run (d + 59) (xentry 102 [.inr (.inr (1, (some 0)))] σ) = some ((nI (smi S.1 (xaR S.1)), 0, none), σ) := by
        rw [B102_0]
        exact lc σ h.1 (xaR S.1) 0 (by omega)
      rw [B160_0, eN]
      rcases inb5 hw with e | e | e | e | e <;> subst e <;> simp (disch := omega) only [n_cl, n_lt, n_le, n_eq, n_lt0, n_0lt, n_le0, n_eq0, n_gneq, n_ngeq, n_ng0, n_nglt, n_glt, n_gle, n_ltg, n_leg, n_gg, n_ge0, n_add, n_mul, n_rem, n_shl1, n_and, n_or, n_bit, n_not, n_not', n_B1, n_B0, n_BB, obind, xite_T, xite_F, xite_not, xite_same, oI_s, oI_n, Bool.false_eq_true, reduceCtorEq, eq_self, Classical.not_not, bI_T, bI_Fa, bI_0, bI_n0, bI_x, xb_0, xb_1, xite_bI, xite_bI', not_true_eq_false, not_false_eq_true, Nat.zero_add, Nat.add_zero, Nat.mul_zero, Nat.mul_one, Nat.one_mul, reduceIte, Nat.reduceEqDiff, Nat.reduceAdd, Nat.reduceMul, Nat.reduceSub, Nat.reduceLT, Nat.reduceLeDiff, Nat.reducePow, ite_true, ite_false, if_true, if_false, and_true, true_and, false_and, and_false, or_false, false_or, true_or, or_true, ne_eq, xite_t, xite_f, h.1.2.1, h.1.2.2.1, h.1.2.2.2.1, e3, e4]
    · have e3 := l3 σ h.1 (xaR S.1) 0 (by omega)
      have e4 := l4 σ h.1 (xaR S.1) 0 (by omega)
      rw [B68_0]
      rcases inb5 hw with e | e | e | e | e <;> subst e <;> simp (disch := omega) only [n_cl, n_lt, n_le, n_eq, n_lt0, n_0lt, n_le0, n_eq0, n_gneq, n_ngeq, n_ng0, n_nglt, n_glt, n_gle, n_ltg, n_leg, n_gg, n_ge0, n_add, n_mul, n_rem, n_shl1, n_and, n_or, n_bit, n_not, n_not', n_B1, n_B0, n_BB, obind, xite_T, xite_F, xite_not, xite_same, oI_s, oI_n, Bool.false_eq_true, reduceCtorEq, eq_self, Classical.not_not, bI_T, bI_Fa, bI_0, bI_n0, bI_x, xb_0, xb_1, xite_bI, xite_bI', not_true_eq_false, not_false_eq_true, Nat.zero_add, Nat.add_zero, Nat.mul_zero, Nat.mul_one, Nat.one_mul, reduceIte, Nat.reduceEqDiff, Nat.reduceAdd, Nat.reduceMul, Nat.reduceSub, Nat.reduceLT, Nat.reduceLeDiff, Nat.reducePow, ite_true, ite_false, if_true, if_false, and_true, true_and, false_and, and_false, or_false, false_or, true_or, or_true, ne_eq, xite_t, xite_f, h.1.2.1, h.1.2.2.1, h.1.2.2.2.1]
      · exact e3
      · exact e4
  · refine duo_bad (-nI 1) (fun σ h => ?_) (fun σ h => ?_)
    · rw [B160_0]
      simp (disch := omega) only [n_cl, n_lt, n_le, n_eq, n_lt0, n_0lt, n_le0, n_eq0, n_gneq, n_ngeq, n_ng0, n_nglt, n_glt, n_gle, n_ltg, n_leg, n_gg, n_ge0, n_add, n_mul, n_rem, n_shl1, n_and, n_or, n_bit, n_not, n_not', n_B1, n_B0, n_BB, obind, xite_T, xite_F, xite_not, xite_same, oI_s, oI_n, Bool.false_eq_true, reduceCtorEq, eq_self, Classical.not_not, bI_T, bI_Fa, bI_0, bI_n0, bI_x, xb_0, xb_1, xite_bI, xite_bI', not_true_eq_false, not_false_eq_true, Nat.zero_add, Nat.add_zero, Nat.mul_zero, Nat.mul_one, Nat.one_mul, reduceIte, Nat.reduceEqDiff, Nat.reduceAdd, Nat.reduceMul, Nat.reduceSub, Nat.reduceLT, Nat.reduceLeDiff, Nat.reducePow, ite_true, ite_false, if_true, if_false, and_true, true_and, false_and, and_false, or_false, false_or, true_or, or_true, ne_eq, ninb hw (show 0 < 5 by omega), ninb hw (show 1 < 5 by omega), ninb hw (show 2 < 5 by omega), ninb hw (show 3 < 5 by omega), ninb hw (show 4 < 5 by omega)]
    · rw [B68_0]
      simp (disch := omega) only [n_cl, n_lt, n_le, n_eq, n_lt0, n_0lt, n_le0, n_eq0, n_gneq, n_ngeq, n_ng0, n_nglt, n_glt, n_gle, n_ltg, n_leg, n_gg, n_ge0, n_add, n_mul, n_rem, n_shl1, n_and, n_or, n_bit, n_not, n_not', n_B1, n_B0, n_BB, obind, xite_T, xite_F, xite_not, xite_same, oI_s, oI_n, Bool.false_eq_true, reduceCtorEq, eq_self, Classical.not_not, bI_T, bI_Fa, bI_0, bI_n0, bI_x, xb_0, xb_1, xite_bI, xite_bI', not_true_eq_false, not_false_eq_true, Nat.zero_add, Nat.add_zero, Nat.mul_zero, Nat.mul_one, Nat.one_mul, reduceIte, Nat.reduceEqDiff, Nat.reduceAdd, Nat.reduceMul, Nat.reduceSub, Nat.reduceLT, Nat.reduceLeDiff, Nat.reducePow, ite_true, ite_false, if_true, if_false, and_true, true_and, false_and, and_false, or_false, false_or, true_or, or_true, ne_eq, ninb hw (show 0 < 5 by omega), ninb hw (show 1 < 5 by omega), ninb hw (show 2 < 5 by omega), ninb hw (show 3 < 5 by omega), ninb hw (show 4 < 5 by omega)]
