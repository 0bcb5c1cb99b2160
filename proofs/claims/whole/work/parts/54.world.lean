/-! THE WORLD AT THE LAW'S LOOP -/
def wad (a b w z : Nat) (u v : Nat → Nat) (r i : Nat) : Nat := match r with
  | 0 => a
  | 1 => u (7 * i)
  | 2 => u (7 * i + 1)
  | 3 => u (7 * i + 2)
  | 4 => u (7 * i + 3)
  | 5 => u (7 * i + 4)
  | 6 => u (7 * i + 5)
  | 7 => u (7 * i + 6)
  | 8 => u 21
  | 9 => u 22
  | 10 => u 23
  | 11 => u 24
  | 12 => u 25
  | 13 => u 26
  | 14 => u (27 + 2 * i)
  | 15 => u (28 + 2 * i)
  | 16 => 0
  | 17 => b
  | 35 => w
  | 36 => z
  | r => v (r - 18)
def wls (Γ : xΓ) (a b w : Nat) (u v : Nat → Nat) : va_W := wl11 Γ a u ++ (wl12 Γ b v ++ [(w, .inl (Γ.2.2.1, 1, .inr (.inl fun _ => 0)))])
def wns : List (Nat × Nat) := [(0, 0), (1, 0), (1, 1), (1, 2), (2, 0), (2, 1), (2, 2), (3, 0), (3, 1), (3, 2), (4, 0), (4, 1), (4, 2), (5, 0), (5, 1), (5, 2), (6, 0), (6, 1), (6, 2), (7, 0), (7, 1), (7, 2), (8, 0), (9, 0), (10, 0), (11, 0), (12, 0), (13, 0), (14, 0), (14, 1), (14, 2), (14, 3), (14, 4), (14, 5), (14, 6), (14, 7), (15, 0), (15, 1), (15, 2), (15, 3), (15, 4), (15, 5), (15, 6), (15, 7), (17, 0), (18, 0), (19, 0), (20, 0), (21, 0), (22, 0), (23, 0), (24, 0), (25, 0), (26, 0), (27, 0), (28, 0), (29, 0), (30, 0), (31, 0), (32, 0), (33, 0), (34, 0), (35, 0)]
def wpos : List Nat := [0, 1, 8, 15, 2, 9, 16, 3, 10, 17, 4, 11, 18, 5, 12, 19, 6, 13, 20, 7, 14, 21, 22, 23, 24, 25, 26, 27, 28, 30, 32, 34, 36, 38, 40, 42, 29, 31, 33, 35, 37, 39, 41, 43, 44, 45, 46, 47, 48, 49, 50, 51, 52, 53, 54, 55, 56, 57, 58, 59, 60, 61, 62]
theorem wns_ok : xns = wns := by decide +kernel
theorem wpos_inj : ∀ i, i < 63 → ∀ j, j < 63 → wpos.getD i 0 = wpos.getD j 0 → i = j := by decide +kernel
theorem wnm (f : Nat → Int32) : xnm (sg0 f) = wns := by
  unfold xnm
  rw [wns_ok]
  rfl
section WLD
variable (Γ : xΓ) (a b w z : Nat) (u v : Nat → Nat) (f : Nat → Int32)
theorem w_s : upd (fun _ : Nat => (0 : Int32)) 0 2 = rI (sg0 f) 18 0 := by
  funext k
  show (if k = 0 then (2 : Int32) else 0) = if (18 = 1 ∨ 18 = 18) ∧ k = 0 then nI 2 else if 18 = 36 then f k else 0
  by_cases h : k = 0
  · rw [if_pos h, if_pos ⟨Or.inr rfl, h⟩]
    rfl
  · rw [if_neg h, if_neg (fun x => h x.2)]
    rfl
set_option maxRecDepth 100000 in
set_option maxHeartbeats 4000000 in
theorem we_0_0 : (wls Γ a b w u v)[0]? = some (wad a b w z u v 0 0, xcell Γ (wad a b w z u v) (sg0 f) 0 0) := by
  rw [xcell_obj (by decide +kernel)]
  rfl
theorem we_1_0 : (wls Γ a b w u v)[1]? = some (wad a b w z u v 1 0, xcell Γ (wad a b w z u v) (sg0 f) 1 0) := by
  rw [xcell_obj (by decide +kernel)]
  rfl
theorem we_1_1 : (wls Γ a b w u v)[8]? = some (wad a b w z u v 1 1, xcell Γ (wad a b w z u v) (sg0 f) 1 1) := by
  rw [xcell_obj (by decide +kernel)]
  rfl
theorem we_1_2 : (wls Γ a b w u v)[15]? = some (wad a b w z u v 1 2, xcell Γ (wad a b w z u v) (sg0 f) 1 2) := by
  rw [xcell_obj (by decide +kernel)]
  rfl
theorem we_2_0 : (wls Γ a b w u v)[2]? = some (wad a b w z u v 2 0, xcell Γ (wad a b w z u v) (sg0 f) 2 0) := by
  rw [xcell_ints (by decide +kernel)]
  rfl
theorem we_2_1 : (wls Γ a b w u v)[9]? = some (wad a b w z u v 2 1, xcell Γ (wad a b w z u v) (sg0 f) 2 1) := by
  rw [xcell_ints (by decide +kernel)]
  rfl
theorem we_2_2 : (wls Γ a b w u v)[16]? = some (wad a b w z u v 2 2, xcell Γ (wad a b w z u v) (sg0 f) 2 2) := by
  rw [xcell_ints (by decide +kernel)]
  rfl
theorem we_3_0 : (wls Γ a b w u v)[3]? = some (wad a b w z u v 3 0, xcell Γ (wad a b w z u v) (sg0 f) 3 0) := by
  rw [xcell_ints (by decide +kernel)]
  rfl
theorem we_3_1 : (wls Γ a b w u v)[10]? = some (wad a b w z u v 3 1, xcell Γ (wad a b w z u v) (sg0 f) 3 1) := by
  rw [xcell_ints (by decide +kernel)]
  rfl
theorem we_3_2 : (wls Γ a b w u v)[17]? = some (wad a b w z u v 3 2, xcell Γ (wad a b w z u v) (sg0 f) 3 2) := by
  rw [xcell_ints (by decide +kernel)]
  rfl
theorem we_4_0 : (wls Γ a b w u v)[4]? = some (wad a b w z u v 4 0, xcell Γ (wad a b w z u v) (sg0 f) 4 0) := by
  rw [xcell_ints (by decide +kernel)]
  rfl
theorem we_4_1 : (wls Γ a b w u v)[11]? = some (wad a b w z u v 4 1, xcell Γ (wad a b w z u v) (sg0 f) 4 1) := by
  rw [xcell_ints (by decide +kernel)]
  rfl
theorem we_4_2 : (wls Γ a b w u v)[18]? = some (wad a b w z u v 4 2, xcell Γ (wad a b w z u v) (sg0 f) 4 2) := by
  rw [xcell_ints (by decide +kernel)]
  rfl
theorem we_5_0 : (wls Γ a b w u v)[5]? = some (wad a b w z u v 5 0, xcell Γ (wad a b w z u v) (sg0 f) 5 0) := by
  rw [xcell_refs (by decide +kernel)]
  rfl
theorem we_5_1 : (wls Γ a b w u v)[12]? = some (wad a b w z u v 5 1, xcell Γ (wad a b w z u v) (sg0 f) 5 1) := by
  rw [xcell_refs (by decide +kernel)]
  rfl
theorem we_5_2 : (wls Γ a b w u v)[19]? = some (wad a b w z u v 5 2, xcell Γ (wad a b w z u v) (sg0 f) 5 2) := by
  rw [xcell_refs (by decide +kernel)]
  rfl
theorem we_6_0 : (wls Γ a b w u v)[6]? = some (wad a b w z u v 6 0, xcell Γ (wad a b w z u v) (sg0 f) 6 0) := by
  rw [xcell_ints (by decide +kernel)]
  rfl
theorem we_6_1 : (wls Γ a b w u v)[13]? = some (wad a b w z u v 6 1, xcell Γ (wad a b w z u v) (sg0 f) 6 1) := by
  rw [xcell_ints (by decide +kernel)]
  rfl
theorem we_6_2 : (wls Γ a b w u v)[20]? = some (wad a b w z u v 6 2, xcell Γ (wad a b w z u v) (sg0 f) 6 2) := by
  rw [xcell_ints (by decide +kernel)]
  rfl
theorem we_7_0 : (wls Γ a b w u v)[7]? = some (wad a b w z u v 7 0, xcell Γ (wad a b w z u v) (sg0 f) 7 0) := by
  rw [xcell_ints (by decide +kernel)]
  rfl
theorem we_7_1 : (wls Γ a b w u v)[14]? = some (wad a b w z u v 7 1, xcell Γ (wad a b w z u v) (sg0 f) 7 1) := by
  rw [xcell_ints (by decide +kernel)]
  rfl
theorem we_7_2 : (wls Γ a b w u v)[21]? = some (wad a b w z u v 7 2, xcell Γ (wad a b w z u v) (sg0 f) 7 2) := by
  rw [xcell_ints (by decide +kernel)]
  rfl
theorem we_8_0 : (wls Γ a b w u v)[22]? = some (wad a b w z u v 8 0, xcell Γ (wad a b w z u v) (sg0 f) 8 0) := by
  rw [xcell_obj (by decide +kernel)]
  rfl
theorem we_9_0 : (wls Γ a b w u v)[23]? = some (wad a b w z u v 9 0, xcell Γ (wad a b w z u v) (sg0 f) 9 0) := by
  rw [xcell_ints (by decide +kernel)]
  rfl
theorem we_10_0 : (wls Γ a b w u v)[24]? = some (wad a b w z u v 10 0, xcell Γ (wad a b w z u v) (sg0 f) 10 0) := by
  rw [xcell_ints (by decide +kernel)]
  rfl
theorem we_11_0 : (wls Γ a b w u v)[25]? = some (wad a b w z u v 11 0, xcell Γ (wad a b w z u v) (sg0 f) 11 0) := by
  rw [xcell_ints (by decide +kernel)]
  rfl
theorem we_12_0 : (wls Γ a b w u v)[26]? = some (wad a b w z u v 12 0, xcell Γ (wad a b w z u v) (sg0 f) 12 0) := by
  rw [xcell_refs (by decide +kernel)]
  rfl
theorem we_13_0 : (wls Γ a b w u v)[27]? = some (wad a b w z u v 13 0, xcell Γ (wad a b w z u v) (sg0 f) 13 0) := by
  rw [xcell_fixed (by decide +kernel)]
  have e : (fun k => if k < (xreg 13).2.1 then some (wad a b w z u v (xtgt 13) k) else none) = va_up (va_up (va_up (va_up (va_up (va_up (va_up (va_up (fun _ => none) 0 (some (u 27))) 1 (some (u 29))) 2 (some (u 31))) 3 (some (u 33))) 4 (some (u 35))) 5 (some (u 37))) 6 (some (u 39))) 7 (some (u 41)) := by
    funext k
    by_cases h : k < 8
    · rcases (show k = 0 ∨ k = 1 ∨ k = 2 ∨ k = 3 ∨ k = 4 ∨ k = 5 ∨ k = 6 ∨ k = 7 by omega) with e | e | e | e | e | e | e | e <;> subst e <;> rfl
    · have h0 : (xreg 13).2.1 = 8 := by decide +kernel
      rw [h0, if_neg h]
      simp only [va_up]
      rw [if_neg (by omega), if_neg (by omega), if_neg (by omega), if_neg (by omega), if_neg (by omega), if_neg (by omega), if_neg (by omega), if_neg (by omega)]
  rw [e]
  rfl
theorem we_14_0 : (wls Γ a b w u v)[28]? = some (wad a b w z u v 14 0, xcell Γ (wad a b w z u v) (sg0 f) 14 0) := by
  rw [xcell_obj (by decide +kernel)]
  rfl
theorem we_14_1 : (wls Γ a b w u v)[30]? = some (wad a b w z u v 14 1, xcell Γ (wad a b w z u v) (sg0 f) 14 1) := by
  rw [xcell_obj (by decide +kernel)]
  rfl
theorem we_14_2 : (wls Γ a b w u v)[32]? = some (wad a b w z u v 14 2, xcell Γ (wad a b w z u v) (sg0 f) 14 2) := by
  rw [xcell_obj (by decide +kernel)]
  rfl
theorem we_14_3 : (wls Γ a b w u v)[34]? = some (wad a b w z u v 14 3, xcell Γ (wad a b w z u v) (sg0 f) 14 3) := by
  rw [xcell_obj (by decide +kernel)]
  rfl
theorem we_14_4 : (wls Γ a b w u v)[36]? = some (wad a b w z u v 14 4, xcell Γ (wad a b w z u v) (sg0 f) 14 4) := by
  rw [xcell_obj (by decide +kernel)]
  rfl
theorem we_14_5 : (wls Γ a b w u v)[38]? = some (wad a b w z u v 14 5, xcell Γ (wad a b w z u v) (sg0 f) 14 5) := by
  rw [xcell_obj (by decide +kernel)]
  rfl
theorem we_14_6 : (wls Γ a b w u v)[40]? = some (wad a b w z u v 14 6, xcell Γ (wad a b w z u v) (sg0 f) 14 6) := by
  rw [xcell_obj (by decide +kernel)]
  rfl
theorem we_14_7 : (wls Γ a b w u v)[42]? = some (wad a b w z u v 14 7, xcell Γ (wad a b w z u v) (sg0 f) 14 7) := by
  rw [xcell_obj (by decide +kernel)]
  rfl
theorem we_15_0 : (wls Γ a b w u v)[29]? = some (wad a b w z u v 15 0, xcell Γ (wad a b w z u v) (sg0 f) 15 0) := by
  rw [xcell_ints (by decide +kernel)]
  rfl
theorem we_15_1 : (wls Γ a b w u v)[31]? = some (wad a b w z u v 15 1, xcell Γ (wad a b w z u v) (sg0 f) 15 1) := by
  rw [xcell_ints (by decide +kernel)]
  rfl
theorem we_15_2 : (wls Γ a b w u v)[33]? = some (wad a b w z u v 15 2, xcell Γ (wad a b w z u v) (sg0 f) 15 2) := by
  rw [xcell_ints (by decide +kernel)]
  rfl
theorem we_15_3 : (wls Γ a b w u v)[35]? = some (wad a b w z u v 15 3, xcell Γ (wad a b w z u v) (sg0 f) 15 3) := by
  rw [xcell_ints (by decide +kernel)]
  rfl
theorem we_15_4 : (wls Γ a b w u v)[37]? = some (wad a b w z u v 15 4, xcell Γ (wad a b w z u v) (sg0 f) 15 4) := by
  rw [xcell_ints (by decide +kernel)]
  rfl
theorem we_15_5 : (wls Γ a b w u v)[39]? = some (wad a b w z u v 15 5, xcell Γ (wad a b w z u v) (sg0 f) 15 5) := by
  rw [xcell_ints (by decide +kernel)]
  rfl
theorem we_15_6 : (wls Γ a b w u v)[41]? = some (wad a b w z u v 15 6, xcell Γ (wad a b w z u v) (sg0 f) 15 6) := by
  rw [xcell_ints (by decide +kernel)]
  rfl
theorem we_15_7 : (wls Γ a b w u v)[43]? = some (wad a b w z u v 15 7, xcell Γ (wad a b w z u v) (sg0 f) 15 7) := by
  rw [xcell_ints (by decide +kernel)]
  rfl
theorem we_17_0 : (wls Γ a b w u v)[44]? = some (wad a b w z u v 17 0, xcell Γ (wad a b w z u v) (sg0 f) 17 0) := by
  rw [xcell_obj (by decide +kernel)]
  rfl
theorem we_18_0 : (wls Γ a b w u v)[45]? = some (wad a b w z u v 18 0, xcell Γ (wad a b w z u v) (sg0 f) 18 0) := by
  rw [xcell_ints (by decide +kernel), ← w_s]
  rfl
theorem we_19_0 : (wls Γ a b w u v)[46]? = some (wad a b w z u v 19 0, xcell Γ (wad a b w z u v) (sg0 f) 19 0) := by
  rw [xcell_ints (by decide +kernel)]
  rfl
theorem we_20_0 : (wls Γ a b w u v)[47]? = some (wad a b w z u v 20 0, xcell Γ (wad a b w z u v) (sg0 f) 20 0) := by
  rw [xcell_ints (by decide +kernel)]
  rfl
theorem we_21_0 : (wls Γ a b w u v)[48]? = some (wad a b w z u v 21 0, xcell Γ (wad a b w z u v) (sg0 f) 21 0) := by
  rw [xcell_ints (by decide +kernel)]
  rfl
theorem we_22_0 : (wls Γ a b w u v)[49]? = some (wad a b w z u v 22 0, xcell Γ (wad a b w z u v) (sg0 f) 22 0) := by
  rw [xcell_ints (by decide +kernel)]
  rfl
theorem we_23_0 : (wls Γ a b w u v)[50]? = some (wad a b w z u v 23 0, xcell Γ (wad a b w z u v) (sg0 f) 23 0) := by
  rw [xcell_ints (by decide +kernel)]
  rfl
theorem we_24_0 : (wls Γ a b w u v)[51]? = some (wad a b w z u v 24 0, xcell Γ (wad a b w z u v) (sg0 f) 24 0) := by
  rw [xcell_ints (by decide +kernel)]
  rfl
theorem we_25_0 : (wls Γ a b w u v)[52]? = some (wad a b w z u v 25 0, xcell Γ (wad a b w z u v) (sg0 f) 25 0) := by
  rw [xcell_ints (by decide +kernel)]
  rfl
theorem we_26_0 : (wls Γ a b w u v)[53]? = some (wad a b w z u v 26 0, xcell Γ (wad a b w z u v) (sg0 f) 26 0) := by
  rw [xcell_ints (by decide +kernel)]
  rfl
theorem we_27_0 : (wls Γ a b w u v)[54]? = some (wad a b w z u v 27 0, xcell Γ (wad a b w z u v) (sg0 f) 27 0) := by
  rw [xcell_ints (by decide +kernel)]
  rfl
theorem we_28_0 : (wls Γ a b w u v)[55]? = some (wad a b w z u v 28 0, xcell Γ (wad a b w z u v) (sg0 f) 28 0) := by
  rw [xcell_ints (by decide +kernel)]
  rfl
theorem we_29_0 : (wls Γ a b w u v)[56]? = some (wad a b w z u v 29 0, xcell Γ (wad a b w z u v) (sg0 f) 29 0) := by
  rw [xcell_ints (by decide +kernel)]
  rfl
theorem we_30_0 : (wls Γ a b w u v)[57]? = some (wad a b w z u v 30 0, xcell Γ (wad a b w z u v) (sg0 f) 30 0) := by
  rw [xcell_ints (by decide +kernel)]
  rfl
theorem we_31_0 : (wls Γ a b w u v)[58]? = some (wad a b w z u v 31 0, xcell Γ (wad a b w z u v) (sg0 f) 31 0) := by
  rw [xcell_ints (by decide +kernel)]
  rfl
theorem we_32_0 : (wls Γ a b w u v)[59]? = some (wad a b w z u v 32 0, xcell Γ (wad a b w z u v) (sg0 f) 32 0) := by
  rw [xcell_ints (by decide +kernel)]
  rfl
theorem we_33_0 : (wls Γ a b w u v)[60]? = some (wad a b w z u v 33 0, xcell Γ (wad a b w z u v) (sg0 f) 33 0) := by
  rw [xcell_ints (by decide +kernel)]
  rfl
theorem we_34_0 : (wls Γ a b w u v)[61]? = some (wad a b w z u v 34 0, xcell Γ (wad a b w z u v) (sg0 f) 34 0) := by
  rw [xcell_ints (by decide +kernel)]
  rfl
theorem we_35_0 : (wls Γ a b w u v)[62]? = some (wad a b w z u v 35 0, xcell Γ (wad a b w z u v) (sg0 f) 35 0) := by
  rw [xcell_longs (by decide +kernel)]
  rfl
theorem we_all : ∀ k, k < 63 → (wls Γ a b w u v)[wpos.getD k 0]? = some (wad a b w z u v (wns.getD k (0, 0)).1 (wns.getD k (0, 0)).2, xcell Γ (wad a b w z u v) (sg0 f) (wns.getD k (0, 0)).1 (wns.getD k (0, 0)).2) := by
  intro k hk
  match k, hk with
  | 0, _ => exact we_0_0 Γ a b w z u v f
  | 1, _ => exact we_1_0 Γ a b w z u v f
  | 2, _ => exact we_1_1 Γ a b w z u v f
  | 3, _ => exact we_1_2 Γ a b w z u v f
  | 4, _ => exact we_2_0 Γ a b w z u v f
  | 5, _ => exact we_2_1 Γ a b w z u v f
  | 6, _ => exact we_2_2 Γ a b w z u v f
  | 7, _ => exact we_3_0 Γ a b w z u v f
  | 8, _ => exact we_3_1 Γ a b w z u v f
  | 9, _ => exact we_3_2 Γ a b w z u v f
  | 10, _ => exact we_4_0 Γ a b w z u v f
  | 11, _ => exact we_4_1 Γ a b w z u v f
  | 12, _ => exact we_4_2 Γ a b w z u v f
  | 13, _ => exact we_5_0 Γ a b w z u v f
  | 14, _ => exact we_5_1 Γ a b w z u v f
  | 15, _ => exact we_5_2 Γ a b w z u v f
  | 16, _ => exact we_6_0 Γ a b w z u v f
  | 17, _ => exact we_6_1 Γ a b w z u v f
  | 18, _ => exact we_6_2 Γ a b w z u v f
  | 19, _ => exact we_7_0 Γ a b w z u v f
  | 20, _ => exact we_7_1 Γ a b w z u v f
  | 21, _ => exact we_7_2 Γ a b w z u v f
  | 22, _ => exact we_8_0 Γ a b w z u v f
  | 23, _ => exact we_9_0 Γ a b w z u v f
  | 24, _ => exact we_10_0 Γ a b w z u v f
  | 25, _ => exact we_11_0 Γ a b w z u v f
  | 26, _ => exact we_12_0 Γ a b w z u v f
  | 27, _ => exact we_13_0 Γ a b w z u v f
  | 28, _ => exact we_14_0 Γ a b w z u v f
  | 29, _ => exact we_14_1 Γ a b w z u v f
  | 30, _ => exact we_14_2 Γ a b w z u v f
  | 31, _ => exact we_14_3 Γ a b w z u v f
  | 32, _ => exact we_14_4 Γ a b w z u v f
  | 33, _ => exact we_14_5 Γ a b w z u v f
  | 34, _ => exact we_14_6 Γ a b w z u v f
  | 35, _ => exact we_14_7 Γ a b w z u v f
  | 36, _ => exact we_15_0 Γ a b w z u v f
  | 37, _ => exact we_15_1 Γ a b w z u v f
  | 38, _ => exact we_15_2 Γ a b w z u v f
  | 39, _ => exact we_15_3 Γ a b w z u v f
  | 40, _ => exact we_15_4 Γ a b w z u v f
  | 41, _ => exact we_15_5 Γ a b w z u v f
  | 42, _ => exact we_15_6 Γ a b w z u v f
  | 43, _ => exact we_15_7 Γ a b w z u v f
  | 44, _ => exact we_17_0 Γ a b w z u v f
  | 45, _ => exact we_18_0 Γ a b w z u v f
  | 46, _ => exact we_19_0 Γ a b w z u v f
  | 47, _ => exact we_20_0 Γ a b w z u v f
  | 48, _ => exact we_21_0 Γ a b w z u v f
  | 49, _ => exact we_22_0 Γ a b w z u v f
  | 50, _ => exact we_23_0 Γ a b w z u v f
  | 51, _ => exact we_24_0 Γ a b w z u v f
  | 52, _ => exact we_25_0 Γ a b w z u v f
  | 53, _ => exact we_26_0 Γ a b w z u v f
  | 54, _ => exact we_27_0 Γ a b w z u v f
  | 55, _ => exact we_28_0 Γ a b w z u v f
  | 56, _ => exact we_29_0 Γ a b w z u v f
  | 57, _ => exact we_30_0 Γ a b w z u v f
  | 58, _ => exact we_31_0 Γ a b w z u v f
  | 59, _ => exact we_32_0 Γ a b w z u v f
  | 60, _ => exact we_33_0 Γ a b w z u v f
  | 61, _ => exact we_34_0 Γ a b w z u v f
  | 62, _ => exact we_35_0 Γ a b w z u v f
  | k + 63, h => exact absurd h (by omega)
theorem we_get {k : Nat} {q : Nat × va_E} (h : (xW Γ (wad a b w z u v) (sg0 f))[k]? = some q) : k < 63 ∧ (wls Γ a b w u v)[wpos.getD k 0]? = some q := by
  unfold xW at h
  rw [wnm, List.getElem?_map] at h
  have hk : k < 63 := by
    cases hn : wns[k]? with
    | none => rw [hn] at h; cases h
    | some n =>
      have := (List.getElem?_eq_some_iff.mp hn).1
      exact this
  refine ⟨hk, ?_⟩
  rw [we_all Γ a b w z u v f k hk, ← h]
  have e : wns[k]? = some (wns.getD k (0, 0)) := by
    rw [List.getD, List.getElem?_eq_getElem (show k < wns.length from hk)]
    rfl
  rw [e]
  rfl
variable {Γ a b w z u v f}
theorem we_P {H : Heap} (h : va_P Γ.1 vwCl (wls Γ a b w u v) H) : va_P Γ.1 vwCl (xW Γ (wad a b w z u v) (sg0 f)) H := h.by (fun k => wpos.getD k 0) fun k q hk => (we_get Γ a b w z u v f hk).2
theorem we_D {A : Nat → Prop} (h : va_D A (wls Γ a b w u v)) : va_D A (xW Γ (wad a b w z u v) (sg0 f)) := h.by (fun k => wpos.getD k 0) (fun k q hk => (we_get Γ a b w z u v f hk).2) fun i j hi hj he => by
  have hl : (xW Γ (wad a b w z u v) (sg0 f)).length = 63 := by
    unfold xW
    rw [wnm, List.length_map]
    rfl
  rw [hl] at hi hj
  exact wpos_inj i hi j hj he
end WLD
