/-! FROM THE ABSTRACT RUN TO THE LAW -/
section WH
variable {p : Program} {l : Launch} {e : Env} {R : Room} {s : State} {m : MethodId} {args : Array Value} {below : List Frame} {meth : Method} {c : Code} {Q : State → Prop} {H : Heap} {locs : List Loc} {cells slots : Nat}
/-- what lies above the start's heap need not be named -/
theorem wk_drop {g : JFrame} {k n : Nat} (h : W p l e R s m args below meth c H [] k n Q g) (hl : ∀ q ∈ locs, s.heap.size ≤ q.base) (hc : cells ≤ k) (hn : slots ≤ n) : W p l e R s m args below meth c H locs cells slots Q g := by
  intro T hT X
  refine h T hT { X with same := ?_ }
  obtain ⟨h1, h2, h3, h4, h5, h6⟩ := X.same
  refine ⟨h1, h2, Nat.le_trans h3 (Nat.add_le_add_left hc _), h4, Nat.le_trans h5 hn, fun a c ha => ?_⟩
  obtain ⟨c', k1, k2, k3, k4⟩ := h6 a c ha
  refine ⟨c', k1, k2, k3, fun i _ => k4 i (fun hm => ?_)⟩
  have h7 : s.heap.size ≤ a := hl _ hm
  have h8 := (Array.getElem?_eq_some_iff.mp ha).1
  omega
theorem lw_zret {b : Nat} (hexec : p.tables.exec = Jvm.exec) {cc : ByteArray} (hb : c.code = cc) (hr : meth.sig.returnType = some .boolean) (hlocks : meth.locks = false) {v : Int32} (hv : v &&& 1 = 1) {pc : Nat} {ls : Array Slot} (hdg : decode cc pc = .ok (.ireturn, 1)) : W p l e room_1 s m #[Value.ref b] below meth c H [] 601024 7293034 (lw_Z below #[Value.ref b] s) (F0 m pc ls [.int v]) := by
  intro T hT X
  obtain ⟨fs, hret, hrun, hended, hW, hframe⟩ := X.leave (v := some (.int (v &&& 1))) (hlocks := hlocks) (fun h => by rw [hr] at h; cases h)
  have hmeth' : T.vm.method? m = some meth := X.method'
  refine ⟨T.setFrames fs, ?_, .returned (some (.int (v &&& 1))), hrun, hended, by rw [hv], ⟨_, rfl⟩, hW, hframe⟩
  jvm_step X.here [X.here.top, hexec, hb, hdg, hmeth', hr, narrow]
  (try refine ⟨rfl, ?_⟩); (try refine ⟨rfl, ?_⟩)
  first | (intro acts; rw [hret _ acts rfl rfl rfl]) | rw [hret _ _ rfl rfl rfl]
  exact Steps.refl _
theorem law_kind : (xmeth 79).2.2.2.1 = 4 ∧ (xmeth 79).2.2.1 = 8 := by decide +kernel
theorem law_code : (xmeth 79).2.1 = code := rfl
theorem law_end {b L : Nat} {xs : Nat → Int32} (C0 : lw_At p s m meth c b L xs) {Γ : xΓ} {ad0 : Nat → Nat → Nat} {σ0 σ' : xS} {y : Nat} (hk4 : (xmeth y).2.2.2.1 = 4) (hkc : (xmeth y).2.1 = code) (h1 : σ'.2.2.2.2.1 ≤ 601024) (h2 : σ'.2.2.2.2.2 ≤ 7293034) : xEnd Γ ad0 σ0 (va_A [] s.heap.size) s.heap p l e room_1 s m #[.ref b] below meth c (lw_Z below #[Value.ref b] s) y ((nI 1, 0, none), σ') := by
  intro pc ins len aux ps ls st σ hchk hs ad H locs lsA hW hl hkS
  obtain ⟨hx, hb, hr, hml, hown, htw, hX, hbl, hlocks, -⟩ := C0
  obtain ⟨hP, hD, hS, hwf, hag, hpre⟩ := hW
  have hdl : decode (xmeth y).2.1 pc = .ok (ins, len) := of_decide_eq_true (Bool.and_eq_true_iff.mp hchk).1
  have hc := (Bool.and_eq_true_iff.mp hchk).2
  have hm := xmn_step (σ := σ) (rk := (xmeth y).2.2.2.1) (rr := (xmeth y).2.2.2.2.1) (ks := (xmeth y).2.2.2.2.2.2.2) (y := y) (e := (pc, ins, len, aux)) (ls := ls) (st := st)
  rw [hs] at hm
  have hir : xisR ins = true := hm.1
  rw [hk4] at hs
  have fin : ∀ v : Int32, v &&& 1 = 1 → ∀ H, decode code pc = .ok (.ireturn, 1) → σ.2.2.2.2.1 ≤ 601024 → σ.2.2.2.2.2 ≤ 7293034 → W p l e room_1 s m #[.ref b] below meth c H locs (σ.2.2.2.2.1 - σ0.2.2.2.2.1) (σ.2.2.2.2.2 - σ0.2.2.2.2.2) (lw_Z below #[Value.ref b] s) (F0 m pc lsA [.int v]) := fun v hv H hd g1 g2 =>
    wk_drop (lw_zret hx hb (hr.trans rfl) hlocks hv hd) (fun q hq => by
      rcases hS.2.2 q hq with ⟨k, e, h⟩ | h
      · cases h
      · exact h) (by omega) (by omega)
  unfold xisR at hir
  split at hir
  · have hlen := Nat.eq_of_beq_eq_true hc
    subst hlen
    simp only [xstep] at hs
    split at hs
    · rename_i a
      have hq := Sum.inl.inj (Option.some.inj hs)
      have e1 : a &&& 1 = 1 := congrArg (fun z => z.1.1) hq
      have e2 : σ = σ' := congrArg (fun z => z.2) hq
      subst e2
      exact fin a e1 H (by rw [← hkc]; exact hdl) h1 h2
    · cases hs
  · simp only [xstep] at hs
    split at hs <;> cases hs
  · simp only [xstep] at hs
    split at hs
    · rename_i r o
      cases hz : Nat.beq (xmeth y).2.2.2.2.1 r <;> rw [hz] at hs <;> cases hs
    · cases hs
  · simp only [xstep] at hs
    split at hs <;> cases hs
  · cases hir
set_option maxHeartbeats 4000000 in
theorem law_whole (hI : ∀ n, xMain l n) (hp : ∀ (Γ : xΓ) (ad0 : Nat → Nat → Nat) (σ0 : xS) {b L : Nat} {xs : Nat → Int32}, lw_At p s m meth c b L xs → xCtx Γ ad0 σ0 79 61 (va_A [] s.heap.size) s.heap p room_1 s m #[.ref b] meth c → xPrim Γ ad0 σ0 (va_A [] s.heap.size) s.heap p l e room_1 s m #[.ref b] below meth c (lw_Z below #[Value.ref b] s) 79) {b L : Nat} {xs : Nat → Int32} (hL : L ≤ 3072) (C0 : lw_At p s m meth c b L xs) : W p l e room_1 s m #[Value.ref b] below meth c s.heap [] 0 0 (lw_Z below #[Value.ref b] s) (entryFrame m ([Value.ref b] : List Value).toArray 8) := by
  obtain ⟨hx, hb, hr, hml, hown, htw, hX, hbl, hlocks, -⟩ := id C0
  obtain ⟨Γ, hK⟩ := wk_G htw
  refine law_head l C0 hK fun a0 b0 w u v H locs ls hP hD hS hl => ?_
  obtain ⟨f, hf1, hf2⟩ : ∃ f : Nat → Int32, (∀ k, k < L → f k = xs k) ∧ f 3072 = nI L := ⟨fun k => if k < L then xs k else nI L, fun k hk => if_pos hk, if_neg (by omega)⟩
  obtain ⟨σ', hr1, hr2, hr3⟩ := law_run f L hf2 hL 0
  obtain ⟨n, hn⟩ := run_iff.mp hr1
  have hsc : xscr (wad a0 b0 w b u v) (sg0 f) s s.heap (va_A [] s.heap.size) := by
    refine ⟨L, xs, hX, hbl, fun h => ?_, fun k hk => ?_, ?_, hL⟩
    · rcases h with ⟨k, e, h⟩ | h
      · cases h
      · exact absurd hbl (Nat.not_lt.mpr h)
    · rw [← hf1 k hk]
      rfl
    · rw [← hf2]
      rfl
  obtain ⟨σ0, hσ0⟩ : ∃ σ0 : xS, σ0 = ((sg0 f).1, (sg0 f).2.1, (sg0 f).2.2.1, (sg0 f).2.2.2.1, 0, 0) := ⟨_, rfl⟩
  have hsc0 : xscr (wad a0 b0 w b u v) σ0 s s.heap (va_A [] s.heap.size) := by rw [hσ0]; exact hsc
  have C : xCtx Γ (wad a0 b0 w b u v) σ0 79 61 (va_A [] s.heap.size) s.heap p room_1 s m #[.ref b] meth c :=
    ⟨hx, hb, hml, hown, fun w h1 _ => htw w h1, fun w h1 h2 => va_Nw.of (xnw_tab h2) (htw w h1), hK, fun q h => Or.inr h, by decide, by decide, fun h => absurd h (by decide +kernel), hsc0⟩
  have hN : σ'.2.2.2.2.1 ≤ 103000 := hr2
  have hM : σ'.2.2.2.2.2 ≤ 824000 := hr3
  have e0 : σ0.2.2.2.2.1 = 0 := by rw [hσ0]
  have e1 : σ0.2.2.2.2.2 = 0 := by rw [hσ0]
  have K := (hI n 61 79 _ _ hn (by decide +kernel) Γ (wad a0 b0 w b u v) σ0 (va_A [] s.heap.size) s.heap p e room_1 s m #[.ref b] below meth c (lw_Z below #[Value.ref b] s) C (by
      show σ'.2.2.2.2.1 ≤ 601024 + _ ∧ σ'.2.2.2.2.2 ≤ 7293034 + _
      omega) (law_end C0 law_kind.1 law_code (by omega) (by omega)) (hp Γ _ _ C0 C) rfl).2 (wad a0 b0 w b u v) H locs ls ⟨we_P hP, we_D hD, hS, ?_, fun _ _ _ => rfl, ?_⟩ ?_ law_kind.2.symm ?_ (fun v hv => by cases hv)
  · have e2 : (sg0 f).2.2.2.2.1 = 63 := rfl
    have e3 : (sg0 f).2.2.2.2.2 = 2345 := rfl
    rw [e0, e1] at K
    exact K
  · refine ⟨fun r i k j _ h => ?_, fun r i k j _ _ h => ?_, fun c hc => ?_⟩
    · cases h
    · cases h
    · cases hc
  · rw [hσ0]
    exact ⟨⟨[], rfl⟩, Nat.zero_le _, Nat.zero_le _, fun _ => rfl⟩
  · refine lv_less (l := [(4, .int 0), (3, .ref w), (2, .ref b0), (1, .ref a0), (0, .ref b)]) (by rw [law_kind.2]; exact hl) (fun q hq => ?_)
    have hq : q ∈ [(0, Value.ref b), (1, .ref a0), (2, .ref b0), (3, .ref w), (4, .int 0)] := hq
    simp only [List.mem_cons, List.not_mem_nil, or_false] at hq ⊢
    rcases hq with h | h | h | h | h <;> simp [h]
  · intro k v hk
    match k, hk with
    | 0, hk => cases hk; show 0 < xcnt (sg0 f) 36; exact Nat.zero_lt_one
    | 1, hk => cases hk; show 0 < xcnt (sg0 f) 0; exact Nat.zero_lt_one
    | 2, hk => cases hk; show 0 < xcnt (sg0 f) 17; exact Nat.zero_lt_one
    | 3, hk => cases hk; show 0 < xcnt (sg0 f) 35; exact Nat.zero_lt_one
    | 4, hk => cases hk; trivial
    | 5, hk => cases hk
    | 6, hk => cases hk
    | 7, hk => cases hk
    | k + 8, hk => cases hk
end WH
