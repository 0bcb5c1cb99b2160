/-! THE TABLES ARE WHAT THE CLAIM SAYS: each entry of the code against the bytes and the words (by places in lw_tbl) -/
def xnest : Jvm.Cond → Bool
  | .fieldLinkNest .. => true
  | .methodLinkNest .. => true
  | .castable .. => true
  | _ => false
def xw (i : Nat) (w : Jvm.Cond) : Bool := decide (lw_tbl[i]? = some w)
def xg (i : Nat) (w : Jvm.Cond) : Bool := xw i w && goodWord w
def xcN (aux : List Nat) (x : Int32) : Bool := match aux with
  | [v] => decide (x = nI v)
  | [_, v] => decide (x = -nI v)
  | _ => true
def xcJ (pc : Nat) (aux : List Nat) (off : Int) : Bool := match aux with
  | [t] => decide ((pc : Int) + off = (t : Int))
  | _ => true
/-- the keys and places of a table switch -/
def xcT (pc : Nat) : Int → List Nat → List Int → Bool
  | k, v :: t :: r, o :: os => decide (k = (v : Int)) && Nat.blt v 1000000 && decide ((pc : Int) + o = (t : Int)) && xcT pc (k + 1) r os
  | _, [], [] => true
  | _, _, _ => false
def xcL (pc : Nat) : List Nat → List (Int × Int) → Bool
  | v :: t :: r, (k, o) :: os => decide (k = (v : Int)) && Nat.blt v 1000000 && decide ((pc : Int) + o = (t : Int)) && xcL pc r os
  | [], [] => true
  | _, _ => false
def xcsr : List Nat := [0, 1, 3, 4, 5, 6, 8, 9]
/-- a field's link: of a class (by its number; 100: any carrier) -/
def xcF (own : String) (mname : String) (put : Bool) (i : Nat) (aux ps : List Nat) : Bool := match aux with
  | [c, k] =>
    let cl : List Nat := if c = 100 then xcsr else [c]
    let T0 := ((vwCl.getD (cl.headD 0) (RX0, TX0, 2)).2.1 k)
    let ref := if c = 100 then (if ps.getD 2 0 = 0 then own else RX0) else (vwCl.getD c (RX0, TX0, 2)).1
    (xg (ps.getD 0 0) (.fieldLink own i ref T0.2.1 T0.2.2.1) || xw (ps.getD 0 0) (.fieldLinkNest own i ref T0.2.1 T0.2.2.1 RX11)) &&
    (decide (T0.1 = ref) || xg (ps.getD 1 0) (.sameField ref T0.1 T0.2.1 T0.2.2.1)) &&
    (cl.all fun ci => decide (ci < 13) && decide (k < (vwCl.getD ci (RX0, TX0, 2)).2.2) && decide ((vwCl.getD ci (RX0, TX0, 2)).2.1 k = T0)) &&
    (!put || !T0.2.2.2 || (decide (mname = "<init>") && decide (T0.1 = own) && xg (ps.getD 0 0) (.fieldLink own i ref T0.2.1 T0.2.2.1)))
  | _ => true
def xcP (y : MethodName) (n : Nat) : Bool := decide ((parseMethodDescriptor y.desc).map (fun d => d.parameters.length) = some n) && decide (y.cls ≠ "java/lang/invoke/MethodHandle") && decide (y.cls ≠ "java/lang/invoke/VarHandle")
/-- a call of a known method: what it gives back is what the table of methods says -/
def xcR (y1 k r w : Nat) : Bool := Nat.ble w (xmeth y1).2.2.1 && Nat.beq (xmeth y1).2.2.2.1 k && Nat.beq (xmeth y1).2.2.2.2.1 r && Nat.blt y1 xMeth.length && !Nat.beq y1 79
def xcC (own : String) (i : Nat) (aux ps : List Nat) : Bool := match aux with
  | [0, y1, n, k, r, w] => (xg (ps.getD 0 0) (.methodLink own i (xmeth y1).1) || xw (ps.getD 0 0) (.methodLinkNest own i (xmeth y1).1 RX11)) && xg (ps.getD 1 0) (.static (xmeth y1).1) && xg (ps.getD 2 0) (.initialized (xmeth y1).1.cls) && xcP (xmeth y1).1 n && xcR y1 k r w
  | [5] => xg (ps.getD 0 0) (.methodLink own i arraycopyName) && xg (ps.getD 1 0) (.native arraycopyName) && xg (ps.getD 2 0) (.static arraycopyName) && xg (ps.getD 3 0) (.initialized "java/lang/System")
  | [7] => decide (own = RL)
  | _ => true
def xcV (own : String) (i : Nat) (aux ps : List Nat) : Bool := match aux with
  | [1, y1, c, n, k, r, w] => xg (ps.getD 0 0) (.methodLink own i (xmeth y1).1) && xg (ps.getD 1 0) (.instanceMethod (xmeth y1).1) && xg (ps.getD 2 0) (.selects (xmeth y1).1.cls (xmeth y1).1 (xmeth y1).1) && xg (ps.getD 3 0) (.initialized (xmeth y1).1.cls) && decide ((vwCl.getD c (RX0, TX0, 2)).1 = (xmeth y1).1.cls) && decide (c < 13) && xcP (xmeth y1).1 n && xcR y1 k r (w + 1)
  | [2, sel, n, k, r, w] =>
    let x := (xmeth (xvt sel 0)).1
    decide (x.cls = RX0) && xg (ps.getD 0 0) (.methodLink own i x) && xg (ps.getD 1 0) (.sameMethod RX0 RX0 x.name x.desc) && xg (ps.getD 2 0) (.instanceMethod x) && xcP x n && xcR (xvt sel 0) k r (w + 1) &&
    ((List.range 8).all fun j => let ci := xcsr.getD j 0
      let y := (xmeth (xvt sel ci)).1
      xg (ps.getD (3 + 3 * j) 0) (.selects (vwCl.getD ci (RX0, TX0, 2)).1 x y) && xg (ps.getD (4 + 3 * j) 0) (.instanceMethod y) && xg (ps.getD (5 + 3 * j) 0) (.initialized y.cls) && xcR (xvt sel ci) k r (w + 1) && decide (y.desc = x.desc) && decide (y.name = x.name))
  | [6] => decide (own = RL)
  | _ => true
def xcS (own : String) (i : Nat) (aux ps : List Nat) : Bool := match aux with
  | [3, y1, n, k, r, w] => xcP (xmeth y1).1 n && xcR y1 k r (w + 1) &&
    (if (xmeth y1).1.name = "<init>" then xg (ps.getD 0 0) (.methodLink own i (xmeth y1).1) && xg (ps.getD 1 0) (.instanceMethod (xmeth y1).1) && xg (ps.getD 2 0) (.initialized (xmeth y1).1.cls) && Nat.beq k 0
     else
      let xc := (vwCl.getD (ps.getD 5 0) (RX0, TX0, 2)).1
      xg (ps.getD 0 0) (.methodLink own i ⟨xc, (xmeth y1).1.name, (xmeth y1).1.desc⟩) && xg (ps.getD 1 0) (.sameMethod xc (xmeth y1).1.cls (xmeth y1).1.name (xmeth y1).1.desc) && xg (ps.getD 2 0) (.superclass own xc) && xg (ps.getD 3 0) (.instanceMethod (xmeth y1).1) && xg (ps.getD 4 0) (.initialized (xmeth y1).1.cls) &&
      (decide (xc = (xmeth y1).1.cls) || xg (ps.getD 6 0) (.superclass xc (xmeth y1).1.cls)))
  | [4] => xg (ps.getD 0 0) (.methodLink own i objectInit) && xg (ps.getD 1 0) (.instanceMethod objectInit) && xg (ps.getD 2 0) (.code objectInit ⟨#[0xb1]⟩ 1 none)
  | _ => true
def xchk (nm : MethodName) (bytes : ByteArray) (mL : Nat) (e : xE) (ps : List Nat) : Bool := match e with
  | (pc, ins, len, aux) => decide (decode bytes pc = .ok (ins, len)) && (match ins with
    | .iconst n => Nat.beq len 1 && xcN aux (Int32.ofInt n)
    | .bipush n => Nat.beq len 2 && xcN aux (Int8.ofInt n).toInt32
    | .sipush n => Nat.beq len 3 && xcN aux (Int16.ofInt n).toInt32
    | .iinc _ n => Nat.beq len 3 && xcN aux (Int32.ofInt n)
    | .lconst n => Nat.beq len 1 && (match aux with | [v] => decide (Int64.ofNat n.val = lN v) | _ => true)
    | .ldc i => Nat.beq len 2 && (match aux with | [v] => xg (ps.getD 0 0) (.constant nm.cls i (nI v)) | _ => true)
    | .ldc_w i => Nat.beq len 3 && (match aux with | [v] => xg (ps.getD 0 0) (.constant nm.cls i (nI v)) | _ => true)
    | .ldc2_w i => Nat.beq len 3 && (match aux with | [v] => xg (ps.getD 0 0) (.constantLong nm.cls i (lN v)) | _ => true)
    | .iload _ => Nat.beq len 2
    | .lload _ => Nat.beq len 2
    | .aload _ => Nat.beq len 2
    | .istore k => Nat.beq len 2 && Nat.blt k mL
    | .lstore k => Nat.beq len 2 && Nat.blt (k + 1) mL
    | .astore k => Nat.beq len 2 && Nat.blt k mL
    | .istore_n k => Nat.beq len 1 && Nat.blt k.val mL
    | .lstore_n k => Nat.beq len 1 && Nat.blt (k.val + 1) mL
    | .astore_n k => Nat.beq len 1 && Nat.blt k.val mL
    | .goto off => Nat.beq len 3 && xcJ pc aux off
    | .ifCond _ off => Nat.beq len 3 && xcJ pc aux off
    | .if_icmp _ off => Nat.beq len 3 && xcJ pc aux off
    | .ifnull off => Nat.beq len 3 && xcJ pc aux off
    | .ifnonnull off => Nat.beq len 3 && xcJ pc aux off
    | .tableswitch d lo hi offs => (match aux with | t :: r => decide ((pc : Int) + d = (t : Int)) && xcT pc lo r offs.toList && decide (hi + 1 = lo + offs.size) | _ => true)
    | .lookupswitch d prs => (match aux with | t :: r => decide ((pc : Int) + d = (t : Int)) && xcL pc r prs.toList && ((prs.toList.zip (prs.toList.drop 1)).all (fun (a, next) => a.1 < next.1)) | _ => true)
    | .getfield i => Nat.beq len 3 && xcF nm.cls nm.name false i aux ps
    | .putfield i => Nat.beq len 3 && xcF nm.cls nm.name true i aux ps
    | .new i => Nat.beq len 3 && (match aux with
      | [c] => xcsr.elem c && xg (ps.getD 0 0) (.classLink nm.cls i (vwCl.getD c (RX0, TX0, 2)).1) && xg (ps.getD 1 0) (.instantiable (vwCl.getD c (RX0, TX0, 2)).1 2) && xg (ps.getD 2 0) (.initialized (vwCl.getD c (RX0, TX0, 2)).1)
      | _ => true)
    | .newarray _ => true
    | .athrow => true
    | .invokestatic i => Nat.beq len 3 && xcC nm.cls i aux ps
    | .invokevirtual i => Nat.beq len 3 && xcV nm.cls i aux ps
    | .invokespecial i => Nat.beq len 3 && xcS nm.cls i aux ps
    | _ => Nat.beq len 1)
def xchks (nm : MethodName) (bytes : ByteArray) (mL : Nat) : List xE → List (List Nat) → Bool
  | [], _ => true
  | e :: l, ps :: r => xchk nm bytes mL e ps && xchks nm bytes mL l r
  | e :: l, [] => xchk nm bytes mL e [] && xchks nm bytes mL l []
/-- the head of a method that is called -/
def xhead (m : xM) (i : Nat) : Bool := match m with
  | (nm, bytes, maxL, rk, _, rt, _, _) => xg i (.code nm bytes maxL rt) && plainName nm.cls && Nat.ble maxL 37 &&
    (match rk, rt with
      | 0, none => true
      | 1, some .int => true
      | 2, some .long => true
      | 4, some .boolean => true
      | 3, some (.object _) => true
      | _, _ => false)
theorem xchks_of {nm : MethodName} {bytes : ByteArray} {mL : Nat} : ∀ {l : List xE} {ps : List (List Nat)}, xchks nm bytes mL l ps = true → ∀ e ∈ l, ∃ q, xchk nm bytes mL e q = true
  | [], _, _, e, he => by cases he
  | a :: l, [], h, e, he => by
    unfold xchks at h
    rw [Bool.and_eq_true] at h
    rcases List.mem_cons.mp he with h1 | h1
    · subst h1; exact ⟨_, h.1⟩
    · exact xchks_of h.2 e h1
  | a :: l, q :: ps, h, e, he => by
    unfold xchks at h
    rw [Bool.and_eq_true] at h
    rcases List.mem_cons.mp he with h1 | h1
    · subst h1; exact ⟨_, h.1⟩
    · exact xchks_of h.2 e h1
theorem xchks_cut {nm : MethodName} {bytes : ByteArray} {mL : Nat} {l : List xE} (n : Nat) (h1 : ∀ e ∈ l.take n, ∃ q, xchk nm bytes mL e q = true) (h2 : ∀ e ∈ l.drop n, ∃ q, xchk nm bytes mL e q = true) : ∀ e ∈ l, ∃ q, xchk nm bytes mL e q = true := by
  intro e he
  rw [← List.take_append_drop n l] at he
  rcases List.mem_append.mp he with h | h
  · exact h1 e h
  · exact h2 e h
set_option maxRecDepth 100000 in
theorem xc_0 : ∀ e ∈ xk_0, ∃ q, xchk yX12_thrown cX12_thrown 1 e q = true := xchks_of (ps := [[], [899, 0]]) (by decide +kernel)
theorem xh_0 : xhead xm_0 982 = true := by decide +kernel
set_option maxRecDepth 100000 in
theorem xc_1 : ∀ e ∈ xk_1, ∃ q, xchk yX12_isIn cX12_isIn 6 e q = true := xchks_of (ps := []) (by decide +kernel)
theorem xh_1 : xhead xm_1 997 = true := by decide +kernel
set_option maxRecDepth 100000 in
theorem xc_2 : ∀ e ∈ xk_2, ∃ q, xchk yX12_isShelf cX12_isShelf 1 e q = true := xchks_of (ps := [[], [], [], [994], [995, 996, 57]]) (by decide +kernel)
theorem xh_2 : xhead xm_2 993 = true := by decide +kernel
set_option maxRecDepth 100000 in
theorem xc_3 : ∀ e ∈ xk_3, ∃ q, xchk yX12_isPlace cX12_isPlace 2 e q = true := xchks_of (ps := [[], [], [], [], [888, 0], [], [], [], [], [], [995, 996, 57]]) (by decide +kernel)
theorem xh_3 : xhead xm_3 1026 = true := by decide +kernel
set_option maxRecDepth 100000 in
theorem xc_4 : ∀ e ∈ xk_4, ∃ q, xchk yX12_isRoad cX12_isRoad 2 e q = true := xchks_of (ps := [[], [], [], [], [888, 0], [], [], [], [], [], [995, 996, 57]]) (by decide +kernel)
theorem xh_4 : xhead xm_4 1038 = true := by decide +kernel
set_option maxRecDepth 100000 in
theorem xc_5 : ∀ e ∈ xk_5, ∃ q, xchk yX12_isCarrier cX12_isCarrier 2 e q = true := xchks_of (ps := [[], [], [], [], [888, 0], [], [], [], [], [], [995, 996, 57]]) (by decide +kernel)
theorem xh_5 : xhead xm_5 1058 = true := by decide +kernel
set_option maxRecDepth 100000 in
theorem xc_6 : ∀ e ∈ xk_6, ∃ q, xchk yX12_isGood cX12_isGood 1 e q = true := xchks_of (ps := [[], [], [], [1042], [995, 996, 57]]) (by decide +kernel)
theorem xh_6 : xhead xm_6 1041 = true := by decide +kernel
set_option maxRecDepth 100000 in
theorem xc_7 : ∀ e ∈ xk_7, ∃ q, xchk yX12_areTwo cX12_areTwo 3 e q = true := xchks_of (ps := [[], [], [1023, 1025, 18, 57], [], [], [], [1023, 1025, 18, 57]]) (by decide +kernel)
theorem xh_7 : xhead xm_7 1022 = true := by decide +kernel
set_option maxRecDepth 100000 in
theorem xc_8 : ∀ e ∈ xk_8, ∃ q, xchk yX12_get cX12_get 3 e q = true := xchks_of (ps := [[], [888, 0]]) (by decide +kernel)
theorem xh_8 : xhead xm_8 1050 = true := by decide +kernel
set_option maxRecDepth 100000 in
theorem xc_9 : ∀ e ∈ xk_9, ∃ q, xchk yX12_puts cX12_puts 4 e q = true := xchks_of (ps := [[], [888, 0]]) (by decide +kernel)
theorem xh_9 : xhead xm_9 1034 = true := by decide +kernel
set_option maxRecDepth 100000 in
theorem xc_10 : ∀ e ∈ xk_10, ∃ q, xchk yX12_kind cX12_kind 2 e q = true := xchks_of (ps := [[], [888, 0]]) (by decide +kernel)
theorem xh_10 : xhead xm_10 1074 = true := by decide +kernel
set_option maxRecDepth 100000 in
theorem xc_11 : ∀ e ∈ xk_11, ∃ q, xchk yX12_figure cX12_figure 2 e q = true := xchks_of (ps := [[], [888, 0]]) (by decide +kernel)
theorem xh_11 : xhead xm_11 1078 = true := by decide +kernel
set_option maxRecDepth 100000 in
theorem xc_12 : ∀ e ∈ xk_12, ∃ q, xchk yX12_lays cX12_lays 3 e q = true := xchks_of (ps := []) (by decide +kernel)
theorem xh_12 : xhead xm_12 1014 = true := by decide +kernel
set_option maxRecDepth 100000 in
theorem xc_13 : ∀ e ∈ xk_13, ∃ q, xchk yX12_begins cX12_begins 1 e q = true := xchks_of (ps := [[], [888, 0], [], [891, 0], [1012, 1013, 57]]) (by decide +kernel)
theorem xh_13 : xhead xm_13 1190 = true := by decide +kernel
set_option maxRecDepth 100000 in
theorem xc_14 : ∀ e ∈ xk_14, ∃ q, xchk yX12_ends cX12_ends 1 e q = true := xchks_of (ps := [[], [891, 0], [], [888, 0], [1012, 1013, 57]]) (by decide +kernel)
theorem xh_14 : xhead xm_14 1194 = true := by decide +kernel
set_option maxRecDepth 100000 in
theorem xc_15 : ∀ e ∈ xk_15, ∃ q, xchk yX12_bits cX12_bits 3 e q = true := xchks_of (ps := []) (by decide +kernel)
theorem xh_15 : xhead xm_15 1093 = true := by decide +kernel
set_option maxRecDepth 100000 in
theorem xc_16 : ∀ e ∈ xk_16, ∃ q, xchk yX12_to cX12_to 3 e q = true := xchks_of (ps := [[], [], [], [1047, 1049, 23, 57], [], [], [], [], [], [1047, 1049, 23, 57], [], [], [], [], [1047, 1049, 23, 57], [], [], [], [], [], [1047, 1049, 23, 57]]) (by decide +kernel)
theorem xh_16 : xhead xm_16 1086 = true := by decide +kernel
set_option maxRecDepth 100000 in
theorem xc_17 : ∀ e ∈ xk_17, ∃ q, xchk yX12_isFree cX12_isFree 3 e q = true := xchks_of (ps := [[], [], [], [1047, 1049, 23, 57]]) (by decide +kernel)
theorem xh_17 : xhead xm_17 1046 = true := by decide +kernel
set_option maxRecDepth 100000 in
theorem xc_18 : ∀ e ∈ xk_18, ∃ q, xchk yX12_loads cX12_loads 7 e q = true := xchks_of (ps := [[], [], [], [], [], [], [], [], [], [888, 0]]) (by decide +kernel)
theorem xh_18 : xhead xm_18 1082 = true := by decide +kernel
set_option maxRecDepth 100000 in
theorem xc_19 : ∀ e ∈ xk_19, ∃ q, xchk yX12_weightOf cX12_weightOf 4 e q = true := xchks_of (ps := [[], [], [], [], [], [], [1047, 1049, 23, 57], [], [], [], [], [], [], [1047, 1049, 23, 57], [], [], [], [], [], [], [1047, 1049, 23, 57], [1091, 1092, 57], [], [], [], [], [], [], [], [], [], [], [], [], [], [1047, 1049, 23, 57]]) (by decide +kernel)
theorem xh_19 : xhead xm_19 1090 = true := by decide +kernel
set_option maxRecDepth 100000 in
theorem xc_20 : ∀ e ∈ xk_20, ∃ q, xchk yX12_tries cX12_tries 15 e q = true := xchks_of (ps := [[], [], [], [], [904, 0], [], [], [], [904, 0], [], [], [], [], [904, 0], [], [], [905, 0], [], [], [906, 0], [], [], [], [], [], [], [901, 0], [], [], [900, 0], [], [], [], [], [902, 0], [], [], [903, 0], [], [], [], [], [], [], [], [], [1071, 1073, 29, 57], [], [], [], [1075, 1077, 30, 57], [], [], [], [], [], [], [], [], [], [], [], [], [], [1079, 1081, 31, 57], [], [], [], [], [], [888, 0], [], [], [], [], [], [], [1083, 1085, 32, 57], [], [], [], [], [], [], [], [], [], [], [], [], [], [], [], [], [], [], [], [], [], [], [], [1047, 1049, 23, 57], [], [], [], [], [], [], [], [900, 0], [], [], [], [], [903, 0], [], [], [], [], [], [], [], [], [], [], [], [], [], [], [], [], [], [], [], [], [], [], [], [], [], [1087, 1089, 33, 57], [], [], [], [], [], [1047, 1049, 23, 57], [], [1067, 1069, 28, 57]]) (by decide +kernel)
theorem xh_20 : xhead xm_20 1070 = true := by decide +kernel
set_option maxRecDepth 100000 in
theorem xc_21 : ∀ e ∈ xk_21, ∃ q, xchk yX12_findsWay cX12_findsWay 5 e q = true := xchks_of (ps := [[], [], [904, 0], [], [], [905, 0], [], [], [906, 0], [], [], [], [], [], [], [], [], [], [], [], [1067, 1069, 28, 57], [], [904, 0]]) (by decide +kernel)
theorem xh_21 : xhead xm_21 1066 = true := by decide +kernel
set_option maxRecDepth 100000 in
theorem xc_22 : ∀ e ∈ xk_22, ∃ q, xchk yX12_goes cX12_goes 6 e q = true := xchks_of (ps := [[], [], [], [], [], [1063, 1065, 27, 57], [], [], [], [], [], [], [], [905, 0], [], [], [], [901, 0], [], [], [], [], [], [901, 0], [], [], [], [1047, 1049, 23, 57], [], [902, 0], [], [], [], [1031, 1033, 20, 57]]) (by decide +kernel)
theorem xh_22 : xhead xm_22 1062 = true := by decide +kernel
set_option maxRecDepth 100000 in
theorem xc_23 : ∀ e ∈ xk_23, ∃ q, xchk yX12_here cX12_here 1 e q = true := xchks_of (ps := [[], [907, 0], [], [909, 0], [], [], [895, 0], [], [908, 0], [], [907, 0]]) (by decide +kernel)
theorem xh_23 : xhead xm_23 1005 = true := by decide +kernel
set_option maxRecDepth 100000 in
theorem xc_24 : ∀ e ∈ xk_24, ∃ q, xchk yX12_readsDigits cX12_readsDigits 3 e q = true := xchks_of (ps := [[], [], [], [], [], [], [1002, 1004, 14, 57], [], [1010], [1011], [995, 996, 57], [], [], [], [], [910, 0], [], [], [1002, 1004, 14, 57], [], [], [], [], [], [907, 0], [], [], [907, 0]]) (by decide +kernel)
theorem xh_24 : xhead xm_24 1009 = true := by decide +kernel
set_option maxRecDepth 100000 in
theorem xc_25 : ∀ e ∈ xk_25, ∃ q, xchk yX12_readsStatement cX12_readsStatement 3 e q = true := xchks_of (ps := [[], [1002, 1004, 14, 57], [], [], [], [], [], [], [], [], [], [], [], [], [], [], [], [], [], [], [], [], [], [], [], [], [], [], [], [], [], [], [], [], [907, 0], [], [], [907, 0], [], [], [1006, 1008, 15, 57], [], [], [1002, 1004, 14, 57], [], [], [], [], [], [], [907, 0], [], [], [907, 0]]) (by decide +kernel)
theorem xh_25 : xhead xm_25 1001 = true := by decide +kernel
set_option maxRecDepth 100000 in
theorem xc_26 : ∀ e ∈ xk_26, ∃ q, xchk yX12_adds cX12_adds 3 e q = true := xchks_of (ps := [[], [888, 0], [], [], [], [], [], [], [], [888, 0], [], [], [], [888, 0], [], [], [], [], [], [], [], [888, 0], [], [], [], [888, 0], [], [], [], [], [], [], [], [], [], [888, 0]]) (by decide +kernel)
theorem xh_26 : xhead xm_26 1054 = true := by decide +kernel
set_option maxRecDepth 100000 in
theorem xc_27 : ∀ e ∈ xk_27, ∃ q, xchk yX12_layRoad cX12_layRoad 4 e q = true := xchks_of (ps := [[], [], [888, 0], [], [], [], [], [1031, 1033, 20, 57], [], [], [888, 0], [], [], [], [], [1031, 1033, 20, 57], [], [], [888, 0], [], [], [], [], [1031, 1033, 20, 57], [], [], [888, 0], [], [], [], [], [1031, 1033, 20, 57]]) (by decide +kernel)
theorem xh_27 : xhead xm_27 1030 = true := by decide +kernel
set_option maxRecDepth 100000 in
theorem xc_28 : ∀ e ∈ xk_28, ∃ q, xchk yX12_comesTold cX12_comesTold 4 e q = true := xchks_of (ps := [[], [910, 0], [], [], [], [], [910, 0], [], [], [], [], [], [], [], [888, 0], [], [], [], [], [], [], [], [], [], [888, 0], [], [], [], [], [], [], [], [], [1019, 1021, 17, 57], [], [], [910, 0], [], [], [], [], [], [888, 0], [], [], [], [], [], [], [], [], [], [], [910, 0], [], [], [1027, 1029, 19, 57], [], [888, 0], [], [], [], [], [], [], [], [], [], [], [1035, 1037, 21, 57], [], [], [1039, 1040, 57], [], [], [], [], [1043, 1045, 22, 57], [], [], [], [], [], [], [], [], [], [1047, 1049, 23, 57], [], [], [], [], [1031, 1033, 20, 57], [], [], [], [], [], [], [], [], [1051, 1053, 24, 57], [], [], [], [], [], [], [], [1055, 1057, 25, 57], [], [], [1039, 1040, 57], [], [], [], [910, 0], [], [], [], [910, 0], [], [], [1019, 1021, 17, 57], [], [], [], [], [], [910, 0], [], [], [], [910, 0], [], [], [1059, 1061, 26, 57]]) (by decide +kernel)
theorem xh_28 : xhead xm_28 1018 = true := by decide +kernel
set_option maxRecDepth 100000 in
theorem xc_29 : ∀ e ∈ xk_29, ∃ q, xchk yX12_wrongRow cX12_wrongRow 3 e q = true := xchks_of (ps := [[], [991, 992, 57], [], [], [], [], [892, 0], [], [], [], [], [], [], [892, 0], [], [], [], [], [], [], [], [893, 0]]) (by decide +kernel)
theorem xh_29 : xhead xm_29 990 = true := by decide +kernel
set_option maxRecDepth 100000 in
theorem xc_30 : ∀ e ∈ xk_30, ∃ q, xchk yX12_land cX12_land 7 e q = true := xchks_of (ps := [[], [], [], [987, 989, 12, 57], [], [], [], [], [], [], [], [], [], [908, 0], [], [], [894, 0], [], [], [909, 0], [], [], [907, 0], [], [], [], [998, 1000, 13, 57], [], [], [], [907, 0], [], [], [], [], [907, 0], [], [909, 0], [], [], [888, 0], [], [890, 0], [1012, 1013, 57], [], [], [907, 0], [], [907, 0], [], [909, 0], [], [], [907, 0], [], [], [1002, 1004, 14, 57], [], [], [998, 1000, 13, 57], [], [], [], [1015, 1017, 16, 57], [], [], [890, 0], [], [888, 0], [1012, 1013, 57]]) (by decide +kernel)
theorem xh_30 : xhead xm_30 986 = true := by decide +kernel
set_option maxRecDepth 100000 in
theorem xc_31 : ∀ e ∈ xk_31, ∃ q, xchk yX12_road cX12_road 3 e q = true := xchks_of (ps := [[], [], [1035, 1037, 21, 57], [], [], [], [], [1042], [995, 996, 57], [], [], [], [], [1047, 1049, 23, 57]]) (by decide +kernel)
theorem xh_31 : xhead xm_31 1097 = true := by decide +kernel
set_option maxRecDepth 100000 in
theorem xc_32 : ∀ e ∈ xk_32, ∃ q, xchk yX12_carrier cX12_carrier 3 e q = true := xchks_of (ps := [[], [], [1055, 1057, 25, 57], [], [], [], [], [], [995, 996, 57], [], [], [], [], [], [], [], [1071, 1073, 29, 57], [], [], [], [1075, 1077, 30, 57]]) (by decide +kernel)
theorem xh_32 : xhead xm_32 1101 = true := by decide +kernel
set_option maxRecDepth 100000 in
theorem xc_33 : ∀ e ∈ xk_33, ∃ q, xchk yX12_wrongKept cX12_wrongKept 2 e q = true := xchks_of (ps := [[], [991, 992, 57], [], [], [], [], [892, 0], [], [], [], [], [], [], [892, 0]]) (by decide +kernel)
theorem xh_33 : xhead xm_33 1109 = true := by decide +kernel
set_option maxRecDepth 100000 in
theorem xc_34 : ∀ e ∈ xk_34, ∃ q, xchk yX12_hires cX12_hires 3 e q = true := xchks_of (ps := [[], [], [1106, 1108, 34, 57], [], [], [], [], [], [], [], [896, 0], [], [], [], [897, 0], [], [], [1051, 1053, 24, 57], [], [], [888, 0]]) (by decide +kernel)
theorem xh_34 : xhead xm_34 1105 = true := by decide +kernel
set_option maxRecDepth 100000 in
theorem xc_35 : ∀ e ∈ xk_35, ∃ q, xchk yX12_nick cX12_nick 6 e q = true := xchks_of (ps := [[], [], [1035, 1037, 21, 57], [], [], [1039, 1040, 57], [], [], [], [], [], [995, 996, 57], [], [], [], [], [], [], [1047, 1049, 23, 57], [], [], [], [], [], [], [], [], [], [], [], [], [], [], [], [], [], [], [], [], [], [], [1031, 1033, 20, 57]]) (by decide +kernel)
theorem xh_35 : xhead xm_35 1113 = true := by decide +kernel
set_option maxRecDepth 100000 in
theorem xc_36 : ∀ e ∈ xk_36, ∃ q, xchk yX12_isAsked cX12_isAsked 5 e q = true := xchks_of (ps := [[], [], [1055, 1057, 25, 57], [], [], [1039, 1040, 57], [], [], [], [], [1019, 1021, 17, 57]]) (by decide +kernel)
theorem xh_36 : xhead xm_36 1121 = true := by decide +kernel
set_option maxRecDepth 100000 in
theorem xc_37 : ∀ e ∈ xk_37, ∃ q, xchk yX12_way cX12_way 7 e q = true := xchks_of (ps := [[], [], [], [], [], [1118, 1120, 35, 57], [], [], [], [], [1122], [995, 996, 57], [], [], [], [], [], [], [], [], [1063, 1065, 27, 57], [], [], [], [], [904, 0], [], [], [], [], [], [905, 0], [], [], [906, 0]]) (by decide +kernel)
theorem xh_37 : xhead xm_37 1117 = true := by decide +kernel
set_option maxRecDepth 100000 in
theorem xc_38 : ∀ e ∈ xk_38, ∃ q, xchk yX12_step cX12_step 6 e q = true := xchks_of (ps := [[], [], [], [], [], [1118, 1120, 35, 57], [], [], [], [], [], [], [], [], [], [], [1063, 1065, 27, 57], [], [], [], [905, 0], [], [], [901, 0]]) (by decide +kernel)
theorem xh_38 : xhead xm_38 1126 = true := by decide +kernel
set_option maxRecDepth 100000 in
theorem xc_39 : ∀ e ∈ xk_39, ∃ q, xchk yX12_go cX12_go 5 e q = true := xchks_of (ps := [[], [], [], [], [], [1118, 1120, 35, 57], [], [], [], [], [], [], [], [], [1059, 1061, 26, 57], [], [], [906, 0]]) (by decide +kernel)
theorem xh_39 : xhead xm_39 1130 = true := by decide +kernel
set_option maxRecDepth 100000 in
theorem xc_40 : ∀ e ∈ xk_40, ∃ q, xchk yX12_farOf cX12_farOf 9 e q = true := xchks_of (ps := [[], [], [], [], [], [], [911, 0], [], [], [], [], [], [], [], [], [], [], [], [], [], [], [], [], [], [], [], [888, 0], [], [], [], [], [], [], [1043, 1045, 22, 57], [], [], [], [], [], [1047, 1049, 23, 57], [], [], [], [], [1047, 1049, 23, 57], [], [], [], [], [1047, 1049, 23, 57], [], [], [911, 0], [], [], [], [], [], [911, 0], [], [], [], [], [911, 0], [], [], [911, 0], [], [], [], [], [], [], [911, 0], [], [], [], [], [], [911, 0], [], [], [], [], [911, 0], [], [], [911, 0], [], [], [], [], [], [], [], [], [], [], [911, 0], [], [], [], [], [], [911, 0]]) (by decide +kernel)
theorem xh_40 : xhead xm_40 1142 = true := by decide +kernel
set_option maxRecDepth 100000 in
theorem xc_41 : ∀ e ∈ xk_41, ∃ q, xchk yX12_isGoodWay cX12_isGoodWay 4 e q = true := xchks_of (ps := [[], [1039, 1040, 57], [], [], [], [], [1019, 1021, 17, 57]]) (by decide +kernel)
theorem xh_41 : xhead xm_41 1138 = true := by decide +kernel
set_option maxRecDepth 100000 in
theorem xc_42 : ∀ e ∈ xk_42, ∃ q, xchk yX12_far cX12_far 4 e q = true := xchks_of (ps := [[], [], [], [], [1135, 1137, 36, 57], [], [], [], [], [], [1139, 1141, 37, 57]]) (by decide +kernel)
theorem xh_42 : xhead xm_42 1134 = true := by decide +kernel
set_option maxRecDepth 100000 in
theorem xc_43 : ∀ e ∈ xk_43, ∃ q, xchk yX12_leads cX12_leads 6 e q = true := xchks_of (ps := [[], [], [], [], [], [], [], [], [], [], [], [1043, 1045, 22, 57], [], [], [], [], [], [1047, 1049, 23, 57], [], [], [], [], [], [], [], [1047, 1049, 23, 57]]) (by decide +kernel)
theorem xh_43 : xhead xm_43 1154 = true := by decide +kernel
set_option maxRecDepth 100000 in
theorem xc_44 : ∀ e ∈ xk_44, ∃ q, xchk yX12_manyOf cX12_manyOf 8 e q = true := xchks_of (ps := [[], [], [], [], [912, 0], [], [], [], [], [], [888, 0], [], [], [], [], [], [], [], [], [], [], [], [], [], [], [], [], [], [], [], [], [], [], [1151, 1153, 39, 57], [], [], [], [], [], [], [], [], [], [], [], [912, 0]]) (by decide +kernel)
theorem xh_44 : xhead xm_44 1150 = true := by decide +kernel
set_option maxRecDepth 100000 in
theorem xc_45 : ∀ e ∈ xk_45, ∃ q, xchk yX12_many cX12_many 6 e q = true := xchks_of (ps := [[], [], [], [], [1135, 1137, 36, 57], [], [], [], [], [], [995, 996, 57], [], [], [], [], [], [], [], [], [888, 0], [], [], [1147, 1149, 38, 57], [], [], [], [], [], [], [912, 0]]) (by decide +kernel)
theorem xh_45 : xhead xm_45 1146 = true := by decide +kernel
set_option maxRecDepth 100000 in
theorem xc_46 : ∀ e ∈ xk_46, ∃ q, xchk yX12_canServe cX12_canServe 5 e q = true := xchks_of (ps := [[], [], [], [], [], [888, 0], [], [], [], [], [], [], [], [], [], [], [], [], [], [], [], [888, 0], [], [], [1151, 1153, 39, 57], [], [], [], [], [], [1091, 1092, 57]]) (by decide +kernel)
theorem xh_46 : xhead xm_46 1162 = true := by decide +kernel
set_option maxRecDepth 100000 in
theorem xc_47 : ∀ e ∈ xk_47, ∃ q, xchk yX12_served cX12_served 7 e q = true := xchks_of (ps := [[], [1039, 1040, 57], [], [], [], [1023, 1025, 18, 57], [], [], [], [], [], [], [888, 0], [], [], [], [], [], [], [995, 996, 57], [], [], [], [], [], [], [], [], [], [], [], [], [995, 996, 57], [], [], [], [], [], [], [], [], [], [], [], [], [], [], [], [], [], [1091, 1092, 57], [], [1091, 1092, 57], [], [], [], [], [], [1159, 1161, 40, 57], [], [], [], [], [], [], [], [], [1091, 1092, 57]]) (by decide +kernel)
theorem xh_47 : xhead xm_47 1158 = true := by decide +kernel
set_option maxRecDepth 100000 in
theorem xc_48 : ∀ e ∈ xk_48, ∃ q, xchk yX12_spite cX12_spite 9 e q = true := xchks_of (ps := [[], [], [], [], [1135, 1137, 36, 57], [], [], [], [], [], [995, 996, 57], [], [], [], [], [], [], [], [], [], [], [], [888, 0], [], [], [], [], [], [], [1043, 1045, 22, 57], [], [], [], [], [], [], [], [], [1047, 1049, 23, 57], [], [], [], [], [1031, 1033, 20, 57], [], [], [], [], [], [888, 0], [], [], [1147, 1149, 38, 57], [], [], [], [], [], [], [], [1047, 1049, 23, 57], [], [], [], [], [], [], [1031, 1033, 20, 57]]) (by decide +kernel)
theorem xh_48 : xhead xm_48 1166 = true := by decide +kernel
set_option maxRecDepth 100000 in
theorem xc_49 : ∀ e ∈ xk_49, ∃ q, xchk yX12_worth cX12_worth 7 e q = true := xchks_of (ps := [[], [], [1035, 1037, 21, 57], [], [], [], [], [], [1135, 1137, 36, 57], [], [], [], [], [], [], [], [1139, 1141, 37, 57], [], [], [], [], [], [], [1043, 1045, 22, 57], [], [], [], [], [], [], [], [], [], [1047, 1049, 23, 57], [], [], [], [], [1031, 1033, 20, 57], [], [], [], [], [1139, 1141, 37, 57], [], [], [], [], [], [], [], [1047, 1049, 23, 57], [], [], [], [], [], [], [1031, 1033, 20, 57]]) (by decide +kernel)
theorem xh_49 : xhead xm_49 1170 = true := by decide +kernel
set_option maxRecDepth 100000 in
theorem xc_50 : ∀ e ∈ xk_50, ∃ q, xchk yX12_newly cX12_newly 10 e q = true := xchks_of (ps := [[], [], [], [], [1135, 1137, 36, 57], [], [], [], [], [], [995, 996, 57], [], [], [], [], [], [], [], [], [], [], [], [888, 0], [], [], [], [], [], [], [], [], [], [888, 0], [], [], [], [], [], [], [], [1027, 1029, 19, 57], [], [], [], [], [], [888, 0], [], [], [], [], [1147, 1149, 38, 57]]) (by decide +kernel)
theorem xh_50 : xhead xm_50 1174 = true := by decide +kernel
set_option maxRecDepth 100000 in
theorem xc_51 : ∀ e ∈ xk_51, ∃ q, xchk yX12_roundFrom cX12_roundFrom 10 e q = true := xchks_of (ps := [[], [], [], [], [888, 0], [], [], [], [], [], [], [1083, 1085, 32, 57], [], [], [], [], [], [], [], [], [], [], [], [], [], [1043, 1045, 22, 57], [], [], [], [], [], [], [1047, 1049, 23, 57], [], [], [], [], [], [], [913, 0], [], [], [], [913, 0], [], [], [], [913, 0], [], [], [], [], [], [], [], [], [], [], [], [], [], [], [], [], [], [], [], [], [], [1179, 1181, 41, 57]]) (by decide +kernel)
theorem xh_51 : xhead xm_51 1182 = true := by decide +kernel
set_option maxRecDepth 100000 in
theorem xc_52 : ∀ e ∈ xk_52, ∃ q, xchk yX12_round cX12_round 3 e q = true := xchks_of (ps := [[], [1039, 1040, 57], [], [], [], [1023, 1025, 18, 57], [], [], [], [], [], [913, 0], [], [], [], [], [], [], [], [], [], [1179, 1181, 41, 57], [], [913, 0]]) (by decide +kernel)
theorem xh_52 : xhead xm_52 1178 = true := by decide +kernel
set_option maxRecDepth 100000 in
theorem xc_53 : ∀ e ∈ xk_53, ∃ q, xchk yX12_often cX12_often 6 e q = true := xchks_of (ps := [[], [], [], [], [], [1118, 1120, 35, 57], [], [], [], [], [1187, 1189, 42, 57], [], [], [], [], [], [], [], [], [], [], [1059, 1061, 26, 57], [], [], [], [], [1191, 1193, 43, 57]]) (by decide +kernel)
theorem xh_53 : xhead xm_53 1186 = true := by decide +kernel
set_option maxRecDepth 100000 in
theorem xc_54 : ∀ e ∈ xk_54, ∃ q, xchk yX12_wrongCarriages cX12_wrongCarriages 4 e q = true := xchks_of (ps := [[], [], [], [987, 989, 12, 57], [], [], [], [], [], [], [894, 0], [], [], [], [], [], [], [894, 0], [], [], [], [], [], [], [], [], [], [], [894, 0], [], [], [], [], [], [], [], [1207, 1209, 46, 57], [], [], [], [], [], [1207, 1209, 46, 57], [], [], [], [], [], [1207, 1209, 46, 57], [], [], [], [], [], [1207, 1209, 46, 57], [1118, 1120, 35, 57]]) (by decide +kernel)
theorem xh_54 : xhead xm_54 1206 = true := by decide +kernel
set_option maxRecDepth 100000 in
theorem xc_55 : ∀ e ∈ xk_55, ∃ q, xchk yX12_told cX12_told 3 e q = true := xchks_of (ps := [[], [895, 0]]) (by decide +kernel)
theorem xh_55 : xhead xm_55 1210 = true := by decide +kernel
set_option maxRecDepth 100000 in
theorem xc_56 : ∀ e ∈ xk_56, ∃ q, xchk yX12_goesTold cX12_goesTold 3 e q = true := xchks_of (ps := [[], [], [], [], [], [], [1207, 1209, 46, 57], [], [], [], [], [], [], [], [1207, 1209, 46, 57], [], [], [], [], [], [], [], [1207, 1209, 46, 57], [], [], [], [], [], [], [], [1207, 1209, 46, 57], [1059, 1061, 26, 57]]) (by decide +kernel)
theorem xh_56 : xhead xm_56 1214 = true := by decide +kernel
set_option maxRecDepth 100000 in
theorem xc_57 : ∀ e ∈ xk_57, ∃ q, xchk yX12_wrongAsk cX12_wrongAsk 3 e q = true := xchks_of (ps := [[], [991, 992, 57], [], [], [], [], [], [995, 996, 57], [], [], [], [], [], [1203, 1205, 45, 57]]) (by decide +kernel)
theorem xh_57 : xhead xm_57 1202 = true := by decide +kernel
set_option maxRecDepth 100000 in
theorem xc_58 : ∀ e ∈ xk_58, ∃ q, xchk yX12_run cX12_run 7 e q = true := xchks_of (ps := [[], [], [], [1199, 1201, 44, 57], [], [], [], [], [], [], [1187, 1189, 42, 57], [], [], [], [], [], [], [], [], [], [], [894, 0], [], [], [], [], [], [], [1211, 1213, 47, 57], [], [], [], [], [], [906, 0], [], [], [], [], [], [1191, 1193, 43, 57]]) (by decide +kernel)
theorem xh_58 : xhead xm_58 1198 = true := by decide +kernel
set_option maxRecDepth 100000 in
theorem xc_59 : ∀ e ∈ xk_59, ∃ q, xchk yX12_goesBy cX12_goesBy 5 e q = true := xchks_of (ps := [[], [1187, 1189, 42, 57], [], [], [], [], [], [], [], [], [], [], [894, 0], [], [], [], [], [], [], [], [], [914, 0], [], [], [1211, 1213, 47, 57], [], [], [], [906, 0], [], [], [], [], [], [1191, 1193, 43, 57], [], [], [], [], [], [915, 0], [], [], [915, 0], [], [916, 0], [], [], [], [916, 0], [], [], [], [916, 0]]) (by decide +kernel)
theorem xh_59 : xhead xm_59 1226 = true := by decide +kernel
set_option maxRecDepth 100000 in
theorem xc_60 : ∀ e ∈ xk_60, ∃ q, xchk yX12_ordersFrom cX12_ordersFrom 5 e q = true := xchks_of (ps := [[], [], [], [], [894, 0], [], [], [], [], [], [1223, 1225, 49, 57], [], [], [], [], [], [], [], [894, 0], [], [], [], [], [], [], [], [], [], [], [], [], [914, 0], [], [], [], [], [], [], [], [], [], [], [], [], [], [1219, 1221, 48, 57]]) (by decide +kernel)
theorem xh_60 : xhead xm_60 1222 = true := by decide +kernel
set_option maxRecDepth 100000 in
theorem xc_61 : ∀ e ∈ xk_61, ∃ q, xchk yX12_orders cX12_orders 4 e q = true := xchks_of (ps := [[], [], [], [1199, 1201, 44, 57], [], [], [], [], [], [], [], [915, 0], [], [], [916, 0], [], [], [], [], [1219, 1221, 48, 57], [], [], [], [915, 0], [], [], [916, 0]]) (by decide +kernel)
theorem xh_61 : xhead xm_61 1218 = true := by decide +kernel
set_option maxRecDepth 100000 in
theorem xc_62 : ∀ e ∈ xk_62, ∃ q, xchk yX12_drawn cX12_drawn 2 e q = true := xchks_of (ps := [[], [], [917, 0], [1236], [], [], [], [917, 0], [], [917, 0], [1237], [], [1238]]) (by decide +kernel)
theorem xh_62 : xhead xm_62 1235 = true := by decide +kernel
set_option maxRecDepth 100000 in
theorem xc_63 : ∀ e ∈ xk_63, ∃ q, xchk yX12_seeded cX12_seeded 9 e q = true := xchks_of (ps := [[], [], [], [1231], [995, 996, 57], [], [], [], [], [888, 0], [], [], [], [], [], [], [1187, 1189, 42, 57], [], [], [917, 0], [], [], [], [], [], [], [], [], [], [888, 0], [], [], [1232, 1234, 50, 57], [], [], [], [1232, 1234, 50, 57], [], [], [], [888, 0], [], [], [1232, 1234, 50, 57], [], [], [], [888, 0], [], [], [1232, 1234, 50, 57], [], [], [], [], [], [], [], [], [], [], [1059, 1061, 26, 57], [], [], [], [], [], [], [], [], [], [1191, 1193, 43, 57]]) (by decide +kernel)
theorem xh_63 : xhead xm_63 1230 = true := by decide +kernel
set_option maxRecDepth 100000 in
theorem xc_64 : ∀ e ∈ xk_64, ∃ q, xchk yX12_wrongTwo cX12_wrongTwo 5 e q = true := xchks_of (ps := [[], [], [], [1207, 1209, 46, 57], [], [], [], [], [], [], [1207, 1209, 46, 57], [], [], [], [1035, 1037, 21, 57], [], [], [], [], [1039, 1040, 57], [], [], [], [], [1043, 1045, 22, 57], [], [], [], [], [], [], [], [], [], [], [], [1047, 1049, 23, 57], [], [], [], [], [1031, 1033, 20, 57]]) (by decide +kernel)
theorem xh_64 : xhead xm_64 1246 = true := by decide +kernel
set_option maxRecDepth 100000 in
theorem xc_65 : ∀ e ∈ xk_65, ∃ q, xchk yX12_judge cX12_judge 5 e q = true := xchks_of (ps := [[], [], [], [987, 989, 12, 57], [], [], [], [], [], [], [1187, 1189, 42, 57], [], [], [], [], [], [], [], [], [894, 0], [], [], [], [], [], [], [], [], [1243, 1245, 51, 57], [], [], [], [], [1191, 1193, 43, 57], [], [], [], [894, 0], [], [], [], [], [], [], [], [894, 0]]) (by decide +kernel)
theorem xh_65 : xhead xm_65 1242 = true := by decide +kernel
set_option maxRecDepth 100000 in
theorem xc_66 : ∀ e ∈ xk_66, ∃ q, xchk yX12_image cX12_image 1 e q = true := xchks_of (ps := [[], [888, 0], [], [889, 0], [1012, 1013, 57], [], [], [898, 0], [], [888, 0]]) (by decide +kernel)
theorem xh_66 : xhead xm_66 1250 = true := by decide +kernel
set_option maxRecDepth 100000 in
theorem xc_67 : ∀ e ∈ xk_67, ∃ q, xchk yX12_restore cX12_restore 1 e q = true := xchks_of (ps := [[], [898, 0], [], [], [], [], [889, 0], [], [888, 0], [1012, 1013, 57], [], [888, 0]]) (by decide +kernel)
theorem xh_67 : xhead xm_67 1254 = true := by decide +kernel
set_option maxRecDepth 100000 in
theorem xc_68 : ∀ e ∈ xk_68, ∃ q, xchk yX12_count cX12_count 4 e q = true := xchks_of (ps := [[], [], [], [], [], [888, 0], [], [], [], [], [], [], [], [888, 0], [], [], [], [], [], [], [], [1047, 1049, 23, 57], [1091, 1092, 57], [], [], [], [], [], [], [], [], [], [], [888, 0], [], [], [], [], [], [], [], [1047, 1049, 23, 57]]) (by decide +kernel)
theorem xh_68 : xhead xm_68 1258 = true := by decide +kernel
set_option maxRecDepth 100000 in
theorem xc_69 : ∀ e ∈ xk_69, ∃ q, xchk yX12_wageBy cX12_wageBy 2 e q = true := xchks_of (ps := []) (by decide +kernel)
theorem xh_69 : xhead xm_69 1286 = true := by decide +kernel
set_option maxRecDepth 100000 in
theorem xc_70 : ∀ e ∈ xk_70, ∃ q, xchk yX12_keep cX12_keep 5 e q = true := xchks_of (ps := [[], [991, 992, 57], [], [], [], [], [], [995, 996, 57], [], [], [], [], [], [], [], [994], [995, 996, 57], [], [], [], [], [1263], [995, 996, 57], [], [], [], [], [892, 0], [], [], [], [], [896, 0], [], [], [], [], [897, 0]]) (by decide +kernel)
theorem xh_70 : xhead xm_70 1262 = true := by decide +kernel
set_option maxRecDepth 100000 in
theorem xc_71 : ∀ e ∈ xk_71, ∃ q, xchk yX12_row cX12_row 5 e q = true := xchks_of (ps := [[], [991, 992, 57], [], [], [], [], [1122], [995, 996, 57], [], [], [], [], [], [], [], [], [], [], [], [892, 0], [], [], [], [], [893, 0], [], [], [], [], [894, 0], [], [], [], [], [], [], [], [], [], [895, 0]]) (by decide +kernel)
theorem xh_71 : xhead xm_71 1267 = true := by decide +kernel
set_option maxRecDepth 100000 in
theorem xc_72 : ∀ e ∈ xk_72, ∃ q, xchk yX12_put cX12_put 5 e q = true := xchks_of (ps := [[], [], [], [987, 989, 12, 57], [], [], [], [], [], [], [], [], [], [894, 0], [], [], [], [], [], [995, 996, 57], [], [], [], [], [895, 0], [], [], [], [], [], [], [893, 0], [], [], [], [], [], [], [], [893, 0]]) (by decide +kernel)
theorem xh_72 : xhead xm_72 1271 = true := by decide +kernel
set_option maxRecDepth 100000 in
theorem xc_73 : ∀ e ∈ xk_73, ∃ q, xchk yX12_element cX12_element 3 e q = true := xchks_of (ps := [[], [], [991, 992, 57], [], [], [], [], [892, 0], [], [], [], [], [], [], [], [], [894, 0], [], [], [], [], [], [995, 996, 57], [], [], [], [], [899, 0], [], [899, 0], [], [], [895, 0]]) (by decide +kernel)
theorem xh_73 : xhead xm_73 1275 = true := by decide +kernel
set_option maxRecDepth 100000 in
theorem xc_74 : ∀ e ∈ xk_74, ∃ q, xchk yX12_copy cX12_copy 8 e q = true := xchks_of (ps := [[], [991, 992, 57], [], [], [991, 992, 57], [], [], [], [], [892, 0], [], [], [], [], [892, 0], [], [], [], [], [], [], [892, 0], [], [], [], [], [], [892, 0], [], [], [], [], [], [893, 0], [], [], [], [893, 0], [], [], [], [], [], [], [], [], [], [], [], [], [], [894, 0], [], [], [], [], [], [], [], [894, 0], [], [], [], [], [], [], [], [], [], [], [], [], [], [], [], [], [], [], [], [], [], [], [], [], [895, 0], [], [], [], [], [], [], [], [], [895, 0]]) (by decide +kernel)
theorem xh_74 : xhead xm_74 1279 = true := by decide +kernel
set_option maxRecDepth 100000 in
theorem xc_75 : ∀ e ∈ xk_75, ∃ q, xchk yX12_wage cX12_wage 3 e q = true := xchks_of (ps := [[], [], [1106, 1108, 34, 57], [], [], [], [], [], [], [896, 0], [], [], [], [897, 0], [], [], [1284, 1285, 57]]) (by decide +kernel)
theorem xh_75 : xhead xm_75 1283 = true := by decide +kernel
set_option maxRecDepth 100000 in
theorem xc_76 : ∀ e ∈ xk_76, ∃ q, xchk yX12_toss cX12_toss 5 e q = true := xchks_of (ps := [[], [], [1106, 1108, 34, 57], [], [], [], [], [], [], [896, 0], [], [], [], [], [897, 0], [], [], [], [], [], [], [], [], [], [], [], [], [], [], [], [], [], [], [], [], [], [], [], [1284, 1285, 57]]) (by decide +kernel)
theorem xh_76 : xhead xm_76 1290 = true := by decide +kernel
set_option maxRecDepth 100000 in
theorem xc_77 : ∀ e ∈ xk_77, ∃ q, xchk yJ6_bitCount_0f7a4 cJ6_bitCount_0f7a4 1 e q = true := xchks_of (ps := [[], [], [], [], [489], [], [], [], [], [490], [], [], [], [], [490], [], [], [], [], [], [], [], [], [491]]) (by decide +kernel)
theorem xh_77 : xhead xm_77 488 = true := by decide +kernel
set_option maxRecDepth 100000 in
theorem xc_78 : ∀ e ∈ xk_78, ∃ q, xchk yJ13_bitCount_95d88 cJ13_bitCount_95d88 2 e q = true := xchks_of (ps := [[], [], [], [], [673], [], [], [], [], [674], [], [], [], [], [674], [], [], [], [], [], [], [], [], [675]]) (by decide +kernel)
theorem xh_78 : xhead xm_78 672 = true := by decide +kernel
set_option maxRecDepth 100000 in
theorem xc_80 : ∀ e ∈ xk_80, ∃ q, xchk yX0_init cX0_init 3 e q = true := xchks_of (ps := [[], [299, 81, 82], [], [], [300, 0, 0], [], [], [302, 0, 0]]) (by decide +kernel)
theorem xh_80 : xhead xm_80 298 = true := by decide +kernel
set_option maxRecDepth 100000 in
theorem xc_81 : ∀ e ∈ xk_81, ∃ q, xchk yX0_loads cX0_loads 4 e q = true := xchks_of (ps := []) (by decide +kernel)
theorem xh_81 : xhead xm_81 436 = true := by decide +kernel
set_option maxRecDepth 100000 in
theorem xc_82 : ∀ e ∈ xk_82, ∃ q, xchk yX0_mayGo cX0_mayGo 4 e q = true := xchks_of (ps := []) (by decide +kernel)
theorem xh_82 : xhead xm_82 462 = true := by decide +kernel
set_option maxRecDepth 100000 in
theorem xc_83 : ∀ e ∈ xk_83, ∃ q, xchk yX0_leaves cX0_leaves 3 e q = true := xchks_of (ps := []) (by decide +kernel)
theorem xh_83 : xhead xm_83 511 = true := by decide +kernel
set_option maxRecDepth 100000 in
theorem xc_84 : ∀ e ∈ xk_84, ∃ q, xchk yX0_weightOf cX0_weightOf 4 e q = true := xchks_of (ps := []) (by decide +kernel)
theorem xh_84 : xhead xm_84 493 = true := by decide +kernel
set_option maxRecDepth 100000 in
theorem xc_85 : ∀ e ∈ xk_85, ∃ q, xchk yX0_mostRoads cX0_mostRoads 1 e q = true := xchks_of (ps := []) (by decide +kernel)
theorem xh_85 : xhead xm_85 419 = true := by decide +kernel
set_option maxRecDepth 100000 in
theorem xc_86 : ∀ e ∈ xk_86, ∃ q, xchk yX0_pay cX0_pay 1 e q = true := xchks_of (ps := []) (by decide +kernel)
theorem xh_86 : xhead xm_86 742 = true := by decide +kernel
set_option maxRecDepth 100000 in
theorem xc_87 : ∀ e ∈ xk_87, ∃ q, xchk yX1_init cX1_init 3 e q = true := xchks_of (ps := [[], [], [], [353, 297, 59]]) (by decide +kernel)
theorem xh_87 : xhead xm_87 352 = true := by decide +kernel
set_option maxRecDepth 100000 in
theorem xc_88 : ∀ e ∈ xk_88, ∃ q, xchk yX1_mayGo cX1_mayGo 4 e q = true := xchks_of (ps := [[], [], [305, 306, 0], [], [], [], [], [], [455, 451, 356, 449, 59, 0]]) (by decide +kernel)
theorem xh_88 : xhead xm_88 454 = true := by decide +kernel
set_option maxRecDepth 100000 in
theorem xc_89 : ∀ e ∈ xk_89, ∃ q, xchk yX1_leaves cX1_leaves 3 e q = true := xchks_of (ps := [[], [], [305, 306, 0]]) (by decide +kernel)
theorem xh_89 : xhead xm_89 504 = true := by decide +kernel
set_option maxRecDepth 100000 in
theorem xc_90 : ∀ e ∈ xk_90, ∃ q, xchk yX1_pay cX1_pay 1 e q = true := xchks_of (ps := [[], [], [720, 716, 356, 714, 59, 0]]) (by decide +kernel)
theorem xh_90 : xhead xm_90 719 = true := by decide +kernel
set_option maxRecDepth 100000 in
theorem xc_91 : ∀ e ∈ xk_91, ∃ q, xchk yX2_become cX2_become 3 e q = true := xchks_of (ps := [[], [], [91, 0], [91, 0], [], [], [94, 0], [94, 0], [], [], [97, 0], [97, 0], [], [], [99, 0], [99, 0], [], [102, 0], [], [], [102, 0], [], [], [249, 251, 250, 58], [], [104, 0], [], [], [104, 0], [], [], [249, 251, 250, 58], [], [106, 0], [], [], [106, 0], [], [], [249, 251, 250, 58], [], [], [], [], [], [], [109, 0], [], [], [109, 0]]) (by decide +kernel)
theorem xh_91 : xhead xm_91 248 = true := by decide +kernel
set_option maxRecDepth 100000 in
theorem xc_92 : ∀ e ∈ xk_92, ∃ q, xchk yX2_hasPlace cX2_hasPlace 2 e q = true := xchks_of (ps := [[], [], [], [], [91, 0]]) (by decide +kernel)
theorem xh_92 : xhead xm_92 271 = true := by decide +kernel
set_option maxRecDepth 100000 in
theorem xc_93 : ∀ e ∈ xk_93, ∃ q, xchk yX2_areTwoPlaces cX2_areTwoPlaces 3 e q = true := xchks_of (ps := [[], [], [268, 269, 270, 54], [], [], [], [268, 269, 270, 54]]) (by decide +kernel)
theorem xh_93 : xhead xm_93 267 = true := by decide +kernel
set_option maxRecDepth 100000 in
theorem xc_94 : ∀ e ∈ xk_94, ∃ q, xchk yX2_hasRoad cX2_hasRoad 2 e q = true := xchks_of (ps := [[], [], [], [], [94, 0]]) (by decide +kernel)
theorem xh_94 : xhead xm_94 279 = true := by decide +kernel
set_option maxRecDepth 100000 in
theorem xc_95 : ∀ e ∈ xk_95, ∃ q, xchk yX2_carrierAt cX2_carrierAt 2 e q = true := xchks_of (ps := [[], [], [], [], [97, 0], [], [], [], [], [], [109, 0]]) (by decide +kernel)
theorem xh_95 : xhead xm_95 390 = true := by decide +kernel
set_option maxRecDepth 100000 in
theorem xc_96 : ∀ e ∈ xk_96, ∃ q, xchk yX2_setPlaces cX2_setPlaces 2 e q = true := xchks_of (ps := [[], [], [91, 0], [], [], [], [], [], [], [], [], [91, 0]]) (by decide +kernel)
theorem xh_96 : xhead xm_96 259 = true := by decide +kernel
set_option maxRecDepth 100000 in
theorem xc_97 : ∀ e ∈ xk_97, ∃ q, xchk yX2_addRoad cX2_addRoad 4 e q = true := xchks_of (ps := [[], [], [], [264, 265, 266, 54], [], [], [], [], [], [], [], [], [94, 0], [], [], [], [], [], [102, 0], [], [94, 0], [], [], [], [104, 0], [], [94, 0], [], [], [], [106, 0], [], [94, 0], [], [], [], [], [94, 0], [], [], [94, 0]]) (by decide +kernel)
theorem xh_97 : xhead xm_97 263 = true := by decide +kernel
set_option maxRecDepth 100000 in
theorem xc_98 : ∀ e ∈ xk_98, ∃ q, xchk yX2_addCarrier cX2_addCarrier 2 e q = true := xchks_of (ps := [[], [], [], [97, 0], [], [], [], [], [], [109, 0], [], [97, 0], [], [], [], [], [97, 0], [], [], [97, 0]]) (by decide +kernel)
theorem xh_98 : xhead xm_98 383 = true := by decide +kernel
set_option maxRecDepth 100000 in
theorem xc_99 : ∀ e ∈ xk_99, ∃ q, xchk yX2_nicksOf cX2_nicksOf 2 e q = true := xchks_of (ps := [[], [99, 0]]) (by decide +kernel)
theorem xh_99 : xhead xm_99 447 = true := by decide +kernel
set_option maxRecDepth 100000 in
theorem xc_100 : ∀ e ∈ xk_100, ∃ q, xchk yX2_isFree cX2_isFree 3 e q = true := xchks_of (ps := [[], [99, 0], [], [], [285, 286, 53]]) (by decide +kernel)
theorem xh_100 : xhead xm_100 284 = true := by decide +kernel
set_option maxRecDepth 100000 in
theorem xc_101 : ∀ e ∈ xk_101, ∃ q, xchk yX2_addNick cX2_addNick 3 e q = true := xchks_of (ps := [[], [], [276, 277, 278, 54], [], [], [], [280, 229, 53], [], [], [], [], [281, 282, 283, 54], [], [], [], [], [], [99, 0], [], [], [285, 286, 53], [], [99, 0]]) (by decide +kernel)
theorem xh_101 : xhead xm_101 275 = true := by decide +kernel
set_option maxRecDepth 100000 in
theorem xc_102 : ∀ e ∈ xk_102, ∃ q, xchk yX2_milesOfAll cX2_milesOfAll 3 e q = true := xchks_of (ps := [[], [], [], [], [], [], [94, 0], [], [], [], [106, 0]]) (by decide +kernel)
theorem xh_102 : xhead xm_102 679 = true := by decide +kernel
set_option maxRecDepth 100000 in
theorem xc_103 : ∀ e ∈ xk_103, ∃ q, xchk yX2_otherEnd cX2_otherEnd 3 e q = true := xchks_of (ps := [[], [], [276, 277, 278, 54], [], [], [], [], [102, 0], [], [], [], [], [], [104, 0], [], [], [], [], [104, 0], [], [], [], [], [], [102, 0]]) (by decide +kernel)
theorem xh_103 : xhead xm_103 440 = true := by decide +kernel
set_option maxRecDepth 100000 in
theorem xc_104 : ∀ e ∈ xk_104, ∃ q, xchk yX2_leastMiles cX2_leastMiles 7 e q = true := xchks_of (ps := [[], [], [], [], [], [], [111, 0], [], [], [], [], [], [], [111, 0], [], [], [], [], [], [], [], [91, 0], [], [], [], [], [], [94, 0], [], [], [], [], [], [], [], [281, 282, 283, 54], [], [], [], [102, 0], [], [], [], [104, 0], [], [], [], [106, 0], [], [], [564, 566, 6, 54], [], [], [104, 0], [], [], [], [102, 0], [], [], [], [106, 0], [], [], [564, 566, 6, 54], [], [], [], [], [], [111, 0]]) (by decide +kernel)
theorem xh_104 : xhead xm_104 563 = true := by decide +kernel
set_option maxRecDepth 100000 in
theorem xc_105 : ∀ e ∈ xk_105, ∃ q, xchk yX2_reachAlong cX2_reachAlong 5 e q = true := xchks_of (ps := [[], [111, 0], [], [], [], [], [], [], [111, 0], [], [], [], [], [], [111, 0], [], [], [], [], [], [], [111, 0], [], [], [], [], [111, 0]]) (by decide +kernel)
theorem xh_105 : xhead xm_105 567 = true := by decide +kernel
set_option maxRecDepth 100000 in
theorem xc_106 : ∀ e ∈ xk_106, ∃ q, xchk yX2_countLeading cX2_countLeading 4 e q = true := xchks_of (ps := [[], [], [], [], [], [91, 0], [], [], [], [110, 0], [], [], [], [], [], [], [], [], [], [94, 0], [], [], [], [], [], [], [281, 282, 283, 54], [], [], [], [], [91, 0], [], [], [], [], [102, 0], [], [], [576, 442, 53], [], [], [104, 0], [], [], [576, 442, 53], [], [], [110, 0]]) (by decide +kernel)
theorem xh_106 : xhead xm_106 575 = true := by decide +kernel
set_option maxRecDepth 100000 in
theorem xc_107 : ∀ e ∈ xk_107, ∃ q, xchk yX2_fewestLeading cX2_fewestLeading 9 e q = true := xchks_of (ps := [[], [], [], [], [], [], [], [91, 0], [], [], [], [], [576, 442, 53], [], [], [], [576, 442, 53], [], [], [], [110, 0], [], [], [], [], [576, 442, 53], [], [], [576, 442, 53]]) (by decide +kernel)
theorem xh_107 : xhead xm_107 580 = true := by decide +kernel
set_option maxRecDepth 100000 in
theorem xc_108 : ∀ e ∈ xk_108, ∃ q, xchk yX2_bars cX2_bars 5 e q = true := xchks_of (ps := [[], [], [], [], [], [], [91, 0], [], [], [], [], [], [], [], [], [576, 442, 53], [], [], [], [576, 442, 53], [], [], [110, 0], [], [], [], [110, 0]]) (by decide +kernel)
theorem xh_108 : xhead xm_108 584 = true := by decide +kernel
set_option maxRecDepth 100000 in
theorem xc_109 : ∀ e ∈ xk_109, ∃ q, xchk yX2_mostServed cX2_mostServed 6 e q = true := xchks_of (ps := [[], [], [], [], [], [], [], [], [], [], [], [], [], [], [595, 487, 67], [], [595, 487, 67], [], [], [], [], [], [], [], [], [], [], [596, 598, 7, 54]]) (by decide +kernel)
theorem xh_109 : xhead xm_109 594 = true := by decide +kernel
set_option maxRecDepth 100000 in
theorem xc_110 : ∀ e ∈ xk_110, ∃ q, xchk yX2_areAllServed cX2_areAllServed 4 e q = true := xchks_of (ps := [[], [], [], [], [], [91, 0], [], [], [], [], [576, 442, 53], [], [], [], [], [], [], [595, 487, 67], [], [110, 0]]) (by decide +kernel)
theorem xh_110 : xhead xm_110 599 = true := by decide +kernel
set_option maxRecDepth 100000 in
theorem xc_111 : ∀ e ∈ xk_111, ∃ q, xchk yX3_init cX3_init 3 e q = true := xchks_of (ps := [[], [], [], [335, 297, 59]]) (by decide +kernel)
theorem xh_111 : xhead xm_111 334 = true := by decide +kernel
set_option maxRecDepth 100000 in
theorem xc_112 : ∀ e ∈ xk_112, ∃ q, xchk yX3_loads cX3_loads 5 e q = true := xchks_of (ps := [[], [], [], [], [307, 308, 0]]) (by decide +kernel)
theorem xh_112 : xhead xm_112 427 = true := by decide +kernel
set_option maxRecDepth 100000 in
theorem xc_113 : ∀ e ∈ xk_113, ∃ q, xchk yX3_pay cX3_pay 1 e q = true := xchks_of (ps := [[], [724, 716, 338, 714, 59, 0], [], [], [307, 308, 0]]) (by decide +kernel)
theorem xh_113 : xhead xm_113 723 = true := by decide +kernel
set_option maxRecDepth 100000 in
theorem xc_114 : ∀ e ∈ xk_114, ∃ q, xchk yX4_init cX4_init 3 e q = true := xchks_of (ps := [[], [], [], [362, 333, 62]]) (by decide +kernel)
theorem xh_114 : xhead xm_114 361 = true := by decide +kernel
set_option maxRecDepth 100000 in
theorem xc_115 : ∀ e ∈ xk_115, ∃ q, xchk yX4_loads cX4_loads 5 e q = true := xchks_of (ps := [[], [], [], [], [431, 1292, 365, 426, 62, 3]]) (by decide +kernel)
theorem xh_115 : xhead xm_115 430 = true := by decide +kernel
set_option maxRecDepth 100000 in
theorem xc_116 : ∀ e ∈ xk_116, ∃ q, xchk yX4_weightOf cX4_weightOf 4 e q = true := xchks_of (ps := [[], [], [], [], [472, 473, 365, 464, 59, 3, 338]]) (by decide +kernel)
theorem xh_116 : xhead xm_116 471 = true := by decide +kernel
set_option maxRecDepth 100000 in
theorem xc_117 : ∀ e ∈ xk_117, ∃ q, xchk yX4_pay cX4_pay 1 e q = true := xchks_of (ps := [[], [], [728, 1294, 365, 722, 62, 3]]) (by decide +kernel)
theorem xh_117 : xhead xm_117 727 = true := by decide +kernel
set_option maxRecDepth 100000 in
theorem xc_118 : ∀ e ∈ xk_118, ∃ q, xchk yX5_init cX5_init 3 e q = true := xchks_of (ps := [[], [], [], [296, 297, 59]]) (by decide +kernel)
theorem xh_118 : xhead xm_118 295 = true := by decide +kernel
set_option maxRecDepth 100000 in
theorem xc_119 : ∀ e ∈ xk_119, ∃ q, xchk yX5_weightOf cX5_weightOf 4 e q = true := xchks_of (ps := []) (by decide +kernel)
theorem xh_119 : xhead xm_119 477 = true := by decide +kernel
set_option maxRecDepth 100000 in
theorem xc_120 : ∀ e ∈ xk_120, ∃ q, xchk yX5_pay cX5_pay 1 e q = true := xchks_of (ps := [[], [732, 716, 320, 714, 59, 0]]) (by decide +kernel)
theorem xh_120 : xhead xm_120 731 = true := by decide +kernel
set_option maxRecDepth 100000 in
theorem xc_121 : ∀ e ∈ xk_121, ∃ q, xchk yX6_init cX6_init 3 e q = true := xchks_of (ps := [[], [], [], [344, 297, 59]]) (by decide +kernel)
theorem xh_121 : xhead xm_121 343 = true := by decide +kernel
set_option maxRecDepth 100000 in
theorem xc_122 : ∀ e ∈ xk_122, ∃ q, xchk yX6_weightOf cX6_weightOf 4 e q = true := xchks_of (ps := [[], [], [], [], [481, 466, 347, 464, 59, 0], [], [], [309, 310, 0]]) (by decide +kernel)
theorem xh_122 : xhead xm_122 480 = true := by decide +kernel
set_option maxRecDepth 100000 in
theorem xc_123 : ∀ e ∈ xk_123, ∃ q, xchk yX7_startAnew cX7_startAnew 4 e q = true := xchks_of (ps := [[], [], [181, 0], [], [], [183, 0], [], [], [], [], [179, 0], [], [], [], [179, 0]]) (by decide +kernel)
theorem xh_123 : xhead xm_123 691 = true := by decide +kernel
set_option maxRecDepth 100000 in
theorem xc_124 : ∀ e ∈ xk_124, ∃ q, xchk yX7_has cX7_has 2 e q = true := xchks_of (ps := [[], [], [], [], [183, 0], [], [], [], [179, 0]]) (by decide +kernel)
theorem xh_124 : xhead xm_124 241 = true := by decide +kernel
set_option maxRecDepth 100000 in
theorem xc_125 : ∀ e ∈ xk_125, ∃ q, xchk yX7_hasStretch cX7_hasStretch 3 e q = true := xchks_of (ps := [[], [], [], [], [], [], [183, 0], [], [], [], [183, 0]]) (by decide +kernel)
theorem xh_125 : xhead xm_125 707 = true := by decide +kernel
set_option maxRecDepth 100000 in
theorem xc_126 : ∀ e ∈ xk_126, ∃ q, xchk yX7_cell cX7_cell 2 e q = true := xchks_of (ps := [[], [], [238, 239, 240, 56], [], [], [179, 0]]) (by decide +kernel)
theorem xh_126 : xhead xm_126 237 = true := by decide +kernel
set_option maxRecDepth 100000 in
theorem xc_127 : ∀ e ∈ xk_127, ∃ q, xchk yX7_set cX7_set 3 e q = true := xchks_of (ps := [[], [], [238, 239, 240, 56], [], [], [], [], [181, 0], [], [], [179, 0], [], [], [], [], [], [], [181, 0], [], [], [], [179, 0], [], [], [], [], [], [], [179, 0]]) (by decide +kernel)
theorem xh_127 : xhead xm_127 699 = true := by decide +kernel
set_option maxRecDepth 100000 in
theorem xc_128 : ∀ e ∈ xk_128, ∃ q, xchk yX8_init cX8_init 3 e q = true := xchks_of (ps := [[], [], [], [326, 294, 60]]) (by decide +kernel)
theorem xh_128 : xhead xm_128 325 = true := by decide +kernel
set_option maxRecDepth 100000 in
theorem xc_129 : ∀ e ∈ xk_129, ∃ q, xchk yX8_weightOf cX8_weightOf 4 e q = true := xchks_of (ps := [[], [], [], [], [485, 1293, 329, 476, 60, 5], [], [], [], [486, 487, 67]]) (by decide +kernel)
theorem xh_129 : xhead xm_129 484 = true := by decide +kernel
set_option maxRecDepth 100000 in
theorem xc_130 : ∀ e ∈ xk_130, ∃ q, xchk yX8_pay cX8_pay 1 e q = true := xchks_of (ps := [[], [737, 1295, 329, 730, 60, 5], [], [311, 312, 0]]) (by decide +kernel)
theorem xh_130 : xhead xm_130 736 = true := by decide +kernel
set_option maxRecDepth 100000 in
theorem xc_131 : ∀ e ∈ xk_131, ∃ q, xchk yX9_init cX9_init 3 e q = true := xchks_of (ps := [[], [], [], [371, 294, 60]]) (by decide +kernel)
theorem xh_131 : xhead xm_131 370 = true := by decide +kernel
set_option maxRecDepth 100000 in
theorem xc_132 : ∀ e ∈ xk_132, ∃ q, xchk yX9_mostRoads cX9_mostRoads 1 e q = true := xchks_of (ps := [[], [303, 304, 0]]) (by decide +kernel)
theorem xh_132 : xhead xm_132 418 = true := by decide +kernel
set_option maxRecDepth 100000 in
theorem xc_133 : ∀ e ∈ xk_133, ∃ q, xchk yX9_pay cX9_pay 1 e q = true := xchks_of (ps := [[], [741, 1295, 374, 730, 60, 5], [], [303, 304, 0]]) (by decide +kernel)
theorem xh_133 : xhead xm_133 740 = true := by decide +kernel
set_option maxRecDepth 100000 in
theorem xc_134 : ∀ e ∈ xk_134, ∃ q, xchk yX10_find cX10_find 6 e q = true := xchks_of (ps := [[], [], [147, 0], [], [], [], [400, 388, 389, 54], [148, 0], [], [], [149, 0], [], [], [150, 0], [], [], [151, 0], [], [], [143, 0], [], [], [145, 0], [], [], [], [], [], [], [], [401, 403, 3, 55], [], [143, 0]]) (by decide +kernel)
theorem xh_134 : xhead xm_134 399 = true := by decide +kernel
set_option maxRecDepth 100000 in
theorem xc_135 : ∀ e ∈ xk_135, ∃ q, xchk yX10_extend cX10_extend 9 e q = true := xchks_of (ps := [[], [143, 0], [], [], [], [145, 0], [], [], [], [], [151, 0], [], [], [142, 0], [], [], [140, 0], [], [], [405, 251, 250, 58], [], [], [143, 0], [], [], [145, 0], [], [], [148, 0], [], [], [], [148, 0], [406, 409, 407, 408, 407, 59, 410, 407, 59, 411, 407, 59, 412, 407, 59, 413, 407, 59, 414, 407, 59, 415, 407, 59, 416, 417, 66], [], [], [], [142, 0], [], [], [], [], [148, 0], [], [149, 0], [], [], [147, 0], [92, 0], [420, 423, 421, 422, 421, 59, 424, 421, 59, 425, 426, 62, 428, 429, 65, 432, 421, 59, 433, 421, 59, 434, 421, 59, 435, 421, 59], [], [], [], [], [], [147, 0], [95, 0], [], [], [147, 0], [], [], [437, 438, 439, 54], [], [], [], [], [], [441, 442, 53], [], [], [148, 0], [], [], [147, 0], [], [444, 445, 446, 54], [], [448, 451, 449, 450, 449, 59, 452, 453, 64, 456, 449, 59, 457, 449, 59, 458, 449, 59, 459, 449, 59, 460, 449, 59, 461, 449, 59], [], [], [], [142, 0], [], [], [], [], [148, 0], [], [], [147, 0], [108, 0], [], [], [], [147, 0], [], [444, 445, 446, 54], [463, 466, 464, 465, 464, 59, 467, 464, 59, 468, 464, 59, 469, 470, 65, 475, 476, 60, 478, 479, 63, 482, 483, 61, 492, 476, 60], [], [], [], [], [], [], [], [], [], [], [], [], [], [], [401, 403, 3, 55]]) (by decide +kernel)
theorem xh_135 : xhead xm_135 404 = true := by decide +kernel
set_option maxRecDepth 100000 in
theorem xc_136 : ∀ e ∈ xk_136, ∃ q, xchk yX10_length cX10_length 3 e q = true := xchks_of (ps := [[], [], [], [], [], [], [143, 0], [], [], [], [147, 0], [108, 0], [], [140, 0]]) (by decide +kernel)
theorem xh_136 : xhead xm_136 515 = true := by decide +kernel
set_option maxRecDepth 100000 in
theorem xc_137 : ∀ e ∈ xk_137, ∃ q, xchk yX10_leaveNicks cX10_leaveNicks 7 e q = true := xchks_of (ps := [[], [150, 0], [], [], [], [150, 0], [], [], [], [], [], [], [143, 0], [], [], [148, 0], [], [], [140, 0], [], [], [], [], [148, 0], [], [], [148, 0], [], [149, 0], [], [], [147, 0], [92, 0], [420, 423, 421, 422, 421, 59, 424, 421, 59, 425, 426, 62, 428, 429, 65, 432, 421, 59, 433, 421, 59, 434, 421, 59, 435, 421, 59], [498, 501, 499, 500, 499, 59, 502, 503, 64, 505, 499, 59, 506, 499, 59, 507, 499, 59, 508, 499, 59, 509, 499, 59, 510, 499, 59], [], [], [], [147, 0], [], [100, 0], [], [], [], [], [], [], [100, 0], [], [147, 0], [], [], [437, 438, 439, 54]]) (by decide +kernel)
theorem xh_137 : xhead xm_137 497 = true := by decide +kernel
set_option maxRecDepth 100000 in
theorem xc_138 : ∀ e ∈ xk_138, ∃ q, xchk yX11_land cX11_land 7 e q = true := xchks_of (ps := [[], [], [], [224, 226, 0, 53], [], [], [], [], [], [], [199, 0], [], [], [], [], [231, 232, 53], [], [], [], [], [], [], [], [], [193, 0], [], [192, 0], [245, 246, 247, 54], [], [], [], [], [], [], [184, 0], [], [], [], [], [252, 254, 1, 53], [], [], [], [], [], [], [], [], [], [234, 235, 236, 56], [242, 243, 53], [], [], [], [], [], [], [192, 0], [], [193, 0], [245, 246, 247, 54]]) (by decide +kernel)
theorem xh_138 : xhead xm_138 223 = true := by decide +kernel
set_option maxRecDepth 100000 in
theorem xc_139 : ∀ e ∈ xk_139, ∃ q, xchk yX11_road cX11_road 3 e q = true := xchks_of (ps := [[], [192, 0], [], [520, 277, 278, 54], [], [], [], [], [], [], [192, 0], [103, 0], [], [], [], [], [192, 0], [105, 0], [], [], [], [], [192, 0], [107, 0], [], [], [], [], [192, 0], [], [521, 445, 446, 54]]) (by decide +kernel)
theorem xh_139 : xhead xm_139 519 = true := by decide +kernel
set_option maxRecDepth 100000 in
theorem xc_140 : ∀ e ∈ xk_140, ∃ q, xchk yX11_carrier cX11_carrier 4 e q = true := xchks_of (ps := [[], [192, 0], [], [387, 388, 389, 54], [], [], [], [], [], [228, 229, 53], [], [], [], [], [], [], [301, 0, 1], [], [], [313, 0, 1]]) (by decide +kernel)
theorem xh_140 : xhead xm_140 525 = true := by decide +kernel
set_option maxRecDepth 100000 in
theorem xc_141 : ∀ e ∈ xk_141, ∃ q, xchk yX11_hires cX11_hires 3 e q = true := xchks_of (ps := [[], [], [530, 532, 4, 53], [], [], [], [], [], [], [192, 0], [], [198, 0], [], [], [380, 381, 382, 54], [], [], [192, 0], [98, 0]]) (by decide +kernel)
theorem xh_141 : xhead xm_141 529 = true := by decide +kernel
set_option maxRecDepth 100000 in
theorem xc_142 : ∀ e ∈ xk_142, ∃ q, xchk yX11_nick cX11_nick 4 e q = true := xchks_of (ps := [[], [192, 0], [], [520, 277, 278, 54], [], [], [], [228, 229, 53], [], [], [], [228, 229, 53], [], [], [], [], [192, 0], [], [], [538, 282, 283, 54], [], [], [], [], [], [], [], [], [], [], [192, 0], [], [101, 0], [], [], [539, 286, 53], [], [101, 0]]) (by decide +kernel)
theorem xh_142 : xhead xm_142 537 = true := by decide +kernel
set_option maxRecDepth 100000 in
theorem xc_143 : ∀ e ∈ xk_143, ∃ q, xchk yX11_way cX11_way 6 e q = true := xchks_of (ps := [[], [192, 0], [], [], [], [], [384, 385, 53], [], [], [], [228, 229, 53], [], [], [], [], [196, 0], [], [192, 0], [], [], [], [], [396, 397, 398, 55], [], [], [], [], [], [], [196, 0], [146, 0], [], [], [], [], [], [196, 0], [144, 0], [], [], [196, 0], [512, 513, 514, 55]]) (by decide +kernel)
theorem xh_143 : xhead xm_143 543 = true := by decide +kernel
set_option maxRecDepth 100000 in
theorem xc_144 : ∀ e ∈ xk_144, ∃ q, xchk yX11_step cX11_step 6 e q = true := xchks_of (ps := [[], [192, 0], [], [], [], [], [384, 385, 53], [], [], [], [], [], [], [196, 0], [], [192, 0], [], [], [], [], [396, 397, 398, 55], [], [], [], [196, 0], [144, 0], [], [], [], [], [196, 0], [141, 0]]) (by decide +kernel)
theorem xh_144 : xhead xm_144 547 = true := by decide +kernel
set_option maxRecDepth 100000 in
theorem xc_145 : ∀ e ∈ xk_145, ∃ q, xchk yX11_go cX11_go 6 e q = true := xchks_of (ps := [[], [192, 0], [], [], [], [], [384, 385, 53], [], [], [], [], [], [192, 0], [], [], [], [], [392, 394, 2, 53]]) (by decide +kernel)
theorem xh_145 : xhead xm_145 551 = true := by decide +kernel
set_option maxRecDepth 100000 in
theorem xc_146 : ∀ e ∈ xk_146, ∃ q, xchk yX11_far cX11_far 4 e q = true := xchks_of (ps := [[], [], [], [], [556, 558, 5, 53], [], [], [], [], [192, 0], [], [], [], [], [560, 561, 562, 54]]) (by decide +kernel)
theorem xh_146 : xhead xm_146 555 = true := by decide +kernel
set_option maxRecDepth 100000 in
theorem xc_147 : ∀ e ∈ xk_147, ∃ q, xchk yX11_many cX11_many 5 e q = true := xchks_of (ps := [[], [], [], [], [556, 558, 5, 53], [], [], [], [228, 229, 53], [], [], [], [], [192, 0], [], [572, 573, 574, 54], [], [], [], [192, 0], [], [], [], [], [], [577, 578, 579, 54], [], [], [192, 0], [], [], [581, 582, 583, 54]]) (by decide +kernel)
theorem xh_147 : xhead xm_147 571 = true := by decide +kernel
set_option maxRecDepth 100000 in
theorem xc_148 : ∀ e ∈ xk_148, ∃ q, xchk yX11_served cX11_served 6 e q = true := xchks_of (ps := [[], [], [228, 229, 53], [], [], [192, 0], [], [589, 269, 270, 54], [], [], [], [228, 229, 53], [], [], [], [], [], [], [192, 0], [93, 0], [], [228, 229, 53], [], [], [], [590, 442, 53], [], [], [], [], [192, 0], [], [572, 573, 574, 54], [], [192, 0], [], [], [591, 592, 593, 54], [], [], [], [], [600, 487, 67]]) (by decide +kernel)
theorem xh_148 : xhead xm_148 588 = true := by decide +kernel
set_option maxRecDepth 100000 in
theorem xc_149 : ∀ e ∈ xk_149, ∃ q, xchk yX11_spite cX11_spite 9 e q = true := xchks_of (ps := [[], [], [], [], [556, 558, 5, 53], [], [], [], [228, 229, 53], [], [], [], [], [192, 0], [], [572, 573, 574, 54], [], [], [], [], [], [], [], [], [192, 0], [96, 0], [], [], [192, 0], [], [], [538, 282, 283, 54], [], [], [], [192, 0], [], [], [], [192, 0], [103, 0], [], [], [], [192, 0], [105, 0], [], [], [], [577, 578, 579, 54]]) (by decide +kernel)
theorem xh_149 : xhead xm_149 604 = true := by decide +kernel
set_option maxRecDepth 100000 in
theorem xc_150 : ∀ e ∈ xk_150, ∃ q, xchk yX11_worth cX11_worth 7 e q = true := xchks_of (ps := [[], [192, 0], [], [520, 277, 278, 54], [], [], [], [], [], [556, 558, 5, 53], [], [], [], [], [192, 0], [], [], [], [], [560, 561, 562, 54], [], [], [], [], [], [], [], [192, 0], [], [], [], [], [560, 561, 562, 54]]) (by decide +kernel)
theorem xh_150 : xhead xm_150 608 = true := by decide +kernel
set_option maxRecDepth 100000 in
theorem xc_151 : ∀ e ∈ xk_151, ∃ q, xchk yX11_newly cX11_newly 10 e q = true := xchks_of (ps := [[], [], [], [], [556, 558, 5, 53], [], [], [], [228, 229, 53], [], [], [], [], [192, 0], [], [572, 573, 574, 54], [], [], [], [], [], [], [], [], [192, 0], [93, 0], [], [], [], [], [], [], [], [192, 0], [93, 0], [], [], [192, 0], [], [], [], [], [], [577, 578, 579, 54]]) (by decide +kernel)
theorem xh_151 : xhead xm_151 612 = true := by decide +kernel
set_option maxRecDepth 100000 in
theorem xc_152 : ∀ e ∈ xk_152, ∃ q, xchk yX11_round cX11_round 7 e q = true := xchks_of (ps := [[], [], [228, 229, 53], [], [], [192, 0], [], [589, 269, 270, 54], [], [], [], [], [], [], [], [], [], [192, 0], [96, 0], [], [], [192, 0], [], [], [617, 438, 439, 54], [], [], [], [], [192, 0], [], [], [538, 282, 283, 54], [], [], [], [192, 0], [], [], [], [], [560, 561, 562, 54], [], [], [], [], [], [], [], [], [192, 0], [107, 0], [], [], [], [], [], [], [], [192, 0], [107, 0]]) (by decide +kernel)
theorem xh_152 : xhead xm_152 616 = true := by decide +kernel
set_option maxRecDepth 100000 in
theorem xc_153 : ∀ e ∈ xk_153, ∃ q, xchk yX11_often cX11_often 6 e q = true := xchks_of (ps := [[], [192, 0], [], [], [], [], [384, 385, 53], [], [], [], [], [193, 0], [], [192, 0], [245, 246, 247, 54], [], [], [], [], [], [], [], [193, 0], [], [], [], [], [392, 394, 2, 53]]) (by decide +kernel)
theorem xh_153 : xhead xm_153 621 = true := by decide +kernel
set_option maxRecDepth 100000 in
theorem xc_154 : ∀ e ∈ xk_154, ∃ q, xchk yX11_run cX11_run 8 e q = true := xchks_of (ps := [[], [], [], [626, 628, 8, 53], [], [], [], [], [], [], [193, 0], [], [192, 0], [245, 246, 247, 54], [], [], [], [], [], [], [], [], [199, 0], [], [], [184, 0], [], [], [], [], [], [199, 0], [], [], [], [630, 632, 9, 53]]) (by decide +kernel)
theorem xh_154 : xhead xm_154 625 = true := by decide +kernel
set_option maxRecDepth 100000 in
theorem xc_155 : ∀ e ∈ xk_155, ∃ q, xchk yX11_orders cX11_orders 6 e q = true := xchks_of (ps := [[], [], [], [626, 628, 8, 53], [], [], [], [], [], [], [193, 0], [], [192, 0], [245, 246, 247, 54], [], [], [200, 0], [], [], [199, 0], [], [], [184, 0], [], [], [], [], [], [], [], [], [199, 0], [], [], [], [], [], [638, 640, 10, 53], [], [], [], [], [], [], [200, 0]]) (by decide +kernel)
theorem xh_155 : xhead xm_155 637 = true := by decide +kernel
set_option maxRecDepth 100000 in
theorem xc_156 : ∀ e ∈ xk_156, ∃ q, xchk yX11_seeded cX11_seeded 10 e q = true := xchks_of (ps := [[], [], [], [], [], [], [], [], [], [192, 0], [98, 0], [], [], [], [], [193, 0], [], [192, 0], [245, 246, 247, 54], [], [], [], [], [], [], [], [], [], [], [646, 647, 53], [], [], [], [192, 0], [98, 0], [650, 651, 53], [], [], [646, 647, 53], [], [], [], [650, 651, 53], [], [], [646, 647, 53], [], [], [], [192, 0], [93, 0], [650, 651, 53], [], [], [646, 647, 53], [], [], [], [192, 0], [93, 0], [650, 651, 53], [], [], [], [], [], [], [193, 0], [], [], [], [], [392, 394, 2, 53]]) (by decide +kernel)
theorem xh_156 : xhead xm_156 645 = true := by decide +kernel
set_option maxRecDepth 100000 in
theorem xc_157 : ∀ e ∈ xk_157, ∃ q, xchk yX11_judge cX11_judge 6 e q = true := xchks_of (ps := [[], [], [], [224, 226, 0, 53], [], [], [], [], [], [], [199, 0], [], [], [], [], [193, 0], [], [192, 0], [245, 246, 247, 54], [], [], [], [], [184, 0], [], [], [], [234, 235, 236, 56], [], [], [193, 0], [], [520, 277, 278, 54], [], [], [], [], [], [184, 0], [], [], [], [], [193, 0], [], [], [], [], [], [234, 235, 236, 56], [272, 273, 274, 54]]) (by decide +kernel)
theorem xh_157 : xhead xm_157 657 = true := by decide +kernel
set_option maxRecDepth 100000 in
theorem xc_158 : ∀ e ∈ xk_158, ∃ q, xchk yX11_image cX11_image 1 e q = true := xchks_of (ps := [[], [194, 0], [], [192, 0], [245, 246, 247, 54], [], [], [195, 0], [], [192, 0], [96, 0]]) (by decide +kernel)
theorem xh_158 : xhead xm_158 661 = true := by decide +kernel
set_option maxRecDepth 100000 in
theorem xc_159 : ∀ e ∈ xk_159, ∃ q, xchk yX11_restore cX11_restore 1 e q = true := xchks_of (ps := [[], [195, 0], [], [], [], [], [192, 0], [], [194, 0], [245, 246, 247, 54], [], [192, 0], [96, 0]]) (by decide +kernel)
theorem xh_159 : xhead xm_159 665 = true := by decide +kernel
set_option maxRecDepth 100000 in
theorem xc_160 : ∀ e ∈ xk_160, ∃ q, xchk yX11_count cX11_count 2 e q = true := xchks_of (ps := [[], [], [], [192, 0], [93, 0], [], [], [192, 0], [96, 0], [], [], [192, 0], [98, 0], [], [], [192, 0], [101, 0], [670, 671, 68], [], [], [192, 0], [676, 677, 678, 54]]) (by decide +kernel)
theorem xh_160 : xhead xm_160 669 = true := by decide +kernel
set_option maxRecDepth 100000 in
theorem xc_161 : ∀ e ∈ xk_161, ∃ q, xchk yX11_keep cX11_keep 5 e q = true := xchks_of (ps := [[], [], [228, 229, 53], [], [], [], [228, 229, 53], [], [], [], [], [], [], [197, 0], [], [], [], [], [198, 0], [], [], [], [], [], [], [], [228, 229, 53], [], [], [], [228, 229, 53], [], [], [], [], [197, 0], [], [], [], [], [198, 0], [], [], [], [288, 289, 53]]) (by decide +kernel)
theorem xh_161 : xhead xm_161 683 = true := by decide +kernel
set_option maxRecDepth 100000 in
theorem xc_162 : ∀ e ∈ xk_162, ∃ q, xchk yX11_row cX11_row 4 e q = true := xchks_of (ps := [[], [], [228, 229, 53], [], [], [], [], [], [], [], [], [], [], [], [], [], [], [], [], [197, 0], [], [], [], [], [198, 0], [], [], [], [], [199, 0], [], [], [], [], [688, 689, 690, 56]]) (by decide +kernel)
theorem xh_162 : xhead xm_162 687 = true := by decide +kernel
set_option maxRecDepth 100000 in
theorem xc_163 : ∀ e ∈ xk_163, ∃ q, xchk yX11_put cX11_put 5 e q = true := xchks_of (ps := [[], [], [], [224, 226, 0, 53], [], [], [], [], [], [], [199, 0], [], [], [], [], [696, 697, 698, 56]]) (by decide +kernel)
theorem xh_163 : xhead xm_163 695 = true := by decide +kernel
set_option maxRecDepth 100000 in
theorem xc_164 : ∀ e ∈ xk_164, ∃ q, xchk yX11_copy cX11_copy 6 e q = true := xchks_of (ps := [[], [], [228, 229, 53], [], [], [], [228, 229, 53], [], [], [], [], [197, 0], [], [], [], [], [197, 0], [], [], [], [], [], [], [197, 0], [], [], [], [], [], [197, 0], [], [], [], [], [], [199, 0], [], [], [182, 0], [], [199, 0], [], [], [182, 0], [], [], [], [], [199, 0], [], [], [], [], [704, 705, 706, 56], [], [], [199, 0], [], [], [], [], [704, 705, 706, 56], [], [], [], [], [199, 0], [], [], [180, 0], [], [], [199, 0], [], [], [180, 0], [], [], [708, 251, 250, 58]]) (by decide +kernel)
theorem xh_164 : xhead xm_164 703 = true := by decide +kernel
set_option maxRecDepth 100000 in
theorem xc_165 : ∀ e ∈ xk_165, ∃ q, xchk yX11_wage cX11_wage 3 e q = true := xchks_of (ps := [[], [], [530, 532, 4, 53], [], [], [], [], [198, 0], [], [], [], [], [], [], [198, 0], [], [], [713, 716, 714, 715, 714, 59, 717, 718, 64, 721, 722, 62, 725, 726, 65, 729, 730, 60, 733, 714, 59, 734, 735, 61, 738, 739, 66]]) (by decide +kernel)
theorem xh_165 : xhead xm_165 712 = true := by decide +kernel
set_option maxRecDepth 100000 in
theorem xc_166 : ∀ e ∈ xk_166, ∃ q, xchk yX11_isOneOf cX11_isOneOf 2 e q = true := xchks_of (ps := []) (by decide +kernel)
theorem xh_166 : xhead xm_166 230 = true := by decide +kernel
set_option maxRecDepth 100000 in
theorem xc_167 : ∀ e ∈ xk_167, ∃ q, xchk yX11_contains cX11_contains 2 e q = true := xchks_of (ps := []) (by decide +kernel)
theorem xh_167 : xhead xm_167 443 = true := by decide +kernel
set_option maxRecDepth 100000 in
theorem xc_168 : ∀ e ∈ xk_168, ∃ q, xchk yX11_nickOf cX11_nickOf 2 e q = true := xchks_of (ps := []) (by decide +kernel)
theorem xh_168 : xhead xm_168 287 = true := by decide +kernel
set_option maxRecDepth 100000 in
theorem xc_169 : ∀ e ∈ xk_169, ∃ q, xchk yX11_isErrand cX11_isErrand 4 e q = true := xchks_of (ps := [[], [], [228, 229, 53], [], [], [192, 0], [], [], [391, 265, 266, 54]]) (by decide +kernel)
theorem xh_169 : xhead xm_169 559 = true := by decide +kernel
set_option maxRecDepth 100000 in
theorem xc_170 : ∀ e ∈ xk_170, ∃ q, xchk yX11_isCarriage cX11_isCarriage 5 e q = true := xchks_of (ps := [[], [], [387, 388, 389, 54], [], [], [], [228, 229, 53], [], [], [], [], [391, 265, 266, 54]]) (by decide +kernel)
theorem xh_170 : xhead xm_170 386 = true := by decide +kernel
set_option maxRecDepth 100000 in
theorem xc_171 : ∀ e ∈ xk_171, ∃ q, xchk yX11_rowRefusal cX11_rowRefusal 4 e q = true := xchks_of (ps := [[], [], [228, 229, 53], [], [], [], [], [197, 0], [], [], [], [], [], [], [197, 0], [], [], [], [], [], [], [], [199, 0], [], [], [182, 0]]) (by decide +kernel)
theorem xh_171 : xhead xm_171 227 = true := by decide +kernel
set_option maxRecDepth 100000 in
theorem xc_172 : ∀ e ∈ xk_172, ∃ q, xchk yX11_carrierRefusal cX11_carrierRefusal 2 e q = true := xchks_of (ps := [[], [], [228, 229, 53], [], [], [], [], [197, 0], [], [], [], [], [], [], [197, 0]]) (by decide +kernel)
theorem xh_172 : xhead xm_172 533 = true := by decide +kernel
set_option maxRecDepth 100000 in
theorem xc_173 : ∀ e ∈ xk_173, ∃ q, xchk yX11_carriagesRefusal cX11_carriagesRefusal 6 e q = true := xchks_of (ps := [[], [], [228, 229, 53], [], [], [], [], [], [], [224, 226, 0, 53], [], [], [], [], [], [], [199, 0], [], [], [], [], [184, 0], [], [], [], [], [184, 0], [], [], [], [], [], [], [], [], [184, 0], [], [], [192, 0], [], [], [234, 235, 236, 56], [], [], [], [], [234, 235, 236, 56], [], [], [], [], [234, 235, 236, 56], [], [], [], [], [234, 235, 236, 56], [384, 385, 53]]) (by decide +kernel)
theorem xh_173 : xhead xm_173 629 = true := by decide +kernel
set_option maxRecDepth 100000 in
theorem xc_174 : ∀ e ∈ xk_174, ∃ q, xchk yX11_milesGone cX11_milesGone 6 e q = true := xchks_of (ps := [[], [196, 0], [], [], [], [], [], [396, 397, 398, 55], [], [], [], [], [196, 0], [494, 495, 496, 55], [], [196, 0], [512, 513, 514, 55]]) (by decide +kernel)
theorem xh_174 : xhead xm_174 395 = true := by decide +kernel
set_option maxRecDepth 100000 in
theorem xc_175 : ∀ e ∈ xk_175, ∃ q, xchk yX11_milesOfCarriage cX11_milesOfCarriage 4 e q = true := xchks_of (ps := [[], [], [], [], [], [], [193, 0], [], [], [234, 235, 236, 56], [], [], [], [], [234, 235, 236, 56], [], [], [], [], [234, 235, 236, 56], [], [], [], [], [234, 235, 236, 56], [392, 394, 2, 53]]) (by decide +kernel)
theorem xh_175 : xhead xm_175 633 = true := by decide +kernel
set_option maxRecDepth 100000 in
theorem xc_176 : ∀ e ∈ xk_176, ∃ q, xchk yX11_ordersOfAll cX11_ordersOfAll 10 e q = true := xchks_of (ps := [[], [], [], [200, 0], [], [], [], [], [200, 0], [], [], [], [200, 0], [], [], [], [], [], [], [], [], [193, 0], [101, 0], [], [], [], [], [], [], [], [], [], [], [590, 442, 53], [], [], [], [], [], [630, 632, 9, 53], [], [], [], [], [], [], [], [], [], [], [], [], [], [], [], [], [], [], [], [], [638, 640, 10, 53], [], [], [], [193, 0], [], [101, 0]]) (by decide +kernel)
theorem xh_176 : xhead xm_176 641 = true := by decide +kernel
set_option maxRecDepth 100000 in
theorem xc_177 : ∀ e ∈ xk_177, ∃ q, xchk yX11_nextSeed cX11_nextSeed 1 e q = true := xchks_of (ps := [[], [649]]) (by decide +kernel)
theorem xh_177 : xhead xm_177 648 = true := by decide +kernel
set_option maxRecDepth 100000 in
theorem xc_178 : ∀ e ∈ xk_178, ∃ q, xchk yX11_draw cX11_draw 2 e q = true := xchks_of (ps := [[], [], [], [], [], [], [653]]) (by decide +kernel)
theorem xh_178 : xhead xm_178 652 = true := by decide +kernel
set_option maxRecDepth 100000 in
theorem xc_179 : ∀ e ∈ xk_179, ∃ q, xchk yX11_digitsBehind cX11_digitsBehind 1 e q = true := xchks_of (ps := []) (by decide +kernel)
theorem xh_179 : xhead xm_179 244 = true := by decide +kernel
set_option maxRecDepth 100000 in
theorem xc_180 : ∀ e ∈ xk_180, ∃ q, xchk yX11_firstBrokenByte cX11_firstBrokenByte 4 e q = true := xchks_of (ps := [[], [], [], [], [], [], [184, 0], [], [], [], [234, 235, 236, 56], [], [], [], [], [], [242, 243, 53], [], [], [], [], [], [], [], [], [], [], [], [], [], [], [], [], [], [], [], [], [], [], [], [], [], [], [], [184, 0], [], [], [], [], [], [], [], [184, 0]]) (by decide +kernel)
theorem xh_180 : xhead xm_180 233 = true := by decide +kernel
set_option maxRecDepth 100000 in
theorem xc_181 : ∀ e ∈ xk_181, ∃ q, xchk yX11_applyStatement cX11_applyStatement 7 e q = true := xchks_of (ps := [[], [], [], [], [234, 235, 236, 56], [], [], [], [], [], [], [], [234, 235, 236, 56], [], [], [], [], [], [], [], [234, 235, 236, 56], [], [], [], [], [], [], [], [234, 235, 236, 56], [], [], [], [], [], [234, 235, 236, 56], [], [], [193, 0], [], [256, 257, 258, 54], [], [], [193, 0], [], [], [], [260, 261, 262, 54], [], [], [193, 0], [], [], [272, 273, 274, 54], [], [], [], [228, 229, 53], [], [], [], [228, 229, 53], [], [], [193, 0], [], [], [288, 289, 53], [380, 381, 382, 54], [], [], [], [], [], [], [193, 0], [], [], [], [], [384, 385, 53], [], [], [], [193, 0], [], [], [], [], [392, 394, 2, 53]]) (by decide +kernel)
theorem xh_181 : xhead xm_181 255 = true := by decide +kernel
set_option maxRecDepth 100000 in
theorem xc_182 : ∀ e ∈ xk_182, ∃ q, xchk yX11_carrierOf cX11_carrierOf 2 e q = true := xchks_of (ps := [[], [], [291, 292, 60], [], [], [], [293, 294, 60], [], [321, 322, 61], [], [], [], [323, 324, 61], [], [330, 331, 62], [], [], [], [332, 333, 62], [], [339, 340, 63], [], [], [], [341, 342, 63], [], [348, 349, 64], [], [], [], [350, 351, 64], [], [357, 358, 65], [], [], [], [359, 360, 65], [], [366, 367, 66], [], [], [], [368, 369, 66], [], [171, 375, 59], [], [], [], [376, 297, 59]]) (by decide +kernel)
theorem xh_182 : xhead xm_182 290 = true := by decide +kernel
