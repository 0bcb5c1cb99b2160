/-! THE TABLES ARE WHAT THE CLAIM SAYS: each entry of the code against the bytes and the words (by places in lw_tbl) -/
def xnest : Jvm.Cond → Bool
  | .fieldLinkNest .. => true
  | .methodLinkNest .. => true
  | _ => false
def xw (i : Nat) (w : Jvm.Cond) : Bool := decide (lw_tbl[i]? = some w)
def xg (i : Nat) (w : Jvm.Cond) : Bool := xw i w && goodWord w
def xcN (aux : List Nat) (x : Int32) : Bool := match aux with
  | [v] => decide (x = nI v)
  | [_, v] => decide (x = -nI v)
  | _ => true
def xcJ (pc : Nat) (aux : List Nat) (off : Int) : Bool := match aux with
  | [t] => decide ((pc : Int) + off = (t : Int))
  | _ => true
/-- the keys and places of a table switch -/
def xcT (pc : Nat) : Int → List Nat → List Int → Bool
  | k, v :: t :: r, o :: os => decide (k = (v : Int)) && Nat.blt v 1000000 && decide ((pc : Int) + o = (t : Int)) && xcT pc (k + 1) r os
  | _, [], [] => true
  | _, _, _ => false
def xcL (pc : Nat) : List Nat → List (Int × Int) → Bool
  | v :: t :: r, (k, o) :: os => decide (k = (v : Int)) && Nat.blt v 1000000 && decide ((pc : Int) + o = (t : Int)) && xcL pc r os
  | [], [] => true
  | _, _ => false
def xcsr : List Nat := [0, 1, 3, 4, 5, 6, 8, 9]
/-- a field's link: of a class (by its number; 100: any carrier) -/
def xcF (own : String) (mname : String) (put : Bool) (i : Nat) (aux ps : List Nat) : Bool := match aux with
  | [c, k] =>
    let cl : List Nat := if c = 100 then xcsr else [c]
    let T0 := ((vwCl.getD (cl.headD 0) (RX0, TX0, 2)).2.1 k)
    let ref := if c = 100 then (if ps.getD 2 0 = 0 then own else RX0) else (vwCl.getD c (RX0, TX0, 2)).1
    (xg (ps.getD 0 0) (.fieldLink own i ref T0.2.1 T0.2.2.1) || xw (ps.getD 0 0) (.fieldLinkNest own i ref T0.2.1 T0.2.2.1 RX11)) &&
    (decide (T0.1 = ref) || xg (ps.getD 1 0) (.sameField ref T0.1 T0.2.1 T0.2.2.1)) &&
    (cl.all fun ci => decide (ci < 13) && decide (k < (vwCl.getD ci (RX0, TX0, 2)).2.2) && decide ((vwCl.getD ci (RX0, TX0, 2)).2.1 k = T0)) &&
    (!put || !T0.2.2.2 || (decide (mname = "<init>") && decide (T0.1 = own) && xg (ps.getD 0 0) (.fieldLink own i ref T0.2.1 T0.2.2.1)))
  | _ => true
def xcP (y : MethodName) (n : Nat) : Bool := decide ((parseMethodDescriptor y.desc).map (fun d => d.parameters.length) = some n) && decide (y.cls ≠ "java/lang/invoke/MethodHandle") && decide (y.cls ≠ "java/lang/invoke/VarHandle")
/-- a call of a known method: what it gives back is what the table of methods says -/
def xcR (y1 k r : Nat) : Bool := Nat.beq (xmeth y1).2.2.2.1 k && Nat.beq (xmeth y1).2.2.2.2.1 r && Nat.blt y1 xMeth.length && !Nat.beq y1 79
def xcC (own : String) (i : Nat) (aux ps : List Nat) : Bool := match aux with
  | [0, y1, n, k, r] => (xg (ps.getD 0 0) (.methodLink own i (xmeth y1).1) || xw (ps.getD 0 0) (.methodLinkNest own i (xmeth y1).1 RX11)) && xg (ps.getD 1 0) (.static (xmeth y1).1) && xg (ps.getD 2 0) (.initialized (xmeth y1).1.cls) && xcP (xmeth y1).1 n && xcR y1 k r
  | [5] => xg (ps.getD 0 0) (.methodLink own i arraycopyName) && xg (ps.getD 1 0) (.native arraycopyName) && xg (ps.getD 2 0) (.static arraycopyName) && xg (ps.getD 3 0) (.initialized "java/lang/System")
  | [7] => decide (own = RL)
  | _ => true
def xcV (own : String) (i : Nat) (aux ps : List Nat) : Bool := match aux with
  | [1, y1, c, n, k, r] => xg (ps.getD 0 0) (.methodLink own i (xmeth y1).1) && xg (ps.getD 1 0) (.instanceMethod (xmeth y1).1) && xg (ps.getD 2 0) (.selects (xmeth y1).1.cls (xmeth y1).1 (xmeth y1).1) && xg (ps.getD 3 0) (.initialized (xmeth y1).1.cls) && decide ((vwCl.getD c (RX0, TX0, 2)).1 = (xmeth y1).1.cls) && decide (c < 13) && xcP (xmeth y1).1 n && xcR y1 k r
  | [2, sel, n, k, r] =>
    let x := (xmeth (xvt sel 0)).1
    decide (x.cls = RX0) && xg (ps.getD 0 0) (.methodLink own i x) && xg (ps.getD 1 0) (.sameMethod RX0 RX0 x.name x.desc) && xg (ps.getD 2 0) (.instanceMethod x) && xcP x n && xcR (xvt sel 0) k r &&
    ((List.range 8).all fun j => let ci := xcsr.getD j 0
      let y := (xmeth (xvt sel ci)).1
      xg (ps.getD (3 + 3 * j) 0) (.selects (vwCl.getD ci (RX0, TX0, 2)).1 x y) && xg (ps.getD (4 + 3 * j) 0) (.instanceMethod y) && xg (ps.getD (5 + 3 * j) 0) (.initialized y.cls) && xcR (xvt sel ci) k r && decide (y.desc = x.desc) && decide (y.name = x.name))
  | [6] => decide (own = RL)
  | _ => true
def xcS (own : String) (i : Nat) (aux ps : List Nat) : Bool := match aux with
  | [3, y1, n, k, r] => xcP (xmeth y1).1 n && xcR y1 k r &&
    (if (xmeth y1).1.name = "<init>" then xg (ps.getD 0 0) (.methodLink own i (xmeth y1).1) && xg (ps.getD 1 0) (.instanceMethod (xmeth y1).1) && xg (ps.getD 2 0) (.initialized (xmeth y1).1.cls) && Nat.beq k 0
     else
      let xc := (vwCl.getD (ps.getD 5 0) (RX0, TX0, 2)).1
      xg (ps.getD 0 0) (.methodLink own i ⟨xc, (xmeth y1).1.name, (xmeth y1).1.desc⟩) && xg (ps.getD 1 0) (.sameMethod xc (xmeth y1).1.cls (xmeth y1).1.name (xmeth y1).1.desc) && xg (ps.getD 2 0) (.superclass own xc) && xg (ps.getD 3 0) (.instanceMethod (xmeth y1).1) && xg (ps.getD 4 0) (.initialized (xmeth y1).1.cls) &&
      (decide (xc = (xmeth y1).1.cls) || xg (ps.getD 6 0) (.superclass xc (xmeth y1).1.cls)))
  | [4] => xg (ps.getD 0 0) (.methodLink own i objectInit) && xg (ps.getD 1 0) (.instanceMethod objectInit) && xg (ps.getD 2 0) (.code objectInit ⟨#[0xb1]⟩ 1 none)
  | _ => true
def xchk (nm : MethodName) (bytes : ByteArray) (e : xE) (ps : List Nat) : Bool := match e with
  | (pc, ins, len, aux) => decide (decode bytes pc = .ok (ins, len)) && (match ins with
    | .iconst n => Nat.beq len 1 && xcN aux (Int32.ofInt n)
    | .bipush n => Nat.beq len 2 && xcN aux (Int8.ofInt n).toInt32
    | .sipush n => Nat.beq len 3 && xcN aux (Int16.ofInt n).toInt32
    | .iinc _ n => Nat.beq len 3 && xcN aux (Int32.ofInt n)
    | .lconst n => Nat.beq len 1 && (match aux with | [v] => decide (Int64.ofNat n.val = lN v) | _ => true)
    | .ldc i => Nat.beq len 2 && (match aux with | [v] => xg (ps.getD 0 0) (.constant nm.cls i (nI v)) | _ => true)
    | .ldc_w i => Nat.beq len 3 && (match aux with | [v] => xg (ps.getD 0 0) (.constant nm.cls i (nI v)) | _ => true)
    | .ldc2_w i => Nat.beq len 3 && (match aux with | [v] => xg (ps.getD 0 0) (.constantLong nm.cls i (lN v)) | _ => true)
    | .iload _ => Nat.beq len 2
    | .lload _ => Nat.beq len 2
    | .aload _ => Nat.beq len 2
    | .istore _ => Nat.beq len 2
    | .lstore _ => Nat.beq len 2
    | .astore _ => Nat.beq len 2
    | .goto off => Nat.beq len 3 && xcJ pc aux off
    | .ifCond _ off => Nat.beq len 3 && xcJ pc aux off
    | .if_icmp _ off => Nat.beq len 3 && xcJ pc aux off
    | .ifnull off => Nat.beq len 3 && xcJ pc aux off
    | .ifnonnull off => Nat.beq len 3 && xcJ pc aux off
    | .tableswitch d lo hi offs => (match aux with | t :: r => decide ((pc : Int) + d = (t : Int)) && xcT pc lo r offs.toList && decide (hi + 1 = lo + offs.size) | _ => true)
    | .lookupswitch d prs => (match aux with | t :: r => decide ((pc : Int) + d = (t : Int)) && xcL pc r prs.toList && ((prs.toList.zip (prs.toList.drop 1)).all (fun (a, next) => a.1 < next.1)) | _ => true)
    | .getfield i => Nat.beq len 3 && xcF nm.cls nm.name false i aux ps
    | .putfield i => Nat.beq len 3 && xcF nm.cls nm.name true i aux ps
    | .new i => Nat.beq len 3 && (match aux with
      | [c] => xcsr.elem c && xg (ps.getD 0 0) (.classLink nm.cls i (vwCl.getD c (RX0, TX0, 2)).1) && xg (ps.getD 1 0) (.instantiable (vwCl.getD c (RX0, TX0, 2)).1 2) && xg (ps.getD 2 0) (.initialized (vwCl.getD c (RX0, TX0, 2)).1)
      | _ => true)
    | .newarray _ => true
    | .athrow => true
    | .invokestatic i => Nat.beq len 3 && xcC nm.cls i aux ps
    | .invokevirtual i => Nat.beq len 3 && xcV nm.cls i aux ps
    | .invokespecial i => Nat.beq len 3 && xcS nm.cls i aux ps
    | _ => Nat.beq len 1)
def xchks (nm : MethodName) (bytes : ByteArray) : List xE → List (List Nat) → Bool
  | [], _ => true
  | e :: l, ps :: r => xchk nm bytes e ps && xchks nm bytes l r
  | e :: l, [] => xchk nm bytes e [] && xchks nm bytes l []
/-- the head of a method that is called -/
def xhead (m : xM) (i : Nat) : Bool := match m with
  | (nm, bytes, maxL, rk, _, rt, _, _) => xg i (.code nm bytes maxL rt) && plainName nm.cls && Nat.ble maxL 37 &&
    (match rk, rt with
      | 0, none => true
      | 1, some .int => true
      | 2, some .long => true
      | 4, some .boolean => true
      | 3, some (.object _) => true
      | _, _ => false)
set_option maxRecDepth 100000 in
theorem xc_0 : ∃ ps, xchks xm_0.1 xm_0.2.1 xk_0 ps = true := ⟨[[], [899, 0]], by decide +kernel⟩
theorem xh_0 : xhead xm_0 982 = true := by decide +kernel
set_option maxRecDepth 100000 in
theorem xc_1 : ∃ ps, xchks xm_1.1 xm_1.2.1 xk_1 ps = true := ⟨[], by decide +kernel⟩
theorem xh_1 : xhead xm_1 997 = true := by decide +kernel
set_option maxRecDepth 100000 in
theorem xc_2 : ∃ ps, xchks xm_2.1 xm_2.2.1 xk_2 ps = true := ⟨[[], [], [], [994], [995, 996, 57]], by decide +kernel⟩
theorem xh_2 : xhead xm_2 993 = true := by decide +kernel
set_option maxRecDepth 100000 in
theorem xc_3 : ∃ ps, xchks xm_3.1 xm_3.2.1 xk_3 ps = true := ⟨[[], [], [], [], [888, 0], [], [], [], [], [], [995, 996, 57]], by decide +kernel⟩
theorem xh_3 : xhead xm_3 1026 = true := by decide +kernel
set_option maxRecDepth 100000 in
theorem xc_4 : ∃ ps, xchks xm_4.1 xm_4.2.1 xk_4 ps = true := ⟨[[], [], [], [], [888, 0], [], [], [], [], [], [995, 996, 57]], by decide +kernel⟩
theorem xh_4 : xhead xm_4 1038 = true := by decide +kernel
set_option maxRecDepth 100000 in
theorem xc_5 : ∃ ps, xchks xm_5.1 xm_5.2.1 xk_5 ps = true := ⟨[[], [], [], [], [888, 0], [], [], [], [], [], [995, 996, 57]], by decide +kernel⟩
theorem xh_5 : xhead xm_5 1058 = true := by decide +kernel
set_option maxRecDepth 100000 in
theorem xc_6 : ∃ ps, xchks xm_6.1 xm_6.2.1 xk_6 ps = true := ⟨[[], [], [], [1042], [995, 996, 57]], by decide +kernel⟩
theorem xh_6 : xhead xm_6 1041 = true := by decide +kernel
set_option maxRecDepth 100000 in
theorem xc_7 : ∃ ps, xchks xm_7.1 xm_7.2.1 xk_7 ps = true := ⟨[[], [], [1023, 1025, 18, 57], [], [], [], [1023, 1025, 18, 57]], by decide +kernel⟩
theorem xh_7 : xhead xm_7 1022 = true := by decide +kernel
set_option maxRecDepth 100000 in
theorem xc_8 : ∃ ps, xchks xm_8.1 xm_8.2.1 xk_8 ps = true := ⟨[[], [888, 0]], by decide +kernel⟩
theorem xh_8 : xhead xm_8 1050 = true := by decide +kernel
set_option maxRecDepth 100000 in
theorem xc_9 : ∃ ps, xchks xm_9.1 xm_9.2.1 xk_9 ps = true := ⟨[[], [888, 0]], by decide +kernel⟩
theorem xh_9 : xhead xm_9 1034 = true := by decide +kernel
set_option maxRecDepth 100000 in
theorem xc_10 : ∃ ps, xchks xm_10.1 xm_10.2.1 xk_10 ps = true := ⟨[[], [888, 0]], by decide +kernel⟩
theorem xh_10 : xhead xm_10 1074 = true := by decide +kernel
set_option maxRecDepth 100000 in
theorem xc_11 : ∃ ps, xchks xm_11.1 xm_11.2.1 xk_11 ps = true := ⟨[[], [888, 0]], by decide +kernel⟩
theorem xh_11 : xhead xm_11 1078 = true := by decide +kernel
set_option maxRecDepth 100000 in
theorem xc_12 : ∃ ps, xchks xm_12.1 xm_12.2.1 xk_12 ps = true := ⟨[], by decide +kernel⟩
theorem xh_12 : xhead xm_12 1014 = true := by decide +kernel
set_option maxRecDepth 100000 in
theorem xc_13 : ∃ ps, xchks xm_13.1 xm_13.2.1 xk_13 ps = true := ⟨[[], [888, 0], [], [891, 0], [1012, 1013, 57]], by decide +kernel⟩
theorem xh_13 : xhead xm_13 1190 = true := by decide +kernel
set_option maxRecDepth 100000 in
theorem xc_14 : ∃ ps, xchks xm_14.1 xm_14.2.1 xk_14 ps = true := ⟨[[], [891, 0], [], [888, 0], [1012, 1013, 57]], by decide +kernel⟩
theorem xh_14 : xhead xm_14 1194 = true := by decide +kernel
set_option maxRecDepth 100000 in
theorem xc_15 : ∃ ps, xchks xm_15.1 xm_15.2.1 xk_15 ps = true := ⟨[], by decide +kernel⟩
theorem xh_15 : xhead xm_15 1093 = true := by decide +kernel
set_option maxRecDepth 100000 in
theorem xc_16 : ∃ ps, xchks xm_16.1 xm_16.2.1 xk_16 ps = true := ⟨[[], [], [], [1047, 1049, 23, 57], [], [], [], [], [], [1047, 1049, 23, 57], [], [], [], [], [1047, 1049, 23, 57], [], [], [], [], [], [1047, 1049, 23, 57]], by decide +kernel⟩
theorem xh_16 : xhead xm_16 1086 = true := by decide +kernel
set_option maxRecDepth 100000 in
theorem xc_17 : ∃ ps, xchks xm_17.1 xm_17.2.1 xk_17 ps = true := ⟨[[], [], [], [1047, 1049, 23, 57]], by decide +kernel⟩
theorem xh_17 : xhead xm_17 1046 = true := by decide +kernel
set_option maxRecDepth 100000 in
theorem xc_18 : ∃ ps, xchks xm_18.1 xm_18.2.1 xk_18 ps = true := ⟨[[], [], [], [], [], [], [], [], [], [888, 0]], by decide +kernel⟩
theorem xh_18 : xhead xm_18 1082 = true := by decide +kernel
set_option maxRecDepth 100000 in
theorem xc_19 : ∃ ps, xchks xm_19.1 xm_19.2.1 xk_19 ps = true := ⟨[[], [], [], [], [], [], [1047, 1049, 23, 57], [], [], [], [], [], [], [1047, 1049, 23, 57], [], [], [], [], [], [], [1047, 1049, 23, 57], [1091, 1092, 57], [], [], [], [], [], [], [], [], [], [], [], [], [], [1047, 1049, 23, 57]], by decide +kernel⟩
theorem xh_19 : xhead xm_19 1090 = true := by decide +kernel
set_option maxRecDepth 100000 in
theorem xc_20 : ∃ ps, xchks xm_20.1 xm_20.2.1 xk_20 ps = true := ⟨[[], [], [], [], [904, 0], [], [], [], [904, 0], [], [], [], [], [904, 0], [], [], [905, 0], [], [], [906, 0], [], [], [], [], [], [], [901, 0], [], [], [900, 0], [], [], [], [], [902, 0], [], [], [903, 0], [], [], [], [], [], [], [], [], [1071, 1073, 29, 57], [], [], [], [1075, 1077, 30, 57], [], [], [], [], [], [], [], [], [], [], [], [], [], [1079, 1081, 31, 57], [], [], [], [], [], [888, 0], [], [], [], [], [], [], [1083, 1085, 32, 57], [], [], [], [], [], [], [], [], [], [], [], [], [], [], [], [], [], [], [], [], [], [], [], [1047, 1049, 23, 57], [], [], [], [], [], [], [], [900, 0], [], [], [], [], [903, 0], [], [], [], [], [], [], [], [], [], [], [], [], [], [], [], [], [], [], [], [], [], [], [], [], [], [1087, 1089, 33, 57], [], [], [], [], [], [1047, 1049, 23, 57], [], [1067, 1069, 28, 57]], by decide +kernel⟩
theorem xh_20 : xhead xm_20 1070 = true := by decide +kernel
set_option maxRecDepth 100000 in
theorem xc_21 : ∃ ps, xchks xm_21.1 xm_21.2.1 xk_21 ps = true := ⟨[[], [], [904, 0], [], [], [905, 0], [], [], [906, 0], [], [], [], [], [], [], [], [], [], [], [], [1067, 1069, 28, 57], [], [904, 0]], by decide +kernel⟩
theorem xh_21 : xhead xm_21 1066 = true := by decide +kernel
set_option maxRecDepth 100000 in
theorem xc_22 : ∃ ps, xchks xm_22.1 xm_22.2.1 xk_22 ps = true := ⟨[[], [], [], [], [], [1063, 1065, 27, 57], [], [], [], [], [], [], [], [905, 0], [], [], [], [901, 0], [], [], [], [], [], [901, 0], [], [], [], [1047, 1049, 23, 57], [], [902, 0], [], [], [], [1031, 1033, 20, 57]], by decide +kernel⟩
theorem xh_22 : xhead xm_22 1062 = true := by decide +kernel
set_option maxRecDepth 100000 in
theorem xc_23 : ∃ ps, xchks xm_23.1 xm_23.2.1 xk_23 ps = true := ⟨[[], [907, 0], [], [909, 0], [], [], [895, 0], [], [908, 0], [], [907, 0]], by decide +kernel⟩
theorem xh_23 : xhead xm_23 1005 = true := by decide +kernel
set_option maxRecDepth 100000 in
theorem xc_24 : ∃ ps, xchks xm_24.1 xm_24.2.1 xk_24 ps = true := ⟨[[], [], [], [], [], [], [1002, 1004, 14, 57], [], [1010], [1011], [995, 996, 57], [], [], [], [], [910, 0], [], [], [1002, 1004, 14, 57], [], [], [], [], [], [907, 0], [], [], [907, 0]], by decide +kernel⟩
theorem xh_24 : xhead xm_24 1009 = true := by decide +kernel
set_option maxRecDepth 100000 in
theorem xc_25 : ∃ ps, xchks xm_25.1 xm_25.2.1 xk_25 ps = true := ⟨[[], [1002, 1004, 14, 57], [], [], [], [], [], [], [], [], [], [], [], [], [], [], [], [], [], [], [], [], [], [], [], [], [], [], [], [], [], [], [], [], [907, 0], [], [], [907, 0], [], [], [1006, 1008, 15, 57], [], [], [1002, 1004, 14, 57], [], [], [], [], [], [], [907, 0], [], [], [907, 0]], by decide +kernel⟩
theorem xh_25 : xhead xm_25 1001 = true := by decide +kernel
set_option maxRecDepth 100000 in
theorem xc_26 : ∃ ps, xchks xm_26.1 xm_26.2.1 xk_26 ps = true := ⟨[[], [888, 0], [], [], [], [], [], [], [], [888, 0], [], [], [], [888, 0], [], [], [], [], [], [], [], [888, 0], [], [], [], [888, 0], [], [], [], [], [], [], [], [], [], [888, 0]], by decide +kernel⟩
theorem xh_26 : xhead xm_26 1054 = true := by decide +kernel
set_option maxRecDepth 100000 in
theorem xc_27 : ∃ ps, xchks xm_27.1 xm_27.2.1 xk_27 ps = true := ⟨[[], [], [888, 0], [], [], [], [], [1031, 1033, 20, 57], [], [], [888, 0], [], [], [], [], [1031, 1033, 20, 57], [], [], [888, 0], [], [], [], [], [1031, 1033, 20, 57], [], [], [888, 0], [], [], [], [], [1031, 1033, 20, 57]], by decide +kernel⟩
theorem xh_27 : xhead xm_27 1030 = true := by decide +kernel
set_option maxRecDepth 100000 in
theorem xc_28 : ∃ ps, xchks xm_28.1 xm_28.2.1 xk_28 ps = true := ⟨[[], [910, 0], [], [], [], [], [910, 0], [], [], [], [], [], [], [], [888, 0], [], [], [], [], [], [], [], [], [], [888, 0], [], [], [], [], [], [], [], [], [1019, 1021, 17, 57], [], [], [910, 0], [], [], [], [], [], [888, 0], [], [], [], [], [], [], [], [], [], [], [910, 0], [], [], [1027, 1029, 19, 57], [], [888, 0], [], [], [], [], [], [], [], [], [], [], [1035, 1037, 21, 57], [], [], [1039, 1040, 57], [], [], [], [], [1043, 1045, 22, 57], [], [], [], [], [], [], [], [], [], [1047, 1049, 23, 57], [], [], [], [], [1031, 1033, 20, 57], [], [], [], [], [], [], [], [], [1051, 1053, 24, 57], [], [], [], [], [], [], [], [1055, 1057, 25, 57], [], [], [1039, 1040, 57], [], [], [], [910, 0], [], [], [], [910, 0], [], [], [1019, 1021, 17, 57], [], [], [], [], [], [910, 0], [], [], [], [910, 0], [], [], [1059, 1061, 26, 57]], by decide +kernel⟩
theorem xh_28 : xhead xm_28 1018 = true := by decide +kernel
set_option maxRecDepth 100000 in
theorem xc_29 : ∃ ps, xchks xm_29.1 xm_29.2.1 xk_29 ps = true := ⟨[[], [991, 992, 57], [], [], [], [], [892, 0], [], [], [], [], [], [], [892, 0], [], [], [], [], [], [], [], [893, 0]], by decide +kernel⟩
theorem xh_29 : xhead xm_29 990 = true := by decide +kernel
set_option maxRecDepth 100000 in
theorem xc_30 : ∃ ps, xchks xm_30.1 xm_30.2.1 xk_30 ps = true := ⟨[[], [], [], [987, 989, 12, 57], [], [], [], [], [], [], [], [], [], [908, 0], [], [], [894, 0], [], [], [909, 0], [], [], [907, 0], [], [], [], [998, 1000, 13, 57], [], [], [], [907, 0], [], [], [], [], [907, 0], [], [909, 0], [], [], [888, 0], [], [890, 0], [1012, 1013, 57], [], [], [907, 0], [], [907, 0], [], [909, 0], [], [], [907, 0], [], [], [1002, 1004, 14, 57], [], [], [998, 1000, 13, 57], [], [], [], [1015, 1017, 16, 57], [], [], [890, 0], [], [888, 0], [1012, 1013, 57]], by decide +kernel⟩
theorem xh_30 : xhead xm_30 986 = true := by decide +kernel
set_option maxRecDepth 100000 in
theorem xc_31 : ∃ ps, xchks xm_31.1 xm_31.2.1 xk_31 ps = true := ⟨[[], [], [1035, 1037, 21, 57], [], [], [], [], [1042], [995, 996, 57], [], [], [], [], [1047, 1049, 23, 57]], by decide +kernel⟩
theorem xh_31 : xhead xm_31 1097 = true := by decide +kernel
set_option maxRecDepth 100000 in
theorem xc_32 : ∃ ps, xchks xm_32.1 xm_32.2.1 xk_32 ps = true := ⟨[[], [], [1055, 1057, 25, 57], [], [], [], [], [], [995, 996, 57], [], [], [], [], [], [], [], [1071, 1073, 29, 57], [], [], [], [1075, 1077, 30, 57]], by decide +kernel⟩
theorem xh_32 : xhead xm_32 1101 = true := by decide +kernel
set_option maxRecDepth 100000 in
theorem xc_33 : ∃ ps, xchks xm_33.1 xm_33.2.1 xk_33 ps = true := ⟨[[], [991, 992, 57], [], [], [], [], [892, 0], [], [], [], [], [], [], [892, 0]], by decide +kernel⟩
theorem xh_33 : xhead xm_33 1109 = true := by decide +kernel
set_option maxRecDepth 100000 in
theorem xc_34 : ∃ ps, xchks xm_34.1 xm_34.2.1 xk_34 ps = true := ⟨[[], [], [1106, 1108, 34, 57], [], [], [], [], [], [], [], [896, 0], [], [], [], [897, 0], [], [], [1051, 1053, 24, 57], [], [], [888, 0]], by decide +kernel⟩
theorem xh_34 : xhead xm_34 1105 = true := by decide +kernel
set_option maxRecDepth 100000 in
theorem xc_35 : ∃ ps, xchks xm_35.1 xm_35.2.1 xk_35 ps = true := ⟨[[], [], [1035, 1037, 21, 57], [], [], [1039, 1040, 57], [], [], [], [], [], [995, 996, 57], [], [], [], [], [], [], [1047, 1049, 23, 57], [], [], [], [], [], [], [], [], [], [], [], [], [], [], [], [], [], [], [], [], [], [], [1031, 1033, 20, 57]], by decide +kernel⟩
theorem xh_35 : xhead xm_35 1113 = true := by decide +kernel
set_option maxRecDepth 100000 in
theorem xc_36 : ∃ ps, xchks xm_36.1 xm_36.2.1 xk_36 ps = true := ⟨[[], [], [1055, 1057, 25, 57], [], [], [1039, 1040, 57], [], [], [], [], [1019, 1021, 17, 57]], by decide +kernel⟩
theorem xh_36 : xhead xm_36 1121 = true := by decide +kernel
set_option maxRecDepth 100000 in
theorem xc_37 : ∃ ps, xchks xm_37.1 xm_37.2.1 xk_37 ps = true := ⟨[[], [], [], [], [], [1118, 1120, 35, 57], [], [], [], [], [1122], [995, 996, 57], [], [], [], [], [], [], [], [], [1063, 1065, 27, 57], [], [], [], [], [904, 0], [], [], [], [], [], [905, 0], [], [], [906, 0]], by decide +kernel⟩
theorem xh_37 : xhead xm_37 1117 = true := by decide +kernel
set_option maxRecDepth 100000 in
theorem xc_38 : ∃ ps, xchks xm_38.1 xm_38.2.1 xk_38 ps = true := ⟨[[], [], [], [], [], [1118, 1120, 35, 57], [], [], [], [], [], [], [], [], [], [], [1063, 1065, 27, 57], [], [], [], [905, 0], [], [], [901, 0]], by decide +kernel⟩
theorem xh_38 : xhead xm_38 1126 = true := by decide +kernel
set_option maxRecDepth 100000 in
theorem xc_39 : ∃ ps, xchks xm_39.1 xm_39.2.1 xk_39 ps = true := ⟨[[], [], [], [], [], [1118, 1120, 35, 57], [], [], [], [], [], [], [], [], [1059, 1061, 26, 57], [], [], [906, 0]], by decide +kernel⟩
theorem xh_39 : xhead xm_39 1130 = true := by decide +kernel
set_option maxRecDepth 100000 in
theorem xc_40 : ∃ ps, xchks xm_40.1 xm_40.2.1 xk_40 ps = true := ⟨[[], [], [], [], [], [], [911, 0], [], [], [], [], [], [], [], [], [], [], [], [], [], [], [], [], [], [], [], [888, 0], [], [], [], [], [], [], [1043, 1045, 22, 57], [], [], [], [], [], [1047, 1049, 23, 57], [], [], [], [], [1047, 1049, 23, 57], [], [], [], [], [1047, 1049, 23, 57], [], [], [911, 0], [], [], [], [], [], [911, 0], [], [], [], [], [911, 0], [], [], [911, 0], [], [], [], [], [], [], [911, 0], [], [], [], [], [], [911, 0], [], [], [], [], [911, 0], [], [], [911, 0], [], [], [], [], [], [], [], [], [], [], [911, 0], [], [], [], [], [], [911, 0]], by decide +kernel⟩
theorem xh_40 : xhead xm_40 1142 = true := by decide +kernel
set_option maxRecDepth 100000 in
theorem xc_41 : ∃ ps, xchks xm_41.1 xm_41.2.1 xk_41 ps = true := ⟨[[], [1039, 1040, 57], [], [], [], [], [1019, 1021, 17, 57]], by decide +kernel⟩
theorem xh_41 : xhead xm_41 1138 = true := by decide +kernel
set_option maxRecDepth 100000 in
theorem xc_42 : ∃ ps, xchks xm_42.1 xm_42.2.1 xk_42 ps = true := ⟨[[], [], [], [], [1135, 1137, 36, 57], [], [], [], [], [], [1139, 1141, 37, 57]], by decide +kernel⟩
theorem xh_42 : xhead xm_42 1134 = true := by decide +kernel
set_option maxRecDepth 100000 in
theorem xc_43 : ∃ ps, xchks xm_43.1 xm_43.2.1 xk_43 ps = true := ⟨[[], [], [], [], [], [], [], [], [], [], [], [1043, 1045, 22, 57], [], [], [], [], [], [1047, 1049, 23, 57], [], [], [], [], [], [], [], [1047, 1049, 23, 57]], by decide +kernel⟩
theorem xh_43 : xhead xm_43 1154 = true := by decide +kernel
set_option maxRecDepth 100000 in
theorem xc_44 : ∃ ps, xchks xm_44.1 xm_44.2.1 xk_44 ps = true := ⟨[[], [], [], [], [912, 0], [], [], [], [], [], [888, 0], [], [], [], [], [], [], [], [], [], [], [], [], [], [], [], [], [], [], [], [], [], [], [1151, 1153, 39, 57], [], [], [], [], [], [], [], [], [], [], [], [912, 0]], by decide +kernel⟩
theorem xh_44 : xhead xm_44 1150 = true := by decide +kernel
set_option maxRecDepth 100000 in
theorem xc_45 : ∃ ps, xchks xm_45.1 xm_45.2.1 xk_45 ps = true := ⟨[[], [], [], [], [1135, 1137, 36, 57], [], [], [], [], [], [995, 996, 57], [], [], [], [], [], [], [], [], [888, 0], [], [], [1147, 1149, 38, 57], [], [], [], [], [], [], [912, 0]], by decide +kernel⟩
theorem xh_45 : xhead xm_45 1146 = true := by decide +kernel
set_option maxRecDepth 100000 in
theorem xc_46 : ∃ ps, xchks xm_46.1 xm_46.2.1 xk_46 ps = true := ⟨[[], [], [], [], [], [888, 0], [], [], [], [], [], [], [], [], [], [], [], [], [], [], [], [888, 0], [], [], [1151, 1153, 39, 57], [], [], [], [], [], [1091, 1092, 57]], by decide +kernel⟩
theorem xh_46 : xhead xm_46 1162 = true := by decide +kernel
set_option maxRecDepth 100000 in
theorem xc_47 : ∃ ps, xchks xm_47.1 xm_47.2.1 xk_47 ps = true := ⟨[[], [1039, 1040, 57], [], [], [], [1023, 1025, 18, 57], [], [], [], [], [], [], [888, 0], [], [], [], [], [], [], [995, 996, 57], [], [], [], [], [], [], [], [], [], [], [], [], [995, 996, 57], [], [], [], [], [], [], [], [], [], [], [], [], [], [], [], [], [], [1091, 1092, 57], [], [1091, 1092, 57], [], [], [], [], [], [1159, 1161, 40, 57], [], [], [], [], [], [], [], [], [1091, 1092, 57]], by decide +kernel⟩
theorem xh_47 : xhead xm_47 1158 = true := by decide +kernel
set_option maxRecDepth 100000 in
theorem xc_48 : ∃ ps, xchks xm_48.1 xm_48.2.1 xk_48 ps = true := ⟨[[], [], [], [], [1135, 1137, 36, 57], [], [], [], [], [], [995, 996, 57], [], [], [], [], [], [], [], [], [], [], [], [888, 0], [], [], [], [], [], [], [1043, 1045, 22, 57], [], [], [], [], [], [], [], [], [1047, 1049, 23, 57], [], [], [], [], [1031, 1033, 20, 57], [], [], [], [], [], [888, 0], [], [], [1147, 1149, 38, 57], [], [], [], [], [], [], [], [1047, 1049, 23, 57], [], [], [], [], [], [], [1031, 1033, 20, 57]], by decide +kernel⟩
theorem xh_48 : xhead xm_48 1166 = true := by decide +kernel
set_option maxRecDepth 100000 in
theorem xc_49 : ∃ ps, xchks xm_49.1 xm_49.2.1 xk_49 ps = true := ⟨[[], [], [1035, 1037, 21, 57], [], [], [], [], [], [1135, 1137, 36, 57], [], [], [], [], [], [], [], [1139, 1141, 37, 57], [], [], [], [], [], [], [1043, 1045, 22, 57], [], [], [], [], [], [], [], [], [], [1047, 1049, 23, 57], [], [], [], [], [1031, 1033, 20, 57], [], [], [], [], [1139, 1141, 37, 57], [], [], [], [], [], [], [], [1047, 1049, 23, 57], [], [], [], [], [], [], [1031, 1033, 20, 57]], by decide +kernel⟩
theorem xh_49 : xhead xm_49 1170 = true := by decide +kernel
set_option maxRecDepth 100000 in
theorem xc_50 : ∃ ps, xchks xm_50.1 xm_50.2.1 xk_50 ps = true := ⟨[[], [], [], [], [1135, 1137, 36, 57], [], [], [], [], [], [995, 996, 57], [], [], [], [], [], [], [], [], [], [], [], [888, 0], [], [], [], [], [], [], [], [], [], [888, 0], [], [], [], [], [], [], [], [1027, 1029, 19, 57], [], [], [], [], [], [888, 0], [], [], [], [], [1147, 1149, 38, 57]], by decide +kernel⟩
theorem xh_50 : xhead xm_50 1174 = true := by decide +kernel
set_option maxRecDepth 100000 in
theorem xc_51 : ∃ ps, xchks xm_51.1 xm_51.2.1 xk_51 ps = true := ⟨[[], [], [], [], [888, 0], [], [], [], [], [], [], [1083, 1085, 32, 57], [], [], [], [], [], [], [], [], [], [], [], [], [], [1043, 1045, 22, 57], [], [], [], [], [], [], [1047, 1049, 23, 57], [], [], [], [], [], [], [913, 0], [], [], [], [913, 0], [], [], [], [913, 0], [], [], [], [], [], [], [], [], [], [], [], [], [], [], [], [], [], [], [], [], [], [1179, 1181, 41, 57]], by decide +kernel⟩
theorem xh_51 : xhead xm_51 1182 = true := by decide +kernel
set_option maxRecDepth 100000 in
theorem xc_52 : ∃ ps, xchks xm_52.1 xm_52.2.1 xk_52 ps = true := ⟨[[], [1039, 1040, 57], [], [], [], [1023, 1025, 18, 57], [], [], [], [], [], [913, 0], [], [], [], [], [], [], [], [], [], [1179, 1181, 41, 57], [], [913, 0]], by decide +kernel⟩
theorem xh_52 : xhead xm_52 1178 = true := by decide +kernel
set_option maxRecDepth 100000 in
theorem xc_53 : ∃ ps, xchks xm_53.1 xm_53.2.1 xk_53 ps = true := ⟨[[], [], [], [], [], [1118, 1120, 35, 57], [], [], [], [], [1187, 1189, 42, 57], [], [], [], [], [], [], [], [], [], [], [1059, 1061, 26, 57], [], [], [], [], [1191, 1193, 43, 57]], by decide +kernel⟩
theorem xh_53 : xhead xm_53 1186 = true := by decide +kernel
set_option maxRecDepth 100000 in
theorem xc_54 : ∃ ps, xchks xm_54.1 xm_54.2.1 xk_54 ps = true := ⟨[[], [], [], [987, 989, 12, 57], [], [], [], [], [], [], [894, 0], [], [], [], [], [], [], [894, 0], [], [], [], [], [], [], [], [], [], [], [894, 0], [], [], [], [], [], [], [], [1207, 1209, 46, 57], [], [], [], [], [], [1207, 1209, 46, 57], [], [], [], [], [], [1207, 1209, 46, 57], [], [], [], [], [], [1207, 1209, 46, 57], [1118, 1120, 35, 57]], by decide +kernel⟩
theorem xh_54 : xhead xm_54 1206 = true := by decide +kernel
set_option maxRecDepth 100000 in
theorem xc_55 : ∃ ps, xchks xm_55.1 xm_55.2.1 xk_55 ps = true := ⟨[[], [895, 0]], by decide +kernel⟩
theorem xh_55 : xhead xm_55 1210 = true := by decide +kernel
set_option maxRecDepth 100000 in
theorem xc_56 : ∃ ps, xchks xm_56.1 xm_56.2.1 xk_56 ps = true := ⟨[[], [], [], [], [], [], [1207, 1209, 46, 57], [], [], [], [], [], [], [], [1207, 1209, 46, 57], [], [], [], [], [], [], [], [1207, 1209, 46, 57], [], [], [], [], [], [], [], [1207, 1209, 46, 57], [1059, 1061, 26, 57]], by decide +kernel⟩
theorem xh_56 : xhead xm_56 1214 = true := by decide +kernel
set_option maxRecDepth 100000 in
theorem xc_57 : ∃ ps, xchks xm_57.1 xm_57.2.1 xk_57 ps = true := ⟨[[], [991, 992, 57], [], [], [], [], [], [995, 996, 57], [], [], [], [], [], [1203, 1205, 45, 57]], by decide +kernel⟩
theorem xh_57 : xhead xm_57 1202 = true := by decide +kernel
set_option maxRecDepth 100000 in
theorem xc_58 : ∃ ps, xchks xm_58.1 xm_58.2.1 xk_58 ps = true := ⟨[[], [], [], [1199, 1201, 44, 57], [], [], [], [], [], [], [1187, 1189, 42, 57], [], [], [], [], [], [], [], [], [], [], [894, 0], [], [], [], [], [], [], [1211, 1213, 47, 57], [], [], [], [], [], [906, 0], [], [], [], [], [], [1191, 1193, 43, 57]], by decide +kernel⟩
theorem xh_58 : xhead xm_58 1198 = true := by decide +kernel
set_option maxRecDepth 100000 in
theorem xc_59 : ∃ ps, xchks xm_59.1 xm_59.2.1 xk_59 ps = true := ⟨[[], [1187, 1189, 42, 57], [], [], [], [], [], [], [], [], [], [], [894, 0], [], [], [], [], [], [], [], [], [914, 0], [], [], [1211, 1213, 47, 57], [], [], [], [906, 0], [], [], [], [], [], [1191, 1193, 43, 57], [], [], [], [], [], [915, 0], [], [], [915, 0], [], [916, 0], [], [], [], [916, 0], [], [], [], [916, 0]], by decide +kernel⟩
theorem xh_59 : xhead xm_59 1226 = true := by decide +kernel
set_option maxRecDepth 100000 in
theorem xc_60 : ∃ ps, xchks xm_60.1 xm_60.2.1 xk_60 ps = true := ⟨[[], [], [], [], [894, 0], [], [], [], [], [], [1223, 1225, 49, 57], [], [], [], [], [], [], [], [894, 0], [], [], [], [], [], [], [], [], [], [], [], [], [914, 0], [], [], [], [], [], [], [], [], [], [], [], [], [], [1219, 1221, 48, 57]], by decide +kernel⟩
theorem xh_60 : xhead xm_60 1222 = true := by decide +kernel
set_option maxRecDepth 100000 in
theorem xc_61 : ∃ ps, xchks xm_61.1 xm_61.2.1 xk_61 ps = true := ⟨[[], [], [], [1199, 1201, 44, 57], [], [], [], [], [], [], [], [915, 0], [], [], [916, 0], [], [], [], [], [1219, 1221, 48, 57], [], [], [], [915, 0], [], [], [916, 0]], by decide +kernel⟩
theorem xh_61 : xhead xm_61 1218 = true := by decide +kernel
set_option maxRecDepth 100000 in
theorem xc_62 : ∃ ps, xchks xm_62.1 xm_62.2.1 xk_62 ps = true := ⟨[[], [], [917, 0], [1236], [], [], [], [917, 0], [], [917, 0], [1237], [], [1238]], by decide +kernel⟩
theorem xh_62 : xhead xm_62 1235 = true := by decide +kernel
set_option maxRecDepth 100000 in
theorem xc_63 : ∃ ps, xchks xm_63.1 xm_63.2.1 xk_63 ps = true := ⟨[[], [], [], [1231], [995, 996, 57], [], [], [], [], [888, 0], [], [], [], [], [], [], [1187, 1189, 42, 57], [], [], [917, 0], [], [], [], [], [], [], [], [], [], [888, 0], [], [], [1232, 1234, 50, 57], [], [], [], [1232, 1234, 50, 57], [], [], [], [888, 0], [], [], [1232, 1234, 50, 57], [], [], [], [888, 0], [], [], [1232, 1234, 50, 57], [], [], [], [], [], [], [], [], [], [], [1059, 1061, 26, 57], [], [], [], [], [], [], [], [], [], [1191, 1193, 43, 57]], by decide +kernel⟩
theorem xh_63 : xhead xm_63 1230 = true := by decide +kernel
set_option maxRecDepth 100000 in
theorem xc_64 : ∃ ps, xchks xm_64.1 xm_64.2.1 xk_64 ps = true := ⟨[[], [], [], [1207, 1209, 46, 57], [], [], [], [], [], [], [1207, 1209, 46, 57], [], [], [], [1035, 1037, 21, 57], [], [], [], [], [1039, 1040, 57], [], [], [], [], [1043, 1045, 22, 57], [], [], [], [], [], [], [], [], [], [], [], [1047, 1049, 23, 57], [], [], [], [], [1031, 1033, 20, 57]], by decide +kernel⟩
theorem xh_64 : xhead xm_64 1246 = true := by decide +kernel
set_option maxRecDepth 100000 in
theorem xc_65 : ∃ ps, xchks xm_65.1 xm_65.2.1 xk_65 ps = true := ⟨[[], [], [], [987, 989, 12, 57], [], [], [], [], [], [], [1187, 1189, 42, 57], [], [], [], [], [], [], [], [], [894, 0], [], [], [], [], [], [], [], [], [1243, 1245, 51, 57], [], [], [], [], [1191, 1193, 43, 57], [], [], [], [894, 0], [], [], [], [], [], [], [], [894, 0]], by decide +kernel⟩
theorem xh_65 : xhead xm_65 1242 = true := by decide +kernel
set_option maxRecDepth 100000 in
theorem xc_66 : ∃ ps, xchks xm_66.1 xm_66.2.1 xk_66 ps = true := ⟨[[], [888, 0], [], [889, 0], [1012, 1013, 57], [], [], [898, 0], [], [888, 0]], by decide +kernel⟩
theorem xh_66 : xhead xm_66 1250 = true := by decide +kernel
set_option maxRecDepth 100000 in
theorem xc_67 : ∃ ps, xchks xm_67.1 xm_67.2.1 xk_67 ps = true := ⟨[[], [898, 0], [], [], [], [], [889, 0], [], [888, 0], [1012, 1013, 57], [], [888, 0]], by decide +kernel⟩
theorem xh_67 : xhead xm_67 1254 = true := by decide +kernel
set_option maxRecDepth 100000 in
theorem xc_68 : ∃ ps, xchks xm_68.1 xm_68.2.1 xk_68 ps = true := ⟨[[], [], [], [], [], [888, 0], [], [], [], [], [], [], [], [888, 0], [], [], [], [], [], [], [], [1047, 1049, 23, 57], [1091, 1092, 57], [], [], [], [], [], [], [], [], [], [], [888, 0], [], [], [], [], [], [], [], [1047, 1049, 23, 57]], by decide +kernel⟩
theorem xh_68 : xhead xm_68 1258 = true := by decide +kernel
set_option maxRecDepth 100000 in
theorem xc_69 : ∃ ps, xchks xm_69.1 xm_69.2.1 xk_69 ps = true := ⟨[], by decide +kernel⟩
theorem xh_69 : xhead xm_69 1286 = true := by decide +kernel
set_option maxRecDepth 100000 in
theorem xc_70 : ∃ ps, xchks xm_70.1 xm_70.2.1 xk_70 ps = true := ⟨[[], [991, 992, 57], [], [], [], [], [], [995, 996, 57], [], [], [], [], [], [], [], [994], [995, 996, 57], [], [], [], [], [1263], [995, 996, 57], [], [], [], [], [892, 0], [], [], [], [], [896, 0], [], [], [], [], [897, 0]], by decide +kernel⟩
theorem xh_70 : xhead xm_70 1262 = true := by decide +kernel
set_option maxRecDepth 100000 in
theorem xc_71 : ∃ ps, xchks xm_71.1 xm_71.2.1 xk_71 ps = true := ⟨[[], [991, 992, 57], [], [], [], [], [1122], [995, 996, 57], [], [], [], [], [], [], [], [], [], [], [], [892, 0], [], [], [], [], [893, 0], [], [], [], [], [894, 0], [], [], [], [], [], [], [], [], [], [895, 0]], by decide +kernel⟩
theorem xh_71 : xhead xm_71 1267 = true := by decide +kernel
set_option maxRecDepth 100000 in
theorem xc_72 : ∃ ps, xchks xm_72.1 xm_72.2.1 xk_72 ps = true := ⟨[[], [], [], [987, 989, 12, 57], [], [], [], [], [], [], [], [], [], [894, 0], [], [], [], [], [], [995, 996, 57], [], [], [], [], [895, 0], [], [], [], [], [], [], [893, 0], [], [], [], [], [], [], [], [893, 0]], by decide +kernel⟩
theorem xh_72 : xhead xm_72 1271 = true := by decide +kernel
set_option maxRecDepth 100000 in
theorem xc_73 : ∃ ps, xchks xm_73.1 xm_73.2.1 xk_73 ps = true := ⟨[[], [], [991, 992, 57], [], [], [], [], [892, 0], [], [], [], [], [], [], [], [], [894, 0], [], [], [], [], [], [995, 996, 57], [], [], [], [], [899, 0], [], [899, 0], [], [], [895, 0]], by decide +kernel⟩
theorem xh_73 : xhead xm_73 1275 = true := by decide +kernel
set_option maxRecDepth 100000 in
theorem xc_74 : ∃ ps, xchks xm_74.1 xm_74.2.1 xk_74 ps = true := ⟨[[], [991, 992, 57], [], [], [991, 992, 57], [], [], [], [], [892, 0], [], [], [], [], [892, 0], [], [], [], [], [], [], [892, 0], [], [], [], [], [], [892, 0], [], [], [], [], [], [893, 0], [], [], [], [893, 0], [], [], [], [], [], [], [], [], [], [], [], [], [], [894, 0], [], [], [], [], [], [], [], [894, 0], [], [], [], [], [], [], [], [], [], [], [], [], [], [], [], [], [], [], [], [], [], [], [], [], [895, 0], [], [], [], [], [], [], [], [], [895, 0]], by decide +kernel⟩
theorem xh_74 : xhead xm_74 1279 = true := by decide +kernel
set_option maxRecDepth 100000 in
theorem xc_75 : ∃ ps, xchks xm_75.1 xm_75.2.1 xk_75 ps = true := ⟨[[], [], [1106, 1108, 34, 57], [], [], [], [], [], [], [896, 0], [], [], [], [897, 0], [], [], [1284, 1285, 57]], by decide +kernel⟩
theorem xh_75 : xhead xm_75 1283 = true := by decide +kernel
set_option maxRecDepth 100000 in
theorem xc_76 : ∃ ps, xchks xm_76.1 xm_76.2.1 xk_76 ps = true := ⟨[[], [], [1106, 1108, 34, 57], [], [], [], [], [], [], [896, 0], [], [], [], [], [897, 0], [], [], [], [], [], [], [], [], [], [], [], [], [], [], [], [], [], [], [], [], [], [], [], [1284, 1285, 57]], by decide +kernel⟩
theorem xh_76 : xhead xm_76 1290 = true := by decide +kernel
set_option maxRecDepth 100000 in
theorem xc_77 : ∃ ps, xchks xm_77.1 xm_77.2.1 xk_77 ps = true := ⟨[[], [], [], [], [489], [], [], [], [], [490], [], [], [], [], [490], [], [], [], [], [], [], [], [], [491]], by decide +kernel⟩
theorem xh_77 : xhead xm_77 488 = true := by decide +kernel
set_option maxRecDepth 100000 in
theorem xc_78 : ∃ ps, xchks xm_78.1 xm_78.2.1 xk_78 ps = true := ⟨[[], [], [], [], [673], [], [], [], [], [674], [], [], [], [], [674], [], [], [], [], [], [], [], [], [675]], by decide +kernel⟩
theorem xh_78 : xhead xm_78 672 = true := by decide +kernel
set_option maxRecDepth 100000 in
theorem xc_79 : ∃ ps, xchks xm_79.1 xm_79.2.1 xk_79 ps = true := ⟨[[], [], [], [], [], [], [], [], [], [], [], [], [], [], [], [], [], [], [], [], [], [], [], [], [], [], [], [], [], [], [], [220, 221, 222, 53], [], [], [], [], [], [], [983, 984, 985, 57], [], [], [], [], [], [], [], [], [], [], [], [], [], [], [516, 517, 518, 53], [], [], [], [], [], [], [], [], [], [], [], [1094, 1095, 1096, 57], [], [], [], [], [], [], [], [], [], [], [], [], [], [], [522, 523, 524, 53], [], [], [], [], [], [], [], [], [], [], [], [1098, 1099, 1100, 57], [], [], [], [], [], [], [], [], [], [526, 527, 528, 53], [], [], [], [], [], [], [1102, 1103, 1104, 57], [], [], [], [], [], [], [], [], [], [], [], [], [], [], [], [], [], [], [], [534, 535, 536, 53], [], [], [], [], [], [], [], [], [], [], [], [], [], [], [], [], [1110, 1111, 1112, 57], [], [], [], [], [], [], [], [], [], [], [], [], [], [], [], [], [], [], [], [], [], [], [], [], [], [], [], [], [], [540, 541, 542, 53], [], [], [], [], [], [], [], [], [], [], [], [], [], [], [], [], [], [], [], [], [], [], [], [], [], [], [1114, 1115, 1116, 57], [], [], [], [], [], [], [], [], [], [], [], [], [], [], [], [], [], [], [], [], [], [], [], [], [], [], [], [], [], [544, 545, 546, 53], [], [], [], [], [], [], [], [], [], [], [], [], [], [], [], [], [], [], [], [], [], [], [], [], [], [], [1123, 1124, 1125, 57], [], [], [], [], [], [], [], [], [], [], [], [], [], [], [], [], [], [], [], [], [], [], [], [], [548, 549, 550, 53], [], [], [], [], [], [], [], [], [], [], [], [], [], [], [], [], [], [], [], [], [], [1127, 1128, 1129, 57], [], [], [], [], [], [], [], [], [], [], [], [], [], [], [], [], [], [], [], [552, 553, 554, 53], [], [], [], [], [], [], [], [], [], [], [], [], [], [], [], [], [1131, 1132, 1133, 57], [], [], [], [], [], [], [], [], [], [], [], [], [], [], [], [], [], [], [], [], [], [], [], [], [568, 569, 570, 53], [], [], [], [], [], [], [], [], [], [], [], [], [], [], [], [], [], [], [], [], [], [1143, 1144, 1145, 57], [], [], [], [], [], [], [], [], [], [], [], [], [], [], [], [], [], [], [], [], [], [], [], [], [585, 586, 587, 53], [], [], [], [], [], [], [], [], [], [], [], [], [], [], [], [], [], [], [], [], [], [1155, 1156, 1157, 57], [], [], [], [], [], [], [], [], [], [], [], [], [], [], [], [], [], [], [], [], [], [], [], [], [601, 602, 603, 53], [], [], [], [], [], [], [], [], [], [], [], [], [], [], [], [], [], [], [], [], [], [1163, 1164, 1165, 57], [], [], [], [], [], [], [], [], [], [], [], [], [], [], [], [], [], [], [], [], [], [], [], [], [605, 606, 607, 53], [], [], [], [], [], [], [], [], [], [], [], [], [], [], [], [], [], [], [], [], [], [1167, 1168, 1169, 57], [], [], [], [], [], [], [], [], [], [], [], [], [], [], [], [], [], [], [], [], [], [], [], [], [609, 610, 611, 53], [], [], [], [], [], [], [], [], [], [], [], [], [], [], [], [], [], [], [], [], [], [1171, 1172, 1173, 57], [], [], [], [], [], [], [], [], [], [], [], [], [], [], [613, 614, 615, 53], [], [], [], [], [], [], [], [], [], [], [], [1175, 1176, 1177, 57], [], [], [], [], [], [], [], [], [], [], [], [], [], [], [], [], [], [], [], [], [], [], [], [], [618, 619, 620, 53], [], [], [], [], [], [], [], [], [], [], [], [], [], [], [], [], [], [], [], [], [], [1183, 1184, 1185, 57], [], [], [], [], [], [], [], [], [], [], [], [], [], [], [622, 623, 624, 53], [], [], [], [], [], [], [], [], [], [], [], [1195, 1196, 1197, 57], [], [], [], [], [], [], [], [], [], [], [], [], [], [], [634, 635, 636, 53], [], [], [], [], [], [], [], [], [], [], [], [1215, 1216, 1217, 57], [], [], [], [], [], [], [], [], [], [], [], [], [], [], [642, 643, 644, 53], [], [], [], [], [], [], [], [], [], [], [], [1227, 1228, 1229, 57], [], [], [], [], [], [], [], [], [], [654, 655, 656, 53], [], [], [], [], [], [], [1239, 1240, 1241, 57], [], [], [], [], [658, 659, 660, 53], [], [1247, 1248, 1249, 57], [], [], [], [], [662, 663, 664, 53], [], [1251, 1252, 1253, 57], [], [], [], [], [], [], [], [], [], [666, 667, 668, 53], [], [], [], [], [], [], [1255, 1256, 1257, 57], [], [], [], [], [], [], [], [], [], [], [], [], [], [], [], [], [], [], [], [], [], [], [], [], [680, 681, 682, 53], [], [], [], [], [], [], [], [], [], [], [], [], [], [], [], [], [], [], [], [], [], [1259, 1260, 1261, 57], [], [], [], [], [], [], [], [], [], [], [], [], [], [], [], [], [], [], [], [684, 685, 686, 53], [], [], [], [], [], [], [], [], [], [], [], [], [], [], [], [], [1264, 1265, 1266, 57], [], [], [], [], [], [], [], [], [], [], [], [], [], [], [], [], [], [], [], [692, 693, 694, 53], [], [], [], [], [], [], [], [], [], [], [], [], [], [], [], [], [1268, 1269, 1270, 57], [], [], [], [], [], [], [], [], [], [], [], [], [], [], [], [], [], [], [], [], [], [], [], [], [], [], [], [], [1272, 1273, 1274, 57], [], [], [979, 980, 981, 57], [], [], [], [], [], [], [], [], [], [], [], [], [], [], [], [], [], [], [], [], [], [], [], [], [], [], [], [], [], [], [], [], [], [], [], [], [], [], [], [], [], [700, 701, 702, 53], [], [], [], [], [], [], [], [], [], [], [], [], [], [], [], [], [], [], [], [], [], [], [], [], [], [], [1276, 1277, 1278, 57], [], [], [], [], [], [], [], [], [], [709, 710, 711, 53], [], [], [], [], [], [], [1280, 1281, 1282, 57], [], [], [], [], [], [], [], [], [], [], [], [], [], [], [], [], [1287, 1288, 1289, 57]], by decide +kernel⟩
set_option maxRecDepth 100000 in
theorem xc_80 : ∃ ps, xchks xm_80.1 xm_80.2.1 xk_80 ps = true := ⟨[[], [299, 81, 82], [], [], [300, 0, 0], [], [], [302, 0, 0]], by decide +kernel⟩
theorem xh_80 : xhead xm_80 298 = true := by decide +kernel
set_option maxRecDepth 100000 in
theorem xc_81 : ∃ ps, xchks xm_81.1 xm_81.2.1 xk_81 ps = true := ⟨[], by decide +kernel⟩
theorem xh_81 : xhead xm_81 436 = true := by decide +kernel
set_option maxRecDepth 100000 in
theorem xc_82 : ∃ ps, xchks xm_82.1 xm_82.2.1 xk_82 ps = true := ⟨[], by decide +kernel⟩
theorem xh_82 : xhead xm_82 462 = true := by decide +kernel
set_option maxRecDepth 100000 in
theorem xc_83 : ∃ ps, xchks xm_83.1 xm_83.2.1 xk_83 ps = true := ⟨[], by decide +kernel⟩
theorem xh_83 : xhead xm_83 511 = true := by decide +kernel
set_option maxRecDepth 100000 in
theorem xc_84 : ∃ ps, xchks xm_84.1 xm_84.2.1 xk_84 ps = true := ⟨[], by decide +kernel⟩
theorem xh_84 : xhead xm_84 493 = true := by decide +kernel
set_option maxRecDepth 100000 in
theorem xc_85 : ∃ ps, xchks xm_85.1 xm_85.2.1 xk_85 ps = true := ⟨[], by decide +kernel⟩
theorem xh_85 : xhead xm_85 419 = true := by decide +kernel
set_option maxRecDepth 100000 in
theorem xc_86 : ∃ ps, xchks xm_86.1 xm_86.2.1 xk_86 ps = true := ⟨[], by decide +kernel⟩
theorem xh_86 : xhead xm_86 742 = true := by decide +kernel
set_option maxRecDepth 100000 in
theorem xc_87 : ∃ ps, xchks xm_87.1 xm_87.2.1 xk_87 ps = true := ⟨[[], [], [], [353, 297, 59]], by decide +kernel⟩
theorem xh_87 : xhead xm_87 352 = true := by decide +kernel
set_option maxRecDepth 100000 in
theorem xc_88 : ∃ ps, xchks xm_88.1 xm_88.2.1 xk_88 ps = true := ⟨[[], [], [305, 306, 0], [], [], [], [], [], [455, 451, 356, 449, 59, 0]], by decide +kernel⟩
theorem xh_88 : xhead xm_88 454 = true := by decide +kernel
set_option maxRecDepth 100000 in
theorem xc_89 : ∃ ps, xchks xm_89.1 xm_89.2.1 xk_89 ps = true := ⟨[[], [], [305, 306, 0]], by decide +kernel⟩
theorem xh_89 : xhead xm_89 504 = true := by decide +kernel
set_option maxRecDepth 100000 in
theorem xc_90 : ∃ ps, xchks xm_90.1 xm_90.2.1 xk_90 ps = true := ⟨[[], [], [720, 716, 356, 714, 59, 0]], by decide +kernel⟩
theorem xh_90 : xhead xm_90 719 = true := by decide +kernel
set_option maxRecDepth 100000 in
theorem xc_91 : ∃ ps, xchks xm_91.1 xm_91.2.1 xk_91 ps = true := ⟨[[], [], [91, 0], [91, 0], [], [], [94, 0], [94, 0], [], [], [97, 0], [97, 0], [], [], [99, 0], [99, 0], [], [102, 0], [], [], [102, 0], [], [], [249, 251, 250, 58], [], [104, 0], [], [], [104, 0], [], [], [249, 251, 250, 58], [], [106, 0], [], [], [106, 0], [], [], [249, 251, 250, 58], [], [], [], [], [], [], [109, 0], [], [], [109, 0]], by decide +kernel⟩
theorem xh_91 : xhead xm_91 248 = true := by decide +kernel
set_option maxRecDepth 100000 in
theorem xc_92 : ∃ ps, xchks xm_92.1 xm_92.2.1 xk_92 ps = true := ⟨[[], [], [], [], [91, 0]], by decide +kernel⟩
theorem xh_92 : xhead xm_92 271 = true := by decide +kernel
set_option maxRecDepth 100000 in
theorem xc_93 : ∃ ps, xchks xm_93.1 xm_93.2.1 xk_93 ps = true := ⟨[[], [], [268, 269, 270, 54], [], [], [], [268, 269, 270, 54]], by decide +kernel⟩
theorem xh_93 : xhead xm_93 267 = true := by decide +kernel
set_option maxRecDepth 100000 in
theorem xc_94 : ∃ ps, xchks xm_94.1 xm_94.2.1 xk_94 ps = true := ⟨[[], [], [], [], [94, 0]], by decide +kernel⟩
theorem xh_94 : xhead xm_94 279 = true := by decide +kernel
set_option maxRecDepth 100000 in
theorem xc_95 : ∃ ps, xchks xm_95.1 xm_95.2.1 xk_95 ps = true := ⟨[[], [], [], [], [97, 0], [], [], [], [], [], [109, 0]], by decide +kernel⟩
theorem xh_95 : xhead xm_95 390 = true := by decide +kernel
set_option maxRecDepth 100000 in
theorem xc_96 : ∃ ps, xchks xm_96.1 xm_96.2.1 xk_96 ps = true := ⟨[[], [], [91, 0], [], [], [], [], [], [], [], [], [91, 0]], by decide +kernel⟩
theorem xh_96 : xhead xm_96 259 = true := by decide +kernel
set_option maxRecDepth 100000 in
theorem xc_97 : ∃ ps, xchks xm_97.1 xm_97.2.1 xk_97 ps = true := ⟨[[], [], [], [264, 265, 266, 54], [], [], [], [], [], [], [], [], [94, 0], [], [], [], [], [], [102, 0], [], [94, 0], [], [], [], [104, 0], [], [94, 0], [], [], [], [106, 0], [], [94, 0], [], [], [], [], [94, 0], [], [], [94, 0]], by decide +kernel⟩
theorem xh_97 : xhead xm_97 263 = true := by decide +kernel
set_option maxRecDepth 100000 in
theorem xc_98 : ∃ ps, xchks xm_98.1 xm_98.2.1 xk_98 ps = true := ⟨[[], [], [], [97, 0], [], [], [], [], [], [109, 0], [], [97, 0], [], [], [], [], [97, 0], [], [], [97, 0]], by decide +kernel⟩
theorem xh_98 : xhead xm_98 383 = true := by decide +kernel
set_option maxRecDepth 100000 in
theorem xc_99 : ∃ ps, xchks xm_99.1 xm_99.2.1 xk_99 ps = true := ⟨[[], [99, 0]], by decide +kernel⟩
theorem xh_99 : xhead xm_99 447 = true := by decide +kernel
set_option maxRecDepth 100000 in
theorem xc_100 : ∃ ps, xchks xm_100.1 xm_100.2.1 xk_100 ps = true := ⟨[[], [99, 0], [], [], [285, 286, 53]], by decide +kernel⟩
theorem xh_100 : xhead xm_100 284 = true := by decide +kernel
set_option maxRecDepth 100000 in
theorem xc_101 : ∃ ps, xchks xm_101.1 xm_101.2.1 xk_101 ps = true := ⟨[[], [], [276, 277, 278, 54], [], [], [], [280, 229, 53], [], [], [], [], [281, 282, 283, 54], [], [], [], [], [], [99, 0], [], [], [285, 286, 53], [], [99, 0]], by decide +kernel⟩
theorem xh_101 : xhead xm_101 275 = true := by decide +kernel
set_option maxRecDepth 100000 in
theorem xc_102 : ∃ ps, xchks xm_102.1 xm_102.2.1 xk_102 ps = true := ⟨[[], [], [], [], [], [], [94, 0], [], [], [], [106, 0]], by decide +kernel⟩
theorem xh_102 : xhead xm_102 679 = true := by decide +kernel
set_option maxRecDepth 100000 in
theorem xc_103 : ∃ ps, xchks xm_103.1 xm_103.2.1 xk_103 ps = true := ⟨[[], [], [276, 277, 278, 54], [], [], [], [], [102, 0], [], [], [], [], [], [104, 0], [], [], [], [], [104, 0], [], [], [], [], [], [102, 0]], by decide +kernel⟩
theorem xh_103 : xhead xm_103 440 = true := by decide +kernel
set_option maxRecDepth 100000 in
theorem xc_104 : ∃ ps, xchks xm_104.1 xm_104.2.1 xk_104 ps = true := ⟨[[], [], [], [], [], [], [111, 0], [], [], [], [], [], [], [111, 0], [], [], [], [], [], [], [], [91, 0], [], [], [], [], [], [94, 0], [], [], [], [], [], [], [], [281, 282, 283, 54], [], [], [], [102, 0], [], [], [], [104, 0], [], [], [], [106, 0], [], [], [564, 566, 6, 54], [], [], [104, 0], [], [], [], [102, 0], [], [], [], [106, 0], [], [], [564, 566, 6, 54], [], [], [], [], [], [111, 0]], by decide +kernel⟩
theorem xh_104 : xhead xm_104 563 = true := by decide +kernel
set_option maxRecDepth 100000 in
theorem xc_105 : ∃ ps, xchks xm_105.1 xm_105.2.1 xk_105 ps = true := ⟨[[], [111, 0], [], [], [], [], [], [], [111, 0], [], [], [], [], [], [111, 0], [], [], [], [], [], [], [111, 0], [], [], [], [], [111, 0]], by decide +kernel⟩
theorem xh_105 : xhead xm_105 567 = true := by decide +kernel
set_option maxRecDepth 100000 in
theorem xc_106 : ∃ ps, xchks xm_106.1 xm_106.2.1 xk_106 ps = true := ⟨[[], [], [], [], [], [91, 0], [], [], [], [110, 0], [], [], [], [], [], [], [], [], [], [94, 0], [], [], [], [], [], [], [281, 282, 283, 54], [], [], [], [], [91, 0], [], [], [], [], [102, 0], [], [], [576, 442, 53], [], [], [104, 0], [], [], [576, 442, 53], [], [], [110, 0]], by decide +kernel⟩
theorem xh_106 : xhead xm_106 575 = true := by decide +kernel
set_option maxRecDepth 100000 in
theorem xc_107 : ∃ ps, xchks xm_107.1 xm_107.2.1 xk_107 ps = true := ⟨[[], [], [], [], [], [], [], [91, 0], [], [], [], [], [576, 442, 53], [], [], [], [576, 442, 53], [], [], [], [110, 0], [], [], [], [], [576, 442, 53], [], [], [576, 442, 53]], by decide +kernel⟩
theorem xh_107 : xhead xm_107 580 = true := by decide +kernel
set_option maxRecDepth 100000 in
theorem xc_108 : ∃ ps, xchks xm_108.1 xm_108.2.1 xk_108 ps = true := ⟨[[], [], [], [], [], [], [91, 0], [], [], [], [], [], [], [], [], [576, 442, 53], [], [], [], [576, 442, 53], [], [], [110, 0], [], [], [], [110, 0]], by decide +kernel⟩
theorem xh_108 : xhead xm_108 584 = true := by decide +kernel
set_option maxRecDepth 100000 in
theorem xc_109 : ∃ ps, xchks xm_109.1 xm_109.2.1 xk_109 ps = true := ⟨[[], [], [], [], [], [], [], [], [], [], [], [], [], [], [595, 487, 67], [], [595, 487, 67], [], [], [], [], [], [], [], [], [], [], [596, 598, 7, 54]], by decide +kernel⟩
theorem xh_109 : xhead xm_109 594 = true := by decide +kernel
set_option maxRecDepth 100000 in
theorem xc_110 : ∃ ps, xchks xm_110.1 xm_110.2.1 xk_110 ps = true := ⟨[[], [], [], [], [], [91, 0], [], [], [], [], [576, 442, 53], [], [], [], [], [], [], [595, 487, 67], [], [110, 0]], by decide +kernel⟩
theorem xh_110 : xhead xm_110 599 = true := by decide +kernel
set_option maxRecDepth 100000 in
theorem xc_111 : ∃ ps, xchks xm_111.1 xm_111.2.1 xk_111 ps = true := ⟨[[], [], [], [335, 297, 59]], by decide +kernel⟩
theorem xh_111 : xhead xm_111 334 = true := by decide +kernel
set_option maxRecDepth 100000 in
theorem xc_112 : ∃ ps, xchks xm_112.1 xm_112.2.1 xk_112 ps = true := ⟨[[], [], [], [], [307, 308, 0]], by decide +kernel⟩
theorem xh_112 : xhead xm_112 427 = true := by decide +kernel
set_option maxRecDepth 100000 in
theorem xc_113 : ∃ ps, xchks xm_113.1 xm_113.2.1 xk_113 ps = true := ⟨[[], [724, 716, 338, 714, 59, 0], [], [], [307, 308, 0]], by decide +kernel⟩
theorem xh_113 : xhead xm_113 723 = true := by decide +kernel
set_option maxRecDepth 100000 in
theorem xc_114 : ∃ ps, xchks xm_114.1 xm_114.2.1 xk_114 ps = true := ⟨[[], [], [], [362, 333, 62]], by decide +kernel⟩
theorem xh_114 : xhead xm_114 361 = true := by decide +kernel
set_option maxRecDepth 100000 in
theorem xc_115 : ∃ ps, xchks xm_115.1 xm_115.2.1 xk_115 ps = true := ⟨[[], [], [], [], [431, 1292, 365, 426, 62, 3]], by decide +kernel⟩
theorem xh_115 : xhead xm_115 430 = true := by decide +kernel
set_option maxRecDepth 100000 in
theorem xc_116 : ∃ ps, xchks xm_116.1 xm_116.2.1 xk_116 ps = true := ⟨[[], [], [], [], [472, 473, 365, 464, 59, 3, 338]], by decide +kernel⟩
theorem xh_116 : xhead xm_116 471 = true := by decide +kernel
set_option maxRecDepth 100000 in
theorem xc_117 : ∃ ps, xchks xm_117.1 xm_117.2.1 xk_117 ps = true := ⟨[[], [], [728, 1294, 365, 722, 62, 3]], by decide +kernel⟩
theorem xh_117 : xhead xm_117 727 = true := by decide +kernel
set_option maxRecDepth 100000 in
theorem xc_118 : ∃ ps, xchks xm_118.1 xm_118.2.1 xk_118 ps = true := ⟨[[], [], [], [296, 297, 59]], by decide +kernel⟩
theorem xh_118 : xhead xm_118 295 = true := by decide +kernel
set_option maxRecDepth 100000 in
theorem xc_119 : ∃ ps, xchks xm_119.1 xm_119.2.1 xk_119 ps = true := ⟨[], by decide +kernel⟩
theorem xh_119 : xhead xm_119 477 = true := by decide +kernel
set_option maxRecDepth 100000 in
theorem xc_120 : ∃ ps, xchks xm_120.1 xm_120.2.1 xk_120 ps = true := ⟨[[], [732, 716, 320, 714, 59, 0]], by decide +kernel⟩
theorem xh_120 : xhead xm_120 731 = true := by decide +kernel
set_option maxRecDepth 100000 in
theorem xc_121 : ∃ ps, xchks xm_121.1 xm_121.2.1 xk_121 ps = true := ⟨[[], [], [], [344, 297, 59]], by decide +kernel⟩
theorem xh_121 : xhead xm_121 343 = true := by decide +kernel
set_option maxRecDepth 100000 in
theorem xc_122 : ∃ ps, xchks xm_122.1 xm_122.2.1 xk_122 ps = true := ⟨[[], [], [], [], [481, 466, 347, 464, 59, 0], [], [], [309, 310, 0]], by decide +kernel⟩
theorem xh_122 : xhead xm_122 480 = true := by decide +kernel
set_option maxRecDepth 100000 in
theorem xc_123 : ∃ ps, xchks xm_123.1 xm_123.2.1 xk_123 ps = true := ⟨[[], [], [181, 0], [], [], [183, 0], [], [], [], [], [179, 0], [], [], [], [179, 0]], by decide +kernel⟩
theorem xh_123 : xhead xm_123 691 = true := by decide +kernel
set_option maxRecDepth 100000 in
theorem xc_124 : ∃ ps, xchks xm_124.1 xm_124.2.1 xk_124 ps = true := ⟨[[], [], [], [], [183, 0], [], [], [], [179, 0]], by decide +kernel⟩
theorem xh_124 : xhead xm_124 241 = true := by decide +kernel
set_option maxRecDepth 100000 in
theorem xc_125 : ∃ ps, xchks xm_125.1 xm_125.2.1 xk_125 ps = true := ⟨[[], [], [], [], [], [], [183, 0], [], [], [], [183, 0]], by decide +kernel⟩
theorem xh_125 : xhead xm_125 707 = true := by decide +kernel
set_option maxRecDepth 100000 in
theorem xc_126 : ∃ ps, xchks xm_126.1 xm_126.2.1 xk_126 ps = true := ⟨[[], [], [238, 239, 240, 56], [], [], [179, 0]], by decide +kernel⟩
theorem xh_126 : xhead xm_126 237 = true := by decide +kernel
set_option maxRecDepth 100000 in
theorem xc_127 : ∃ ps, xchks xm_127.1 xm_127.2.1 xk_127 ps = true := ⟨[[], [], [238, 239, 240, 56], [], [], [], [], [181, 0], [], [], [179, 0], [], [], [], [], [], [], [181, 0], [], [], [], [179, 0], [], [], [], [], [], [], [179, 0]], by decide +kernel⟩
theorem xh_127 : xhead xm_127 699 = true := by decide +kernel
set_option maxRecDepth 100000 in
theorem xc_128 : ∃ ps, xchks xm_128.1 xm_128.2.1 xk_128 ps = true := ⟨[[], [], [], [326, 294, 60]], by decide +kernel⟩
theorem xh_128 : xhead xm_128 325 = true := by decide +kernel
set_option maxRecDepth 100000 in
theorem xc_129 : ∃ ps, xchks xm_129.1 xm_129.2.1 xk_129 ps = true := ⟨[[], [], [], [], [485, 1293, 329, 476, 60, 5], [], [], [], [486, 487, 67]], by decide +kernel⟩
theorem xh_129 : xhead xm_129 484 = true := by decide +kernel
set_option maxRecDepth 100000 in
theorem xc_130 : ∃ ps, xchks xm_130.1 xm_130.2.1 xk_130 ps = true := ⟨[[], [737, 1295, 329, 730, 60, 5], [], [311, 312, 0]], by decide +kernel⟩
theorem xh_130 : xhead xm_130 736 = true := by decide +kernel
set_option maxRecDepth 100000 in
theorem xc_131 : ∃ ps, xchks xm_131.1 xm_131.2.1 xk_131 ps = true := ⟨[[], [], [], [371, 294, 60]], by decide +kernel⟩
theorem xh_131 : xhead xm_131 370 = true := by decide +kernel
set_option maxRecDepth 100000 in
theorem xc_132 : ∃ ps, xchks xm_132.1 xm_132.2.1 xk_132 ps = true := ⟨[[], [303, 304, 0]], by decide +kernel⟩
theorem xh_132 : xhead xm_132 418 = true := by decide +kernel
set_option maxRecDepth 100000 in
theorem xc_133 : ∃ ps, xchks xm_133.1 xm_133.2.1 xk_133 ps = true := ⟨[[], [741, 1295, 374, 730, 60, 5], [], [303, 304, 0]], by decide +kernel⟩
theorem xh_133 : xhead xm_133 740 = true := by decide +kernel
set_option maxRecDepth 100000 in
theorem xc_134 : ∃ ps, xchks xm_134.1 xm_134.2.1 xk_134 ps = true := ⟨[[], [], [147, 0], [], [], [], [400, 388, 389, 54], [148, 0], [], [], [149, 0], [], [], [150, 0], [], [], [151, 0], [], [], [143, 0], [], [], [145, 0], [], [], [], [], [], [], [], [401, 403, 3, 55], [], [143, 0]], by decide +kernel⟩
theorem xh_134 : xhead xm_134 399 = true := by decide +kernel
set_option maxRecDepth 100000 in
theorem xc_135 : ∃ ps, xchks xm_135.1 xm_135.2.1 xk_135 ps = true := ⟨[[], [143, 0], [], [], [], [145, 0], [], [], [], [], [151, 0], [], [], [142, 0], [], [], [140, 0], [], [], [405, 251, 250, 58], [], [], [143, 0], [], [], [145, 0], [], [], [148, 0], [], [], [], [148, 0], [406, 409, 407, 408, 407, 59, 410, 407, 59, 411, 407, 59, 412, 407, 59, 413, 407, 59, 414, 407, 59, 415, 407, 59, 416, 417, 66], [], [], [], [142, 0], [], [], [], [], [148, 0], [], [149, 0], [], [], [147, 0], [92, 0], [420, 423, 421, 422, 421, 59, 424, 421, 59, 425, 426, 62, 428, 429, 65, 432, 421, 59, 433, 421, 59, 434, 421, 59, 435, 421, 59], [], [], [], [], [], [147, 0], [95, 0], [], [], [147, 0], [], [], [437, 438, 439, 54], [], [], [], [], [], [441, 442, 53], [], [], [148, 0], [], [], [147, 0], [], [444, 445, 446, 54], [], [448, 451, 449, 450, 449, 59, 452, 453, 64, 456, 449, 59, 457, 449, 59, 458, 449, 59, 459, 449, 59, 460, 449, 59, 461, 449, 59], [], [], [], [142, 0], [], [], [], [], [148, 0], [], [], [147, 0], [108, 0], [], [], [], [147, 0], [], [444, 445, 446, 54], [463, 466, 464, 465, 464, 59, 467, 464, 59, 468, 464, 59, 469, 470, 65, 475, 476, 60, 478, 479, 63, 482, 483, 61, 492, 476, 60], [], [], [], [], [], [], [], [], [], [], [], [], [], [], [401, 403, 3, 55]], by decide +kernel⟩
theorem xh_135 : xhead xm_135 404 = true := by decide +kernel
set_option maxRecDepth 100000 in
theorem xc_136 : ∃ ps, xchks xm_136.1 xm_136.2.1 xk_136 ps = true := ⟨[[], [], [], [], [], [], [143, 0], [], [], [], [147, 0], [108, 0], [], [140, 0]], by decide +kernel⟩
theorem xh_136 : xhead xm_136 515 = true := by decide +kernel
set_option maxRecDepth 100000 in
theorem xc_137 : ∃ ps, xchks xm_137.1 xm_137.2.1 xk_137 ps = true := ⟨[[], [150, 0], [], [], [], [150, 0], [], [], [], [], [], [], [143, 0], [], [], [148, 0], [], [], [140, 0], [], [], [], [], [148, 0], [], [], [148, 0], [], [149, 0], [], [], [147, 0], [92, 0], [420, 423, 421, 422, 421, 59, 424, 421, 59, 425, 426, 62, 428, 429, 65, 432, 421, 59, 433, 421, 59, 434, 421, 59, 435, 421, 59], [498, 501, 499, 500, 499, 59, 502, 503, 64, 505, 499, 59, 506, 499, 59, 507, 499, 59, 508, 499, 59, 509, 499, 59, 510, 499, 59], [], [], [], [147, 0], [], [100, 0], [], [], [], [], [], [], [100, 0], [], [147, 0], [], [], [437, 438, 439, 54]], by decide +kernel⟩
theorem xh_137 : xhead xm_137 497 = true := by decide +kernel
set_option maxRecDepth 100000 in
theorem xc_138 : ∃ ps, xchks xm_138.1 xm_138.2.1 xk_138 ps = true := ⟨[[], [], [], [224, 226, 0, 53], [], [], [], [], [], [], [199, 0], [], [], [], [], [231, 232, 53], [], [], [], [], [], [], [], [], [193, 0], [], [192, 0], [245, 246, 247, 54], [], [], [], [], [], [], [184, 0], [], [], [], [], [252, 254, 1, 53], [], [], [], [], [], [], [], [], [], [234, 235, 236, 56], [242, 243, 53], [], [], [], [], [], [], [192, 0], [], [193, 0], [245, 246, 247, 54]], by decide +kernel⟩
theorem xh_138 : xhead xm_138 223 = true := by decide +kernel
set_option maxRecDepth 100000 in
theorem xc_139 : ∃ ps, xchks xm_139.1 xm_139.2.1 xk_139 ps = true := ⟨[[], [192, 0], [], [520, 277, 278, 54], [], [], [], [], [], [], [192, 0], [103, 0], [], [], [], [], [192, 0], [105, 0], [], [], [], [], [192, 0], [107, 0], [], [], [], [], [192, 0], [], [521, 445, 446, 54]], by decide +kernel⟩
theorem xh_139 : xhead xm_139 519 = true := by decide +kernel
set_option maxRecDepth 100000 in
theorem xc_140 : ∃ ps, xchks xm_140.1 xm_140.2.1 xk_140 ps = true := ⟨[[], [192, 0], [], [387, 388, 389, 54], [], [], [], [], [], [228, 229, 53], [], [], [], [], [], [], [301, 0, 1], [], [], [313, 0, 1]], by decide +kernel⟩
theorem xh_140 : xhead xm_140 525 = true := by decide +kernel
set_option maxRecDepth 100000 in
theorem xc_141 : ∃ ps, xchks xm_141.1 xm_141.2.1 xk_141 ps = true := ⟨[[], [], [530, 532, 4, 53], [], [], [], [], [], [], [192, 0], [], [198, 0], [], [], [380, 381, 382, 54], [], [], [192, 0], [98, 0]], by decide +kernel⟩
theorem xh_141 : xhead xm_141 529 = true := by decide +kernel
set_option maxRecDepth 100000 in
theorem xc_142 : ∃ ps, xchks xm_142.1 xm_142.2.1 xk_142 ps = true := ⟨[[], [192, 0], [], [520, 277, 278, 54], [], [], [], [228, 229, 53], [], [], [], [228, 229, 53], [], [], [], [], [192, 0], [], [], [538, 282, 283, 54], [], [], [], [], [], [], [], [], [], [], [192, 0], [], [101, 0], [], [], [539, 286, 53], [], [101, 0]], by decide +kernel⟩
theorem xh_142 : xhead xm_142 537 = true := by decide +kernel
set_option maxRecDepth 100000 in
theorem xc_143 : ∃ ps, xchks xm_143.1 xm_143.2.1 xk_143 ps = true := ⟨[[], [192, 0], [], [], [], [], [384, 385, 53], [], [], [], [228, 229, 53], [], [], [], [], [196, 0], [], [192, 0], [], [], [], [], [396, 397, 398, 55], [], [], [], [], [], [], [196, 0], [146, 0], [], [], [], [], [], [196, 0], [144, 0], [], [], [196, 0], [512, 513, 514, 55]], by decide +kernel⟩
theorem xh_143 : xhead xm_143 543 = true := by decide +kernel
set_option maxRecDepth 100000 in
theorem xc_144 : ∃ ps, xchks xm_144.1 xm_144.2.1 xk_144 ps = true := ⟨[[], [192, 0], [], [], [], [], [384, 385, 53], [], [], [], [], [], [], [196, 0], [], [192, 0], [], [], [], [], [396, 397, 398, 55], [], [], [], [196, 0], [144, 0], [], [], [], [], [196, 0], [141, 0]], by decide +kernel⟩
theorem xh_144 : xhead xm_144 547 = true := by decide +kernel
set_option maxRecDepth 100000 in
theorem xc_145 : ∃ ps, xchks xm_145.1 xm_145.2.1 xk_145 ps = true := ⟨[[], [192, 0], [], [], [], [], [384, 385, 53], [], [], [], [], [], [192, 0], [], [], [], [], [392, 394, 2, 53]], by decide +kernel⟩
theorem xh_145 : xhead xm_145 551 = true := by decide +kernel
set_option maxRecDepth 100000 in
theorem xc_146 : ∃ ps, xchks xm_146.1 xm_146.2.1 xk_146 ps = true := ⟨[[], [], [], [], [556, 558, 5, 53], [], [], [], [], [192, 0], [], [], [], [], [560, 561, 562, 54]], by decide +kernel⟩
theorem xh_146 : xhead xm_146 555 = true := by decide +kernel
set_option maxRecDepth 100000 in
theorem xc_147 : ∃ ps, xchks xm_147.1 xm_147.2.1 xk_147 ps = true := ⟨[[], [], [], [], [556, 558, 5, 53], [], [], [], [228, 229, 53], [], [], [], [], [192, 0], [], [572, 573, 574, 54], [], [], [], [192, 0], [], [], [], [], [], [577, 578, 579, 54], [], [], [192, 0], [], [], [581, 582, 583, 54]], by decide +kernel⟩
theorem xh_147 : xhead xm_147 571 = true := by decide +kernel
set_option maxRecDepth 100000 in
theorem xc_148 : ∃ ps, xchks xm_148.1 xm_148.2.1 xk_148 ps = true := ⟨[[], [], [228, 229, 53], [], [], [192, 0], [], [589, 269, 270, 54], [], [], [], [228, 229, 53], [], [], [], [], [], [], [192, 0], [93, 0], [], [228, 229, 53], [], [], [], [590, 442, 53], [], [], [], [], [192, 0], [], [572, 573, 574, 54], [], [192, 0], [], [], [591, 592, 593, 54], [], [], [], [], [600, 487, 67]], by decide +kernel⟩
theorem xh_148 : xhead xm_148 588 = true := by decide +kernel
set_option maxRecDepth 100000 in
theorem xc_149 : ∃ ps, xchks xm_149.1 xm_149.2.1 xk_149 ps = true := ⟨[[], [], [], [], [556, 558, 5, 53], [], [], [], [228, 229, 53], [], [], [], [], [192, 0], [], [572, 573, 574, 54], [], [], [], [], [], [], [], [], [192, 0], [96, 0], [], [], [192, 0], [], [], [538, 282, 283, 54], [], [], [], [192, 0], [], [], [], [192, 0], [103, 0], [], [], [], [192, 0], [105, 0], [], [], [], [577, 578, 579, 54]], by decide +kernel⟩
theorem xh_149 : xhead xm_149 604 = true := by decide +kernel
set_option maxRecDepth 100000 in
theorem xc_150 : ∃ ps, xchks xm_150.1 xm_150.2.1 xk_150 ps = true := ⟨[[], [192, 0], [], [520, 277, 278, 54], [], [], [], [], [], [556, 558, 5, 53], [], [], [], [], [192, 0], [], [], [], [], [560, 561, 562, 54], [], [], [], [], [], [], [], [192, 0], [], [], [], [], [560, 561, 562, 54]], by decide +kernel⟩
theorem xh_150 : xhead xm_150 608 = true := by decide +kernel
set_option maxRecDepth 100000 in
theorem xc_151 : ∃ ps, xchks xm_151.1 xm_151.2.1 xk_151 ps = true := ⟨[[], [], [], [], [556, 558, 5, 53], [], [], [], [228, 229, 53], [], [], [], [], [192, 0], [], [572, 573, 574, 54], [], [], [], [], [], [], [], [], [192, 0], [93, 0], [], [], [], [], [], [], [], [192, 0], [93, 0], [], [], [192, 0], [], [], [], [], [], [577, 578, 579, 54]], by decide +kernel⟩
theorem xh_151 : xhead xm_151 612 = true := by decide +kernel
set_option maxRecDepth 100000 in
theorem xc_152 : ∃ ps, xchks xm_152.1 xm_152.2.1 xk_152 ps = true := ⟨[[], [], [228, 229, 53], [], [], [192, 0], [], [589, 269, 270, 54], [], [], [], [], [], [], [], [], [], [192, 0], [96, 0], [], [], [192, 0], [], [], [617, 438, 439, 54], [], [], [], [], [192, 0], [], [], [538, 282, 283, 54], [], [], [], [192, 0], [], [], [], [], [560, 561, 562, 54], [], [], [], [], [], [], [], [], [192, 0], [107, 0], [], [], [], [], [], [], [], [192, 0], [107, 0]], by decide +kernel⟩
theorem xh_152 : xhead xm_152 616 = true := by decide +kernel
set_option maxRecDepth 100000 in
theorem xc_153 : ∃ ps, xchks xm_153.1 xm_153.2.1 xk_153 ps = true := ⟨[[], [192, 0], [], [], [], [], [384, 385, 53], [], [], [], [], [193, 0], [], [192, 0], [245, 246, 247, 54], [], [], [], [], [], [], [], [193, 0], [], [], [], [], [392, 394, 2, 53]], by decide +kernel⟩
theorem xh_153 : xhead xm_153 621 = true := by decide +kernel
set_option maxRecDepth 100000 in
theorem xc_154 : ∃ ps, xchks xm_154.1 xm_154.2.1 xk_154 ps = true := ⟨[[], [], [], [626, 628, 8, 53], [], [], [], [], [], [], [193, 0], [], [192, 0], [245, 246, 247, 54], [], [], [], [], [], [], [], [], [199, 0], [], [], [184, 0], [], [], [], [], [], [199, 0], [], [], [], [630, 632, 9, 53]], by decide +kernel⟩
theorem xh_154 : xhead xm_154 625 = true := by decide +kernel
set_option maxRecDepth 100000 in
theorem xc_155 : ∃ ps, xchks xm_155.1 xm_155.2.1 xk_155 ps = true := ⟨[[], [], [], [626, 628, 8, 53], [], [], [], [], [], [], [193, 0], [], [192, 0], [245, 246, 247, 54], [], [], [200, 0], [], [], [199, 0], [], [], [184, 0], [], [], [], [], [], [], [], [], [199, 0], [], [], [], [], [], [638, 640, 10, 53], [], [], [], [], [], [], [200, 0]], by decide +kernel⟩
theorem xh_155 : xhead xm_155 637 = true := by decide +kernel
set_option maxRecDepth 100000 in
theorem xc_156 : ∃ ps, xchks xm_156.1 xm_156.2.1 xk_156 ps = true := ⟨[[], [], [], [], [], [], [], [], [], [192, 0], [98, 0], [], [], [], [], [193, 0], [], [192, 0], [245, 246, 247, 54], [], [], [], [], [], [], [], [], [], [], [646, 647, 53], [], [], [], [192, 0], [98, 0], [650, 651, 53], [], [], [646, 647, 53], [], [], [], [650, 651, 53], [], [], [646, 647, 53], [], [], [], [192, 0], [93, 0], [650, 651, 53], [], [], [646, 647, 53], [], [], [], [192, 0], [93, 0], [650, 651, 53], [], [], [], [], [], [], [193, 0], [], [], [], [], [392, 394, 2, 53]], by decide +kernel⟩
theorem xh_156 : xhead xm_156 645 = true := by decide +kernel
set_option maxRecDepth 100000 in
theorem xc_157 : ∃ ps, xchks xm_157.1 xm_157.2.1 xk_157 ps = true := ⟨[[], [], [], [224, 226, 0, 53], [], [], [], [], [], [], [199, 0], [], [], [], [], [193, 0], [], [192, 0], [245, 246, 247, 54], [], [], [], [], [184, 0], [], [], [], [234, 235, 236, 56], [], [], [193, 0], [], [520, 277, 278, 54], [], [], [], [], [], [184, 0], [], [], [], [], [193, 0], [], [], [], [], [], [234, 235, 236, 56], [272, 273, 274, 54]], by decide +kernel⟩
theorem xh_157 : xhead xm_157 657 = true := by decide +kernel
set_option maxRecDepth 100000 in
theorem xc_158 : ∃ ps, xchks xm_158.1 xm_158.2.1 xk_158 ps = true := ⟨[[], [194, 0], [], [192, 0], [245, 246, 247, 54], [], [], [195, 0], [], [192, 0], [96, 0]], by decide +kernel⟩
theorem xh_158 : xhead xm_158 661 = true := by decide +kernel
set_option maxRecDepth 100000 in
theorem xc_159 : ∃ ps, xchks xm_159.1 xm_159.2.1 xk_159 ps = true := ⟨[[], [195, 0], [], [], [], [], [192, 0], [], [194, 0], [245, 246, 247, 54], [], [192, 0], [96, 0]], by decide +kernel⟩
theorem xh_159 : xhead xm_159 665 = true := by decide +kernel
set_option maxRecDepth 100000 in
theorem xc_160 : ∃ ps, xchks xm_160.1 xm_160.2.1 xk_160 ps = true := ⟨[[], [], [], [192, 0], [93, 0], [], [], [192, 0], [96, 0], [], [], [192, 0], [98, 0], [], [], [192, 0], [101, 0], [670, 671, 68], [], [], [192, 0], [676, 677, 678, 54]], by decide +kernel⟩
theorem xh_160 : xhead xm_160 669 = true := by decide +kernel
set_option maxRecDepth 100000 in
theorem xc_161 : ∃ ps, xchks xm_161.1 xm_161.2.1 xk_161 ps = true := ⟨[[], [], [228, 229, 53], [], [], [], [228, 229, 53], [], [], [], [], [], [], [197, 0], [], [], [], [], [198, 0], [], [], [], [], [], [], [], [228, 229, 53], [], [], [], [228, 229, 53], [], [], [], [], [197, 0], [], [], [], [], [198, 0], [], [], [], [288, 289, 53]], by decide +kernel⟩
theorem xh_161 : xhead xm_161 683 = true := by decide +kernel
set_option maxRecDepth 100000 in
theorem xc_162 : ∃ ps, xchks xm_162.1 xm_162.2.1 xk_162 ps = true := ⟨[[], [], [228, 229, 53], [], [], [], [], [], [], [], [], [], [], [], [], [], [], [], [], [197, 0], [], [], [], [], [198, 0], [], [], [], [], [199, 0], [], [], [], [], [688, 689, 690, 56]], by decide +kernel⟩
theorem xh_162 : xhead xm_162 687 = true := by decide +kernel
set_option maxRecDepth 100000 in
theorem xc_163 : ∃ ps, xchks xm_163.1 xm_163.2.1 xk_163 ps = true := ⟨[[], [], [], [224, 226, 0, 53], [], [], [], [], [], [], [199, 0], [], [], [], [], [696, 697, 698, 56]], by decide +kernel⟩
theorem xh_163 : xhead xm_163 695 = true := by decide +kernel
set_option maxRecDepth 100000 in
theorem xc_164 : ∃ ps, xchks xm_164.1 xm_164.2.1 xk_164 ps = true := ⟨[[], [], [228, 229, 53], [], [], [], [228, 229, 53], [], [], [], [], [197, 0], [], [], [], [], [197, 0], [], [], [], [], [], [], [197, 0], [], [], [], [], [], [197, 0], [], [], [], [], [], [199, 0], [], [], [182, 0], [], [199, 0], [], [], [182, 0], [], [], [], [], [199, 0], [], [], [], [], [704, 705, 706, 56], [], [], [199, 0], [], [], [], [], [704, 705, 706, 56], [], [], [], [], [199, 0], [], [], [180, 0], [], [], [199, 0], [], [], [180, 0], [], [], [708, 251, 250, 58]], by decide +kernel⟩
theorem xh_164 : xhead xm_164 703 = true := by decide +kernel
set_option maxRecDepth 100000 in
theorem xc_165 : ∃ ps, xchks xm_165.1 xm_165.2.1 xk_165 ps = true := ⟨[[], [], [530, 532, 4, 53], [], [], [], [], [198, 0], [], [], [], [], [], [], [198, 0], [], [], [713, 716, 714, 715, 714, 59, 717, 718, 64, 721, 722, 62, 725, 726, 65, 729, 730, 60, 733, 714, 59, 734, 735, 61, 738, 739, 66]], by decide +kernel⟩
theorem xh_165 : xhead xm_165 712 = true := by decide +kernel
set_option maxRecDepth 100000 in
theorem xc_166 : ∃ ps, xchks xm_166.1 xm_166.2.1 xk_166 ps = true := ⟨[], by decide +kernel⟩
theorem xh_166 : xhead xm_166 230 = true := by decide +kernel
set_option maxRecDepth 100000 in
theorem xc_167 : ∃ ps, xchks xm_167.1 xm_167.2.1 xk_167 ps = true := ⟨[], by decide +kernel⟩
theorem xh_167 : xhead xm_167 443 = true := by decide +kernel
set_option maxRecDepth 100000 in
theorem xc_168 : ∃ ps, xchks xm_168.1 xm_168.2.1 xk_168 ps = true := ⟨[], by decide +kernel⟩
theorem xh_168 : xhead xm_168 287 = true := by decide +kernel
set_option maxRecDepth 100000 in
theorem xc_169 : ∃ ps, xchks xm_169.1 xm_169.2.1 xk_169 ps = true := ⟨[[], [], [228, 229, 53], [], [], [192, 0], [], [], [391, 265, 266, 54]], by decide +kernel⟩
theorem xh_169 : xhead xm_169 559 = true := by decide +kernel
set_option maxRecDepth 100000 in
theorem xc_170 : ∃ ps, xchks xm_170.1 xm_170.2.1 xk_170 ps = true := ⟨[[], [], [387, 388, 389, 54], [], [], [], [228, 229, 53], [], [], [], [], [391, 265, 266, 54]], by decide +kernel⟩
theorem xh_170 : xhead xm_170 386 = true := by decide +kernel
set_option maxRecDepth 100000 in
theorem xc_171 : ∃ ps, xchks xm_171.1 xm_171.2.1 xk_171 ps = true := ⟨[[], [], [228, 229, 53], [], [], [], [], [197, 0], [], [], [], [], [], [], [197, 0], [], [], [], [], [], [], [], [199, 0], [], [], [182, 0]], by decide +kernel⟩
theorem xh_171 : xhead xm_171 227 = true := by decide +kernel
set_option maxRecDepth 100000 in
theorem xc_172 : ∃ ps, xchks xm_172.1 xm_172.2.1 xk_172 ps = true := ⟨[[], [], [228, 229, 53], [], [], [], [], [197, 0], [], [], [], [], [], [], [197, 0]], by decide +kernel⟩
theorem xh_172 : xhead xm_172 533 = true := by decide +kernel
set_option maxRecDepth 100000 in
theorem xc_173 : ∃ ps, xchks xm_173.1 xm_173.2.1 xk_173 ps = true := ⟨[[], [], [228, 229, 53], [], [], [], [], [], [], [224, 226, 0, 53], [], [], [], [], [], [], [199, 0], [], [], [], [], [184, 0], [], [], [], [], [184, 0], [], [], [], [], [], [], [], [], [184, 0], [], [], [192, 0], [], [], [234, 235, 236, 56], [], [], [], [], [234, 235, 236, 56], [], [], [], [], [234, 235, 236, 56], [], [], [], [], [234, 235, 236, 56], [384, 385, 53]], by decide +kernel⟩
theorem xh_173 : xhead xm_173 629 = true := by decide +kernel
set_option maxRecDepth 100000 in
theorem xc_174 : ∃ ps, xchks xm_174.1 xm_174.2.1 xk_174 ps = true := ⟨[[], [196, 0], [], [], [], [], [], [396, 397, 398, 55], [], [], [], [], [196, 0], [494, 495, 496, 55], [], [196, 0], [512, 513, 514, 55]], by decide +kernel⟩
theorem xh_174 : xhead xm_174 395 = true := by decide +kernel
set_option maxRecDepth 100000 in
theorem xc_175 : ∃ ps, xchks xm_175.1 xm_175.2.1 xk_175 ps = true := ⟨[[], [], [], [], [], [], [193, 0], [], [], [234, 235, 236, 56], [], [], [], [], [234, 235, 236, 56], [], [], [], [], [234, 235, 236, 56], [], [], [], [], [234, 235, 236, 56], [392, 394, 2, 53]], by decide +kernel⟩
theorem xh_175 : xhead xm_175 633 = true := by decide +kernel
set_option maxRecDepth 100000 in
theorem xc_176 : ∃ ps, xchks xm_176.1 xm_176.2.1 xk_176 ps = true := ⟨[[], [], [], [200, 0], [], [], [], [], [200, 0], [], [], [], [200, 0], [], [], [], [], [], [], [], [], [193, 0], [101, 0], [], [], [], [], [], [], [], [], [], [], [590, 442, 53], [], [], [], [], [], [630, 632, 9, 53], [], [], [], [], [], [], [], [], [], [], [], [], [], [], [], [], [], [], [], [], [638, 640, 10, 53], [], [], [], [193, 0], [], [101, 0]], by decide +kernel⟩
theorem xh_176 : xhead xm_176 641 = true := by decide +kernel
set_option maxRecDepth 100000 in
theorem xc_177 : ∃ ps, xchks xm_177.1 xm_177.2.1 xk_177 ps = true := ⟨[[], [649]], by decide +kernel⟩
theorem xh_177 : xhead xm_177 648 = true := by decide +kernel
set_option maxRecDepth 100000 in
theorem xc_178 : ∃ ps, xchks xm_178.1 xm_178.2.1 xk_178 ps = true := ⟨[[], [], [], [], [], [], [653]], by decide +kernel⟩
theorem xh_178 : xhead xm_178 652 = true := by decide +kernel
set_option maxRecDepth 100000 in
theorem xc_179 : ∃ ps, xchks xm_179.1 xm_179.2.1 xk_179 ps = true := ⟨[], by decide +kernel⟩
theorem xh_179 : xhead xm_179 244 = true := by decide +kernel
set_option maxRecDepth 100000 in
theorem xc_180 : ∃ ps, xchks xm_180.1 xm_180.2.1 xk_180 ps = true := ⟨[[], [], [], [], [], [], [184, 0], [], [], [], [234, 235, 236, 56], [], [], [], [], [], [242, 243, 53], [], [], [], [], [], [], [], [], [], [], [], [], [], [], [], [], [], [], [], [], [], [], [], [], [], [], [], [184, 0], [], [], [], [], [], [], [], [184, 0]], by decide +kernel⟩
theorem xh_180 : xhead xm_180 233 = true := by decide +kernel
set_option maxRecDepth 100000 in
theorem xc_181 : ∃ ps, xchks xm_181.1 xm_181.2.1 xk_181 ps = true := ⟨[[], [], [], [], [234, 235, 236, 56], [], [], [], [], [], [], [], [234, 235, 236, 56], [], [], [], [], [], [], [], [234, 235, 236, 56], [], [], [], [], [], [], [], [234, 235, 236, 56], [], [], [], [], [], [234, 235, 236, 56], [], [], [193, 0], [], [256, 257, 258, 54], [], [], [193, 0], [], [], [], [260, 261, 262, 54], [], [], [193, 0], [], [], [272, 273, 274, 54], [], [], [], [228, 229, 53], [], [], [], [228, 229, 53], [], [], [193, 0], [], [], [288, 289, 53], [380, 381, 382, 54], [], [], [], [], [], [], [193, 0], [], [], [], [], [384, 385, 53], [], [], [], [193, 0], [], [], [], [], [392, 394, 2, 53]], by decide +kernel⟩
theorem xh_181 : xhead xm_181 255 = true := by decide +kernel
set_option maxRecDepth 100000 in
theorem xc_182 : ∃ ps, xchks xm_182.1 xm_182.2.1 xk_182 ps = true := ⟨[[], [], [291, 292, 60], [], [], [], [293, 294, 60], [], [321, 322, 61], [], [], [], [323, 324, 61], [], [330, 331, 62], [], [], [], [332, 333, 62], [], [339, 340, 63], [], [], [], [341, 342, 63], [], [348, 349, 64], [], [], [], [350, 351, 64], [], [357, 358, 65], [], [], [], [359, 360, 65], [], [366, 367, 66], [], [], [], [368, 369, 66], [], [171, 375, 59], [], [], [], [376, 297, 59]], by decide +kernel⟩
theorem xh_182 : xhead xm_182 290 = true := by decide +kernel
