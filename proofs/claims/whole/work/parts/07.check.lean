/-! THE TABLES ARE WHAT THE CLAIM SAYS: each entry of the code against the bytes and the words (by places in lw_tbl) -/
def xnest : Jvm.Cond → Bool
  | .fieldLinkNest .. => true
  | .methodLinkNest .. => true
  | .castable .. => true
  | _ => false
def xw (i : Nat) (w : Jvm.Cond) : Bool := decide (lw_tbl[i]? = some w)
def xg (i : Nat) (w : Jvm.Cond) : Bool := xw i w && goodWord w
def xcN (aux : List Nat) (x : Int32) : Bool := match aux with
  | [v] => decide (x = nI v)
  | [_, v] => decide (x = -nI v)
  | _ => true
def xcJ (pc : Nat) (aux : List Nat) (off : Int) : Bool := match aux with
  | [t] => decide ((pc : Int) + off = (t : Int))
  | _ => true
/-- the keys and places of a table switch -/
def xcT (pc : Nat) : Int → List Nat → List Int → Bool
  | k, v :: t :: r, o :: os => decide (k = (v : Int)) && Nat.blt v 1000000 && decide ((pc : Int) + o = (t : Int)) && xcT pc (k + 1) r os
  | _, [], [] => true
  | _, _, _ => false
def xcL (pc : Nat) : List Nat → List (Int × Int) → Bool
  | v :: t :: r, (k, o) :: os => decide (k = (v : Int)) && Nat.blt v 1000000 && decide ((pc : Int) + o = (t : Int)) && xcL pc r os
  | [], [] => true
  | _, _ => false
def xcsr : List Nat := [0, 1, 3, 4, 5, 6, 8, 9]
/-- a field's link: of a class (by its number; 100: any carrier) -/
def xcF (own : String) (mname : String) (put : Bool) (i : Nat) (aux ps : List Nat) : Bool := match aux with
  | [c, k] =>
    let cl : List Nat := if c = 100 then xcsr else [c]
    let T0 := ((vwCl.getD (cl.headD 0) (RX0, TX0, 2)).2.1 k)
    let ref := if c = 100 then (if ps.getD 2 0 = 0 then own else RX0) else (vwCl.getD c (RX0, TX0, 2)).1
    (xg (ps.getD 0 0) (.fieldLink own i ref T0.2.1 T0.2.2.1) || xw (ps.getD 0 0) (.fieldLinkNest own i ref T0.2.1 T0.2.2.1 RX11)) &&
    (decide (T0.1 = ref) || xg (ps.getD 1 0) (.sameField ref T0.1 T0.2.1 T0.2.2.1)) &&
    (cl.all fun ci => decide (ci < 13) && decide (k < (vwCl.getD ci (RX0, TX0, 2)).2.2) && decide ((vwCl.getD ci (RX0, TX0, 2)).2.1 k = T0)) &&
    (!put || !T0.2.2.2 || (decide (mname = "<init>") && decide (T0.1 = own) && xg (ps.getD 0 0) (.fieldLink own i ref T0.2.1 T0.2.2.1)))
  | _ => true
def xcP (y : MethodName) (n : Nat) : Bool := decide ((parseMethodDescriptor y.desc).map (fun d => d.parameters.length) = some n) && decide (y.cls ≠ "java/lang/invoke/MethodHandle") && decide (y.cls ≠ "java/lang/invoke/VarHandle")
/-- a call of a known method: what it gives back is what the table of methods says -/
def xcR (y1 k r w : Nat) : Bool := Nat.ble w (xmeth y1).2.2.1 && Nat.beq (xmeth y1).2.2.2.1 k && Nat.beq (xmeth y1).2.2.2.2.1 r && Nat.blt y1 xMeth.length && !Nat.beq y1 79
def xcC (own : String) (i : Nat) (aux ps : List Nat) : Bool := match aux with
  | [0, y1, n, k, r, w] => (xg (ps.getD 0 0) (.methodLink own i (xmeth y1).1) || xw (ps.getD 0 0) (.methodLinkNest own i (xmeth y1).1 RX11)) && xg (ps.getD 1 0) (.static (xmeth y1).1) && xg (ps.getD 2 0) (.initialized (xmeth y1).1.cls) && xcP (xmeth y1).1 n && xcR y1 k r w
  | [5] => xg (ps.getD 0 0) (.methodLink own i arraycopyName) && xg (ps.getD 1 0) (.native arraycopyName) && xg (ps.getD 2 0) (.static arraycopyName) && xg (ps.getD 3 0) (.initialized "java/lang/System")
  | [7] => decide (own = RL)
  | _ => true
def xcV (own : String) (i : Nat) (aux ps : List Nat) : Bool := match aux with
  | [1, y1, c, n, k, r, w] => xg (ps.getD 0 0) (.methodLink own i (xmeth y1).1) && xg (ps.getD 1 0) (.instanceMethod (xmeth y1).1) && xg (ps.getD 2 0) (.selects (xmeth y1).1.cls (xmeth y1).1 (xmeth y1).1) && xg (ps.getD 3 0) (.initialized (xmeth y1).1.cls) && decide ((vwCl.getD c (RX0, TX0, 2)).1 = (xmeth y1).1.cls) && decide (c < 13) && xcP (xmeth y1).1 n && xcR y1 k r (w + 1)
  | [2, sel, n, k, r, w] =>
    let x := (xmeth (xvt sel 0)).1
    decide (x.cls = RX0) && xg (ps.getD 0 0) (.methodLink own i x) && xg (ps.getD 1 0) (.sameMethod RX0 RX0 x.name x.desc) && xg (ps.getD 2 0) (.instanceMethod x) && xcP x n && xcR (xvt sel 0) k r (w + 1) &&
    ((List.range 8).all fun j => let ci := xcsr.getD j 0
      let y := (xmeth (xvt sel ci)).1
      xg (ps.getD (3 + 3 * j) 0) (.selects (vwCl.getD ci (RX0, TX0, 2)).1 x y) && xg (ps.getD (4 + 3 * j) 0) (.instanceMethod y) && xg (ps.getD (5 + 3 * j) 0) (.initialized y.cls) && xcR (xvt sel ci) k r (w + 1) && decide (y.desc = x.desc) && decide (y.name = x.name))
  | [6] => decide (own = RL)
  | _ => true
def xcS (own : String) (i : Nat) (aux ps : List Nat) : Bool := match aux with
  | [3, y1, n, k, r, w] => xcP (xmeth y1).1 n && xcR y1 k r (w + 1) &&
    (if (xmeth y1).1.name = "<init>" then xg (ps.getD 0 0) (.methodLink own i (xmeth y1).1) && xg (ps.getD 1 0) (.instanceMethod (xmeth y1).1) && xg (ps.getD 2 0) (.initialized (xmeth y1).1.cls) && Nat.beq k 0
     else
      let xc := (vwCl.getD (ps.getD 5 0) (RX0, TX0, 2)).1
      xg (ps.getD 0 0) (.methodLink own i ⟨xc, (xmeth y1).1.name, (xmeth y1).1.desc⟩) && xg (ps.getD 1 0) (.sameMethod xc (xmeth y1).1.cls (xmeth y1).1.name (xmeth y1).1.desc) && xg (ps.getD 2 0) (.superclass own xc) && xg (ps.getD 3 0) (.instanceMethod (xmeth y1).1) && xg (ps.getD 4 0) (.initialized (xmeth y1).1.cls) &&
      (decide (xc = (xmeth y1).1.cls) || xg (ps.getD 6 0) (.superclass xc (xmeth y1).1.cls)))
  | [4] => xg (ps.getD 0 0) (.methodLink own i objectInit) && xg (ps.getD 1 0) (.instanceMethod objectInit) && xg (ps.getD 2 0) (.code objectInit ⟨#[0xb1]⟩ 1 none)
  | _ => true
def xchk (nm : MethodName) (bytes : ByteArray) (mL : Nat) (e : xE) (ps : List Nat) : Bool := match e with
  | (pc, ins, len, aux) => decide (decode bytes pc = .ok (ins, len)) && (match ins with
    | .iconst n => Nat.beq len 1 && xcN aux (Int32.ofInt n)
    | .bipush n => Nat.beq len 2 && xcN aux (Int8.ofInt n).toInt32
    | .sipush n => Nat.beq len 3 && xcN aux (Int16.ofInt n).toInt32
    | .iinc _ n => Nat.beq len 3 && xcN aux (Int32.ofInt n)
    | .lconst n => Nat.beq len 1 && (match aux with | [v] => decide (Int64.ofNat n.val = lN v) | _ => true)
    | .ldc i => Nat.beq len 2 && (match aux with | [v] => xg (ps.getD 0 0) (.constant nm.cls i (nI v)) | _ => true)
    | .ldc_w i => Nat.beq len 3 && (match aux with | [v] => xg (ps.getD 0 0) (.constant nm.cls i (nI v)) | _ => true)
    | .ldc2_w i => Nat.beq len 3 && (match aux with | [v] => xg (ps.getD 0 0) (.constantLong nm.cls i (lN v)) | _ => true)
    | .iload _ => Nat.beq len 2
    | .lload _ => Nat.beq len 2
    | .aload _ => Nat.beq len 2
    | .istore k => Nat.beq len 2 && Nat.blt k mL
    | .lstore k => Nat.beq len 2 && Nat.blt (k + 1) mL
    | .astore k => Nat.beq len 2 && Nat.blt k mL
    | .istore_n k => Nat.beq len 1 && Nat.blt k.val mL
    | .lstore_n k => Nat.beq len 1 && Nat.blt (k.val + 1) mL
    | .astore_n k => Nat.beq len 1 && Nat.blt k.val mL
    | .goto off => Nat.beq len 3 && xcJ pc aux off
    | .ifCond _ off => Nat.beq len 3 && xcJ pc aux off
    | .if_icmp _ off => Nat.beq len 3 && xcJ pc aux off
    | .ifnull off => Nat.beq len 3 && xcJ pc aux off
    | .ifnonnull off => Nat.beq len 3 && xcJ pc aux off
    | .tableswitch d lo hi offs => (match aux with | t :: r => decide ((pc : Int) + d = (t : Int)) && xcT pc lo r offs.toList && decide (hi + 1 = lo + offs.size) | _ => true)
    | .lookupswitch d prs => (match aux with | t :: r => decide ((pc : Int) + d = (t : Int)) && xcL pc r prs.toList && ((prs.toList.zip (prs.toList.drop 1)).all (fun (a, next) => a.1 < next.1)) | _ => true)
    | .getfield i => Nat.beq len 3 && xcF nm.cls nm.name false i aux ps
    | .putfield i => Nat.beq len 3 && xcF nm.cls nm.name true i aux ps
    | .new i => Nat.beq len 3 && (match aux with
      | [c] => xcsr.elem c && xg (ps.getD 0 0) (.classLink nm.cls i (vwCl.getD c (RX0, TX0, 2)).1) && xg (ps.getD 1 0) (.instantiable (vwCl.getD c (RX0, TX0, 2)).1 2) && xg (ps.getD 2 0) (.initialized (vwCl.getD c (RX0, TX0, 2)).1)
      | _ => true)
    | .newarray _ => true
    | .athrow => true
    | .invokestatic i => Nat.beq len 3 && xcC nm.cls i aux ps
    | .invokevirtual i => Nat.beq len 3 && xcV nm.cls i aux ps
    | .invokespecial i => Nat.beq len 3 && xcS nm.cls i aux ps
    | _ => Nat.beq len 1)
def xchks (nm : MethodName) (bytes : ByteArray) (mL : Nat) : List xE → List (List Nat) → Bool
  | [], _ => true
  | e :: l, ps :: r => xchk nm bytes mL e ps && xchks nm bytes mL l r
  | e :: l, [] => xchk nm bytes mL e [] && xchks nm bytes mL l []
/-- the head of a method that is called -/
def xhead (m : xM) (i : Nat) : Bool := match m with
  | (nm, bytes, maxL, rk, _, rt, _, _) => xg i (.code nm bytes maxL rt) && plainName nm.cls && Nat.ble maxL 37 &&
    (match rk, rt with
      | 0, none => true
      | 1, some .int => true
      | 2, some .long => true
      | 4, some .boolean => true
      | 3, some (.object _) => true
      | _, _ => false)
theorem xchks_of {nm : MethodName} {bytes : ByteArray} {mL : Nat} : ∀ {l : List xE} {ps : List (List Nat)}, xchks nm bytes mL l ps = true → ∀ e ∈ l, ∃ q, xchk nm bytes mL e q = true
  | [], _, _, e, he => by cases he
  | a :: l, [], h, e, he => by
    unfold xchks at h
    rw [Bool.and_eq_true] at h
    rcases List.mem_cons.mp he with h1 | h1
    · subst h1; exact ⟨_, h.1⟩
    · exact xchks_of h.2 e h1
  | a :: l, q :: ps, h, e, he => by
    unfold xchks at h
    rw [Bool.and_eq_true] at h
    rcases List.mem_cons.mp he with h1 | h1
    · subst h1; exact ⟨_, h.1⟩
    · exact xchks_of h.2 e h1
theorem xchks_cut {nm : MethodName} {bytes : ByteArray} {mL : Nat} {l : List xE} (n : Nat) (h1 : ∀ e ∈ l.take n, ∃ q, xchk nm bytes mL e q = true) (h2 : ∀ e ∈ l.drop n, ∃ q, xchk nm bytes mL e q = true) : ∀ e ∈ l, ∃ q, xchk nm bytes mL e q = true := by
  intro e he
  rw [← List.take_append_drop n l] at he
  rcases List.mem_append.mp he with h | h
  · exact h1 e h
  · exact h2 e h
