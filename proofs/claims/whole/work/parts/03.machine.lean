/-! THE ABSTRACT MACHINE: values, states, one step, a run (own text; NOTES.md says what each is for) -/
abbrev xV : Type := Int32 ⊕ Int64 ⊕ (Nat × Option Nat)
abbrev xL : Type := List (Option xV)
/-- ints by region, number, place; longs; references (numbers in the region that the place leads to); the carriers' classes; cells and slots used -/
abbrev xS : Type := (Nat → Nat → Nat → Int32) × (Nat → Nat → Nat → Int64) × (Nat → Nat → Nat → Option Nat) × List Nat × Nat × Nat
abbrev xC : Type := Nat × Nat × xL × List xV × xS
abbrev xR : Type := (Int32 × Int64 × Option Nat) × xS
abbrev xD : Type := Prop
/-- a branch, whatever decides it -/
noncomputable def xite {α : Type} (p : Prop) (a b : α) : α := @ite α p (Classical.propDecidable p) a b
theorem xite_t {α : Type} {p : Prop} {a b : α} (h : p) : xite p a b = a := if_pos h
theorem xite_f {α : Type} {p : Prop} {a b : α} (h : ¬ p) : xite p a b = b := if_neg h
abbrev xB : Type := List (xD × Option xC) × Option xC
abbrev xO : Type := xR ⊕ (Option Nat × (Nat → xB)) ⊕ (Option Nat × (Nat → xC) × (xR → xC))
def rI (σ : xS) (r i k : Nat) : Int32 := σ.1 r i k
def rL (σ : xS) (r i k : Nat) : Int64 := σ.2.1 r i k
def rP (σ : xS) (r i k : Nat) : Option Nat := σ.2.2.1 r i k
def rC (σ : xS) : List Nat := σ.2.2.2.1
def wR (σ : xS) (r i : Nat) (f : Nat → Int32) : xS := (fun r' i' => if r' = r ∧ i' = i then f else σ.1 r' i', σ.2)
def wI (σ : xS) (r i k : Nat) (v : Int32) : xS := wR σ r i (fun k' => if k' = k then v else σ.1 r i k')
def wL (σ : xS) (r i k : Nat) (v : Int64) : xS := (σ.1, fun r' i' => if r' = r ∧ i' = i then (fun k' => if k' = k then v else σ.2.1 r i k') else σ.2.1 r' i', σ.2.2)
def wP (σ : xS) (r i k : Nat) (v : Option Nat) : xS := (σ.1, σ.2.1, fun r' i' => if r' = r ∧ i' = i then (fun k' => if k' = k then v else σ.2.2.1 r i k') else σ.2.2.1 r' i', σ.2.2.2)
def wC (σ : xS) (c : Nat) : xS := (fun r' i' => if r' = 16 ∧ i' = σ.2.2.2.1.length then (fun _ => 0) else σ.1 r' i', σ.2.1, σ.2.2.1, σ.2.2.2.1 ++ [c], σ.2.2.2.2.1 + 1, σ.2.2.2.2.2 + 2)
/-- a thing's extra cells (an exception) -/
def wN (σ : xS) (a b : Nat) : xS := (σ.1, σ.2.1, σ.2.2.1, σ.2.2.2.1, σ.2.2.2.2.1 + a, σ.2.2.2.2.2 + b)
def xget : xL → Nat → Option xV
  | [], _ => none
  | a :: _, 0 => a
  | _ :: l, n + 1 => xget l n
def xset : xL → Nat → Option xV → xL
  | [], _, _ => []
  | _ :: l, 0, v => v :: l
  | a :: l, n + 1, v => a :: xset l n v
/-- the same list, written out -/
def xforce {α : Type} : xL → (xL → α) → α
  | [], k => k []
  | a :: l, k => xforce l (fun r => k (a :: r))
theorem xforce_eq {α : Type} : ∀ (l : xL) (k : xL → α), xforce l k = k l
  | [], _ => rfl
  | a :: l, k => xforce_eq l (fun r => k (a :: r))
/-- a store at a place: a long that ended there is gone -/
def xclr (ls : xL) : Nat → xL
  | 0 => ls
  | j + 1 => match xget ls j with
    | some (.inr (.inl _)) => xset ls j none
    | _ => ls
def xput (ls : xL) (i : Nat) (v : xV) : xL := xset (xclr ls i) i (some v)
def xkill : List Nat → xL → xL
  | [], ls => ls
  | k :: ks, ls => xkill ks (xset ls k none)
def xkills : List (Nat × List Nat) → Nat → List Nat
  | [], _ => []
  | (p, ks) :: r, pc => bif Nat.beq p pc then ks else xkills r pc
def xcat (v : xV) : Nat := match v with
  | .inr (.inl _) => 2
  | _ => 1
def xwords : List xV → Nat
  | [] => 0
  | v :: r => xcat v + xwords r
def xpad : Nat → List xV → xL
  | n, [] => List.replicate n none
  | n, .inl x :: r => some (.inl x) :: xpad (n - 1) r
  | n, .inr (.inl x) :: r => some (.inr (.inl x)) :: none :: xpad (n - 2) r
  | n, .inr (.inr x) :: r => some (.inr (.inr x)) :: xpad (n - 1) r
/-- the top n of a stack, the deepest first -/
def xtake : Nat → List xV → List xV → Option (List xV × List xV)
  | 0, st, acc => some (acc, st)
  | _ + 1, [], _ => none
  | n + 1, v :: st, acc => xtake n st (v :: acc)
/-- a region: its tag (0 object, 1 ints, 2 longs, 3 references, 4 fixed references, 5 the script), class or length, how many there are, its slots (kind 0 int, 1 long, 2 fixed reference to the thing of the same number, 3 reference, 4 boolean, 5 fixed reference to the thing of this number; region; number) -/
def xreg (r : Nat) : Nat × Nat × Nat × List (Nat × Nat × Nat) := xReg.getD r (9, 0, 0, [])
def xslot (r k : Nat) : Nat × Nat × Nat := (xreg r).2.2.2.getD k (9, 0, 0)
/-- a truth value that is given back: its last bit -/
def xb1 (v : Int32) : Int32 := v &&& 1
/-- a written number: [v] is v, [0, v] is less than 0 -/
def xnum (aux : List Nat) (f : Int32 → Option xO) : Option xO := match aux with
  | [v] => f (nI v)
  | [_, v] => f (-nI v)
  | _ => none
/-- what toss answers -/
def xToss (σ : xS) (d : Int32) : Int32 :=
  if d < 0 ∨ 8 ≤ d then -1 else if rI σ 11 0 d.toNatClampNeg = 0 then -11 else if ¬ rI σ 11 0 d.toNatClampNeg = 1 then -12 else
  match rP σ 12 0 d.toNatClampNeg with
  | none => 0
  | some i => if (rC σ).getD i 0 = 1 ∨ rI σ 16 i 1 = 0 then -15 else if (rC σ).getD i 0 = 8 then 100 + rI σ 16 i 1 else if (rC σ).getD i 0 = 4 then 200 + 2 * (5 + 2 * rI σ 16 i 1) else rI σ 16 i 1
/-- what the law's element answers, and what it lays into out -/
def xElem (σ : xS) (d i : Int32) : Int32 × xS :=
  if d < 0 ∨ 8 ≤ d then (1, wN σ 1 8) else if ¬ rI σ 11 0 d.toNatClampNeg = 2 ∨ i < 0 ∨ rI σ 14 d.toNatClampNeg 2 ≤ i ∨ 100 ≤ i then (2, wN σ 1 8) else
  (0, wL (wN σ 1 8) 35 0 0 (rI σ 15 d.toNatClampNeg i.toNatClampNeg).toInt64)
def xgo (ks : List (Nat × List Nat)) (y pc : Nat) (ls : xL) (st : List xV) (σ : xS) : Option xC := match xkills ks pc with
  | [] => some (y, pc, ls, st, σ)
  | a :: r => xforce (xkill (a :: r) ls) fun l => some (y, pc, l, st, σ)
def xopt (o : Option Nat) (f : Nat → xB) : Option xO := some (.inr (.inl (o, f)))
def xjust (c : Option xC) : Option xO := xopt (some 0) (fun _ => ([], c))
def xguard (p : xD) (c : Option xC) : Option xO := xopt (some 0) (fun _ => ([(p, c)], none))
def xif (p : xD) (c d : Option xC) : Option xO := xopt (some 0) (fun _ => ([(p, c)], d))
def xcmp (c : ClassFile.Cond) (x y : Int32) (a b : Option xC) : Option xO := match c with
  | .eq => xif (x = y) a b
  | .ne => xif (¬ x = y) a b
  | .lt => xif (x < y) a b
  | .ge => xif (y ≤ x) a b
  | .gt => xif (y < x) a b
  | .le => xif (x ≤ y) a b
def xmeth (y : Nat) : xM := xMeth.getD y xM0
def xentry (y : Nat) (as : List xV) (σ : xS) : xC := (y, 0, xpad (xmeth y).2.2.1 as, [], σ)
def xpush (k r : Nat) (v : Int32 × Int64 × Option Nat) (st : List xV) : List xV := match k with
  | 0 => st
  | 1 => .inl v.1 :: st
  | 2 => .inr (.inl v.2.1) :: st
  | 4 => .inl v.1 :: st
  | _ => .inr (.inr (r, v.2.2)) :: st
/-- the cases of a switch: key, place, key, place .. -/
def xsw (ks : List (Nat × List Nat)) (y : Nat) (ls : xL) (st : List xV) (σ : xS) (x : Int32) : List Nat → List (xD × Option xC)
  | k :: t :: r => ((x = nI k), xgo ks y t ls st σ) :: xsw ks y ls st σ x r
  | _ => []
def xresume (ks : List (Nat × List Nat)) (y pc : Nat) (ls : xL) (k r : Nat) (st : List xV) : xR → xC := match xkills ks pc with
  | [] => fun q => (y, pc, ls, xpush k r q.1 st, q.2)
  | a :: ra => fun q => xforce (xkill (a :: ra) ls) fun l => (y, pc, l, xpush k r q.1 st, q.2)
/-- a call of the class's or the law's own methods -/
def xstatic (ks : List (Nat × List Nat)) (y pc : Nat) (aux : List Nat) (ls : xL) (st : List xV) (σ : xS) : Option xO :=
  match aux with
  | [0, y1, n, k, r, w] => match xtake n st [] with
    | some (as, st') => bif Nat.ble (xwords st') 16 && Nat.beq (xwords as) w then some (.inr (.inr (some 0, fun _ => xentry y1 as σ, xresume ks y (pc + 3) ls k r st'))) else none
    | none => none
  | [5] => match st with
    | .inl n :: .inl dp :: .inr (.inr (r1, some i1)) :: .inl sp :: .inr (.inr (r0, some i0)) :: st' =>
      bif Nat.beq (xreg r1).1 1 && Nat.beq (xreg r0).1 1 && Nat.ble (xwords st') 16 then
        xguard (¬ sp < 0 ∧ ¬ dp < 0 ∧ ¬ n < 0 ∧ sp.toNatClampNeg + n.toNatClampNeg ≤ (xreg r0).2.1 ∧ dp.toNatClampNeg + n.toNatClampNeg ≤ (xreg r1).2.1)
          (xgo ks y (pc + 3) ls st' (wR σ r1 i1 (va_cpy (σ.1 r0 i0) (σ.1 r1 i1) sp.toNatClampNeg dp.toNatClampNeg n.toNatClampNeg)))
      else none
    | _ => none
  | [7] => match st with
    | .inr (.inr (35, some 0)) :: .inl i :: .inl d :: .inr (.inr (0, some 0)) :: st' => bif Nat.ble (xwords st') 16 then xjust (xgo ks y (pc + 3) ls (.inl (xElem σ d i).1 :: st') (xElem σ d i).2) else none
    | _ => none
  | _ => none
def xvirtual (ks : List (Nat × List Nat)) (y pc : Nat) (aux : List Nat) (ls : xL) (st : List xV) (σ : xS) : Option xO :=
  match aux with
  | [1, y1, c, n, k, r, w] => match xtake n st [] with
    | some (as, .inr (.inr (ro, o)) :: st') => bif Nat.ble (xwords st') 16 && Nat.beq (xwords as) w && Nat.beq (xreg ro).2.1 c && Nat.beq (xreg ro).1 0 then
        some (.inr (.inr (o, fun i => xentry y1 (.inr (.inr (ro, some i)) :: as) σ, xresume ks y (pc + 3) ls k r st'))) else none
    | _ => none
  | [2, sel, n, k, r, w] => match xtake n st [] with
    | some (as, .inr (.inr (ro, o)) :: st') => bif Nat.ble (xwords st') 16 && Nat.beq (xwords as) w && Nat.beq ro 16 then
        some (.inr (.inr (o, fun i => xentry (xvt sel ((rC σ).getD i 0)) (.inr (.inr (16, some i)) :: as) σ, xresume ks y (pc + 3) ls k r st'))) else none
    | _ => none
  | [6] => match st with
    | .inl d :: .inr (.inr (0, some 0)) :: st' => bif Nat.ble (xwords st') 16 then xjust (xgo ks y (pc + 3) ls (.inl (xToss σ d) :: st') (wN σ 1 8)) else none
    | _ => none
  | _ => none
def xspecial (ks : List (Nat × List Nat)) (y pc : Nat) (aux : List Nat) (ls : xL) (st : List xV) (σ : xS) : Option xO :=
  match aux with
  | [3, y1, n, k, r, w] => match xtake n st [] with
    | some (as, .inr (.inr (ro, some i)) :: st') => bif Nat.ble (xwords st') 16 && Nat.beq (xwords as) w && Nat.beq ro 16 then
        some (.inr (.inr (some 0, fun _ => xentry y1 (.inr (.inr (16, some i)) :: as) σ, xresume ks y (pc + 3) ls k r st'))) else none
    | _ => none
  | [4] => match st with
    | .inr (.inr (ro, some i)) :: st' => bif Nat.ble (xwords st') 16 && Nat.beq ro 16 then xjust (xgo ks y (pc + 3) ls st' σ) else none
    | _ => none
  | _ => none
/-- reading and writing a place of an object -/
def xgetf (ks : List (Nat × List Nat)) (y pc : Nat) (aux : List Nat) (ls : xL) (st : List xV) (σ : xS) : Option xO :=
  match aux, st with
  | [c, k], .inr (.inr (r, o)) :: st' => bif Nat.beq (xreg r).1 0 && Nat.beq (xreg r).2.1 c then
      match xslot r k with
      | (0, _, _) => xopt o (fun i => ([], xgo ks y (pc + 3) ls (.inl (rI σ r i k) :: st') σ))
      | (4, _, _) => xopt o (fun i => ([], xgo ks y (pc + 3) ls (.inl (rI σ r i k) :: st') σ))
      | (1, _, _) => xopt o (fun i => ([], xgo ks y (pc + 3) ls (.inr (.inl (rL σ r i k)) :: st') σ))
      | (2, r', _) => xopt o (fun i => ([], xgo ks y (pc + 3) ls (.inr (.inr (r', some i)) :: st') σ))
      | (5, r', a) => xopt o (fun _ => ([], xgo ks y (pc + 3) ls (.inr (.inr (r', some a)) :: st') σ))
      | (3, r', _) => xopt o (fun i => ([], xgo ks y (pc + 3) ls (.inr (.inr (r', rP σ r i k)) :: st') σ))
      | _ => none
    else none
  | _, _ => none
def xputf (ks : List (Nat × List Nat)) (y pc : Nat) (aux : List Nat) (ls : xL) (st : List xV) (σ : xS) : Option xO :=
  match aux, st with
  | [c, k], v :: .inr (.inr (r, o)) :: st' => bif Nat.beq (xreg r).1 0 && Nat.beq (xreg r).2.1 c then
      match xslot r k, v with
      | (0, _, _), .inl x => xopt o (fun i => ([], xgo ks y (pc + 3) ls st' (wI σ r i k x)))
      | (4, _, _), .inl x => xopt o (fun i => ([((x = 0 ∨ x = 1), xgo ks y (pc + 3) ls st' (wI σ r i k x))], none))
      | (1, _, _), .inr (.inl x) => xopt o (fun i => ([], xgo ks y (pc + 3) ls st' (wL σ r i k x)))
      | (3, r', _), .inr (.inr (r1, x)) => bif Nat.beq r1 r' then xopt o (fun i => ([], xgo ks y (pc + 3) ls st' (wP σ r i k x))) else none
      | _, _ => none
    else none
  | _, _ => none
/-- conditional jumps, what a comparison leaves -/
def xcmpL (x y : Int64) : Int32 := lg_cmp x y
def xstep (rk rr : Nat) (ks : List (Nat × List Nat)) (y : Nat) (e : xE) (ls : xL) (st : List xV) (σ : xS) : Option xO :=
  match e with
  | (pc, ins, len, aux) =>
  match ins with
  | .iconst _ => xnum aux fun v => xjust (xgo ks y (pc + 1) ls (.inl v :: st) σ)
  | .bipush _ => xnum aux fun v => xjust (xgo ks y (pc + 2) ls (.inl v :: st) σ)
  | .sipush _ => xnum aux fun v => xjust (xgo ks y (pc + 3) ls (.inl v :: st) σ)
  | .lconst _ => match aux with | [v] => xjust (xgo ks y (pc + 1) ls (.inr (.inl (lN v)) :: st) σ) | _ => none
  | .ldc _ => match aux with | [v] => xjust (xgo ks y (pc + 2) ls (.inl (nI v) :: st) σ) | _ => none
  | .ldc_w _ => match aux with | [v] => xjust (xgo ks y (pc + 3) ls (.inl (nI v) :: st) σ) | _ => none
  | .ldc2_w _ => match aux with | [v] => xjust (xgo ks y (pc + 3) ls (.inr (.inl (lN v)) :: st) σ) | _ => none
  | .aconst_null => match aux with | [r] => xjust (xgo ks y (pc + 1) ls (.inr (.inr (r, none)) :: st) σ) | _ => none
  | .iload_n k => match xget ls k.val with | some (.inl x) => xjust (xgo ks y (pc + 1) ls (.inl x :: st) σ) | _ => none
  | .iload k => match xget ls k with | some (.inl x) => xjust (xgo ks y (pc + 2) ls (.inl x :: st) σ) | _ => none
  | .lload_n k => match xget ls k.val with | some (.inr (.inl x)) => xjust (xgo ks y (pc + 1) ls (.inr (.inl x) :: st) σ) | _ => none
  | .lload k => match xget ls k with | some (.inr (.inl x)) => xjust (xgo ks y (pc + 2) ls (.inr (.inl x) :: st) σ) | _ => none
  | .aload_n k => match xget ls k.val with | some (.inr (.inr x)) => xjust (xgo ks y (pc + 1) ls (.inr (.inr x) :: st) σ) | _ => none
  | .aload k => match xget ls k with | some (.inr (.inr x)) => xjust (xgo ks y (pc + 2) ls (.inr (.inr x) :: st) σ) | _ => none
  | .istore_n k => match st with | .inl x :: st' => xforce (xput ls k.val (.inl x)) fun l => xjust (xgo ks y (pc + 1) l st' σ) | _ => none
  | .istore k => match st with | .inl x :: st' => xforce (xput ls k (.inl x)) fun l => xjust (xgo ks y (pc + 2) l st' σ) | _ => none
  | .lstore_n k => match st with | .inr (.inl x) :: st' => xforce (xset (xput ls k.val (.inr (.inl x))) (k.val + 1) none) fun l => xjust (xgo ks y (pc + 1) l st' σ) | _ => none
  | .lstore k => match st with | .inr (.inl x) :: st' => xforce (xset (xput ls k (.inr (.inl x))) (k + 1) none) fun l => xjust (xgo ks y (pc + 2) l st' σ) | _ => none
  | .astore_n k => match st with | .inr (.inr x) :: st' => xforce (xput ls k.val (.inr (.inr x))) fun l => xjust (xgo ks y (pc + 1) l st' σ) | _ => none
  | .astore k => match st with | .inr (.inr x) :: st' => xforce (xput ls k (.inr (.inr x))) fun l => xjust (xgo ks y (pc + 2) l st' σ) | _ => none
  | .iinc k _ => match xget ls k with | some (.inl x) => xnum aux fun v => xforce (xput ls k (.inl (x + v))) fun l => xjust (xgo ks y (pc + 3) l st σ) | _ => none
  | .iadd => match st with | .inl b :: .inl a :: st' => xjust (xgo ks y (pc + 1) ls (.inl (a + b) :: st') σ) | _ => none
  | .isub => match st with | .inl b :: .inl a :: st' => xjust (xgo ks y (pc + 1) ls (.inl (a - b) :: st') σ) | _ => none
  | .imul => match st with | .inl b :: .inl a :: st' => xjust (xgo ks y (pc + 1) ls (.inl (a * b) :: st') σ) | _ => none
  | .idiv => match st with | .inl b :: .inl a :: st' => xguard (¬ b = 0) (xgo ks y (pc + 1) ls (.inl (a / b) :: st') σ) | _ => none
  | .irem => match st with | .inl b :: .inl a :: st' => xguard (¬ b = 0) (xgo ks y (pc + 1) ls (.inl (a - a / b * b) :: st') σ) | _ => none
  | .iand => match st with | .inl b :: .inl a :: st' => xjust (xgo ks y (pc + 1) ls (.inl (a &&& b) :: st') σ) | _ => none
  | .ior => match st with | .inl b :: .inl a :: st' => xjust (xgo ks y (pc + 1) ls (.inl (a ||| b) :: st') σ) | _ => none
  | .ixor => match st with | .inl b :: .inl a :: st' => xjust (xgo ks y (pc + 1) ls (.inl (a ^^^ b) :: st') σ) | _ => none
  | .ishl => match st with | .inl b :: .inl a :: st' => xjust (xgo ks y (pc + 1) ls (.inl (a <<< (b &&& 31)) :: st') σ) | _ => none
  | .ishr => match st with | .inl b :: .inl a :: st' => xjust (xgo ks y (pc + 1) ls (.inl (a >>> (b &&& 31)) :: st') σ) | _ => none
  | .iushr => match st with | .inl b :: .inl a :: st' => xjust (xgo ks y (pc + 1) ls (.inl (a.toUInt32 >>> (b.toUInt32 &&& Int32.toUInt32 31)).toInt32 :: st') σ) | _ => none
  | .ladd => match st with | .inr (.inl b) :: .inr (.inl a) :: st' => xjust (xgo ks y (pc + 1) ls (.inr (.inl (a + b)) :: st') σ) | _ => none
  | .lsub => match st with | .inr (.inl b) :: .inr (.inl a) :: st' => xjust (xgo ks y (pc + 1) ls (.inr (.inl (a - b)) :: st') σ) | _ => none
  | .land => match st with | .inr (.inl b) :: .inr (.inl a) :: st' => xjust (xgo ks y (pc + 1) ls (.inr (.inl (a &&& b)) :: st') σ) | _ => none
  | .lor => match st with | .inr (.inl b) :: .inr (.inl a) :: st' => xjust (xgo ks y (pc + 1) ls (.inr (.inl (a ||| b)) :: st') σ) | _ => none
  | .lxor => match st with | .inr (.inl b) :: .inr (.inl a) :: st' => xjust (xgo ks y (pc + 1) ls (.inr (.inl (a ^^^ b)) :: st') σ) | _ => none
  | .lshl => match st with | .inl b :: .inr (.inl a) :: st' => xjust (xgo ks y (pc + 1) ls (.inr (.inl (a <<< (b.toInt64 &&& 63))) :: st') σ) | _ => none
  | .lshr => match st with | .inl b :: .inr (.inl a) :: st' => xjust (xgo ks y (pc + 1) ls (.inr (.inl (a >>> (b.toInt64 &&& 63))) :: st') σ) | _ => none
  | .lushr => match st with | .inl b :: .inr (.inl a) :: st' => xjust (xgo ks y (pc + 1) ls (.inr (.inl (a.toUInt64 >>> (b.toInt64.toUInt64 &&& Int64.toUInt64 63)).toInt64) :: st') σ) | _ => none
  | .lcmp => match st with | .inr (.inl b) :: .inr (.inl a) :: st' => xjust (xgo ks y (pc + 1) ls (.inl (lg_cmp a b) :: st') σ) | _ => none
  | .i2l => match st with | .inl a :: st' => xjust (xgo ks y (pc + 1) ls (.inr (.inl a.toInt64) :: st') σ) | _ => none
  | .l2i => match st with | .inr (.inl a) :: st' => xjust (xgo ks y (pc + 1) ls (.inl a.toInt32 :: st') σ) | _ => none
  | .i2b => match st with | .inl a :: st' => xjust (xgo ks y (pc + 1) ls (.inl a.toInt8.toInt32 :: st') σ) | _ => none
  | .i2s => match st with | .inl a :: st' => xjust (xgo ks y (pc + 1) ls (.inl a.toInt16.toInt32 :: st') σ) | _ => none
  | .dup => match st with
    | .inl a :: st' => xjust (xgo ks y (pc + 1) ls (.inl a :: .inl a :: st') σ)
    | .inr (.inr a) :: st' => xjust (xgo ks y (pc + 1) ls (.inr (.inr a) :: .inr (.inr a) :: st') σ)
    | _ => none
  | .dup2 => match st with
    | .inl a :: .inr (.inr b) :: st' => xjust (xgo ks y (pc + 1) ls (.inl a :: .inr (.inr b) :: .inl a :: .inr (.inr b) :: st') σ)
    | _ => none
  | .goto _ => match aux with | [t] => xjust (xgo ks y t ls st σ) | _ => none
  | .ifCond c _ => match aux, st with | [t], .inl a :: st' => xcmp c a 0 (xgo ks y t ls st' σ) (xgo ks y (pc + 3) ls st' σ) | _, _ => none
  | .if_icmp c _ => match aux, st with | [t], .inl b :: .inl a :: st' => xcmp c a b (xgo ks y t ls st' σ) (xgo ks y (pc + 3) ls st' σ) | _, _ => none
  | .ifnull _ => match aux, st with | [t], .inr (.inr (_, o)) :: st' => xif (o = none) (xgo ks y t ls st' σ) (xgo ks y (pc + 3) ls st' σ) | _, _ => none
  | .ifnonnull _ => match aux, st with | [t], .inr (.inr (_, o)) :: st' => xif (o = none) (xgo ks y (pc + 3) ls st' σ) (xgo ks y t ls st' σ) | _, _ => none
  | .tableswitch _ _ _ _ => match aux, st with | t :: ts, .inl a :: st' => xopt (some 0) (fun _ => (xsw ks y ls st' σ a ts, xgo ks y t ls st' σ)) | _, _ => none
  | .lookupswitch _ _ => match aux, st with | t :: ts, .inl a :: st' => xopt (some 0) (fun _ => (xsw ks y ls st' σ a ts, xgo ks y t ls st' σ)) | _, _ => none
  | .getfield _ => xgetf ks y pc aux ls st σ
  | .putfield _ => xputf ks y pc aux ls st σ
  | .iaload => match st with
    | .inl a :: .inr (.inr (r, o)) :: st' => match xreg r with
      | (1, n, _) => xopt o (fun i => ([((¬ (a < 0 ∨ n ≤ a.toNatClampNeg)), xgo ks y (pc + 1) ls (.inl (rI σ r i a.toNatClampNeg) :: st') σ)], none))
      | (5, _) => xopt o (fun i => ([((¬ a < 0 ∧ a < rI σ r i 3072), xgo ks y (pc + 1) ls (.inl (rI σ r i a.toNatClampNeg) :: st') σ)], none))
      | _ => none
    | _ => none
  | .laload => match st with
    | .inl a :: .inr (.inr (r, o)) :: st' => match xreg r with
      | (2, n, _) => xopt o (fun i => ([((¬ (a < 0 ∨ n ≤ a.toNatClampNeg)), xgo ks y (pc + 1) ls (.inr (.inl (rL σ r i a.toNatClampNeg)) :: st') σ)], none))
      | _ => none
    | _ => none
  | .iastore => match st with
    | .inl v :: .inl a :: .inr (.inr (r, o)) :: st' => match xreg r with
      | (1, n, _) => xopt o (fun i => ([((¬ (a < 0 ∨ n ≤ a.toNatClampNeg)), xgo ks y (pc + 1) ls st' (wI σ r i a.toNatClampNeg v))], none))
      | _ => none
    | _ => none
  | .aaload => match st with
    | .inl a :: .inr (.inr (r, o)) :: st' => match xreg r with
      | (3, n, _, [(r', _)]) => xopt o (fun i => ([((¬ (a < 0 ∨ n ≤ a.toNatClampNeg)), xgo ks y (pc + 1) ls (.inr (.inr (r', rP σ r i a.toNatClampNeg)) :: st') σ)], none))
      | (4, n, _, [(r', _)]) => xopt o (fun _ => ([((¬ (a < 0 ∨ n ≤ a.toNatClampNeg)), xgo ks y (pc + 1) ls (.inr (.inr (r', some a.toNatClampNeg)) :: st') σ)], none))
      | _ => none
    | _ => none
  | .aastore => match st with
    | .inr (.inr (r1, v)) :: .inl a :: .inr (.inr (r, o)) :: st' => match xreg r with
      | (3, n, _, [(r', _)]) => bif Nat.beq r1 r' then xopt o (fun i => ([((¬ (a < 0 ∨ n ≤ a.toNatClampNeg)), xgo ks y (pc + 1) ls st' (wP σ r i a.toNatClampNeg v))], none)) else none
      | _ => none
    | _ => none
  | .arraylength => match st with
    | .inr (.inr (r, o)) :: st' => match xreg r with
      | (1, n, _) => xopt o (fun _ => ([], xgo ks y (pc + 1) ls (.inl (nI n) :: st') σ))
      | (5, _) => xopt o (fun i => ([], xgo ks y (pc + 1) ls (.inl (rI σ r i 3072) :: st') σ))
      | _ => none
    | _ => none
  | .new _ => match aux with | [c] => xjust (xgo ks y (pc + 3) ls (.inr (.inr (16, some (rC σ).length)) :: st) (wC σ c)) | _ => none
  | .invokestatic _ => xstatic ks y pc aux ls st σ
  | .invokevirtual _ => xvirtual ks y pc aux ls st σ
  | .invokespecial _ => xspecial ks y pc aux ls st σ
  | .ireturn => match st with | .inl a :: [] => bif Nat.beq rk 1 then some (.inl ((a, 0, none), σ)) else bif Nat.beq rk 4 then some (.inl ((xb1 a, 0, none), σ)) else none | _ => none
  | .lreturn => match st with | .inr (.inl a) :: [] => bif Nat.beq rk 2 then some (.inl ((0, a, none), σ)) else none | _ => none
  | .areturn => match st with | .inr (.inr (r, o)) :: [] => bif Nat.beq rk 3 && Nat.beq rr r then some (.inl ((0, 0, o), σ)) else none | _ => none
  | .return_ => match st with | [] => bif Nat.beq rk 0 then some (.inl ((0, 0, none), σ)) else none | _ => none
  | _ => none
/-- the entry of a method's code at a place, and what stands from there on -/
def xfrom : List xE → Nat → List xE
  | [], _ => []
  | e :: l, pc => bif Nat.beq e.1 pc then e :: l else xfrom l pc
def xat (c : xC) : Option xO := match xfrom (xmeth c.1).2.2.2.2.2.2.1 c.2.1 with
  | [] => none
  | e :: _ => xstep (xmeth c.1).2.2.2.1 (xmeth c.1).2.2.2.2.1 (xmeth c.1).2.2.2.2.2.2.2 c.1 e c.2.2.1 c.2.2.2.1 c.2.2.2.2
def xob (o : Option Nat) (f : Nat → Option xR) : Option xR := match o with
  | none => none
  | some i => f i
theorem xob_iff {o : Option Nat} {f : Nat → Option xR} {r : xR} : xob o f = some r ↔ ∃ i, o = some i ∧ f i = some r := by
  cases o with
  | none => exact ⟨fun h => (by cases h), fun ⟨i, h, _⟩ => (by cases h)⟩
  | some i => exact ⟨fun h => ⟨i, rfl, h⟩, fun ⟨j, h, g⟩ => by cases h; exact g⟩
noncomputable def xsel (f : xC → Option xR) : List (xD × Option xC) → Option xC → Option xR
  | [], none => none
  | [], some c => f c
  | (p, none) :: l, df => xite p none (xsel f l df)
  | (p, some c) :: l, df => xite p (f c) (xsel f l df)
noncomputable def xbody (f : Nat → xC → Option xR) (d : Nat) (c : xC) : Option xR := match xat c with
  | none => none
  | some (.inl r) => some r
  | some (.inr (.inl (o, g))) => xob o fun i => xsel (f d) (g i).1 (g i).2
  | some (.inr (.inr (o, g, k))) => match d with
    | 0 => none
    | d + 1 => xob o fun i => (f d (g i)).bind fun q => f (d + 1) (k q)
noncomputable def exD : Nat → Nat → xC → Option xR
  | 0, _, _ => none
  | n + 1, d, c => xbody (exD n) d c
/-! ===== what more fuel gives ===== -/
theorem xsel_mono {f g : xC → Option xR} (h : ∀ c r, f c = some r → g c = some r) : ∀ (l : List (xD × Option xC)) (df : Option xC) (r : xR), xsel f l df = some r → xsel g l df = some r
  | [], none, r, e => by cases e
  | [], some c, r, e => h c r e
  | (p, none) :: l, df, r, e => by
    unfold xsel at e ⊢
    by_cases hp : p
    · rw [xite_t hp] at e; cases e
    · rw [xite_f hp] at e ⊢
      exact xsel_mono h l df r e
  | (p, some c) :: l, df, r, e => by
    unfold xsel at e ⊢
    by_cases hp : p
    · rw [xite_t hp] at e ⊢
      exact h c r e
    · rw [xite_f hp] at e ⊢
      exact xsel_mono h l df r e
theorem xbody_mono {f g : Nat → xC → Option xR} (h : ∀ d c r, f d c = some r → g d c = some r) (d : Nat) (c : xC) (r : xR) (e : xbody f d c = some r) : xbody g d c = some r := by
  unfold xbody at e ⊢
  cases hx : xat c with
  | none => rw [hx] at e; cases e
  | some o =>
    rw [hx] at e
    rcases o with o | ⟨o, b⟩ | ⟨o, b, k⟩
    · exact e
    · obtain ⟨i, hi, e⟩ := xob_iff.mp e
      exact xob_iff.mpr ⟨i, hi, xsel_mono (h d) _ _ _ e⟩
    · cases d with
      | zero => cases e
      | succ d =>
        obtain ⟨i, hi, e⟩ := xob_iff.mp e
        obtain ⟨q, hq, e⟩ := Option.bind_eq_some_iff.mp e
        exact xob_iff.mpr ⟨i, hi, Option.bind_eq_some_iff.mpr ⟨q, h _ _ _ hq, h _ _ _ e⟩⟩
theorem exD_succ (n d : Nat) (c : xC) (r : xR) : ∀ (h : exD n d c = some r), exD (n + 1) d c = some r := by
  induction n generalizing d c r with
  | zero => intro h; cases h
  | succ n ih => intro h; exact xbody_mono (fun d c r e => ih d c r e) d c r h
theorem exD_le {n m d : Nat} {c : xC} {r : xR} (h : exD n d c = some r) (hm : n ≤ m) : exD m d c = some r := by
  induction hm with
  | refl => exact h
  | step _ ih => exact exD_succ _ _ _ _ ih
/-- a run: what enough fuel gives -/
noncomputable def run (d : Nat) (c : xC) : Option xR := @dite _ (∃ n, (exD n d c).isSome = true) (Classical.propDecidable _) (fun h => exD (Classical.choose h) d c) (fun _ => none)
theorem run_iff {d : Nat} {c : xC} {r : xR} : run d c = some r ↔ ∃ n, exD n d c = some r := by
  unfold run
  by_cases h : ∃ n, (exD n d c).isSome = true
  · rw [dif_pos h]
    refine ⟨fun e => ⟨_, e⟩, fun ⟨n, e⟩ => ?_⟩
    have h1 := Classical.choose_spec h
    obtain ⟨r1, h1⟩ := Option.isSome_iff_exists.mp h1
    have a := exD_le h1 (Nat.le_max_left (Classical.choose h) n)
    have b := exD_le e (Nat.le_max_right (Classical.choose h) n)
    rw [h1]
    exact a.symm.trans b
  · rw [dif_neg h]
    exact ⟨fun e => (by cases e), fun ⟨n, e⟩ => absurd ⟨n, by rw [e]; rfl⟩ h⟩
theorem run_eq (d : Nat) (c : xC) : run d c = xbody run d c := by
  have key : ∀ r, run d c = some r ↔ xbody run d c = some r := by
    intro r
    constructor
    · intro h
      obtain ⟨n, h⟩ := run_iff.mp h
      cases n with
      | zero => cases h
      | succ n => exact xbody_mono (fun d c r e => run_iff.mpr ⟨n, e⟩) d c r h
    · intro h
      unfold xbody at h
      cases hx : xat c with
      | none => rw [hx] at h; cases h
      | some o =>
        rw [hx] at h
        rcases o with o | ⟨o, b⟩ | ⟨o, b, k⟩
        · refine run_iff.mpr ⟨1, ?_⟩
          show xbody (exD 0) d c = some r
          unfold xbody
          rw [hx]
          exact h
        · obtain ⟨i, hi, h⟩ := xob_iff.mp h
          have hs : ∀ (l : List (xD × Option xC)) (df : Option xC), xsel (run d) l df = some r → ∃ n, xsel (exD n d) l df = some r := by
            intro l df
            induction l with
            | nil => cases df with
              | none => intro e; cases e
              | some c => intro e; exact run_iff.mp e
            | cons p l ih =>
              obtain ⟨p, c⟩ := p
              cases c with
              | none =>
                intro e
                unfold xsel at e
                by_cases hp : p
                · rw [xite_t hp] at e; cases e
                · rw [xite_f hp] at e
                  obtain ⟨n, e⟩ := ih e
                  exact ⟨n, by unfold xsel; rw [xite_f hp]; exact e⟩
              | some c =>
                intro e
                unfold xsel at e
                by_cases hp : p
                · rw [xite_t hp] at e
                  obtain ⟨n, e⟩ := run_iff.mp e
                  exact ⟨n, by unfold xsel; rw [xite_t hp]; exact e⟩
                · rw [xite_f hp] at e
                  obtain ⟨n, e⟩ := ih e
                  exact ⟨n, by unfold xsel; rw [xite_f hp]; exact e⟩
          obtain ⟨n, h⟩ := hs _ _ h
          refine run_iff.mpr ⟨n + 1, ?_⟩
          show xbody (exD n) d c = some r
          unfold xbody
          rw [hx]
          exact xob_iff.mpr ⟨i, hi, h⟩
        · cases d with
          | zero => cases h
          | succ d =>
            obtain ⟨i, hi, h⟩ := xob_iff.mp h
            obtain ⟨q, hq, h⟩ := Option.bind_eq_some_iff.mp h
            obtain ⟨n1, hq⟩ := run_iff.mp hq
            obtain ⟨n2, h⟩ := run_iff.mp h
            refine run_iff.mpr ⟨max n1 n2 + 1, ?_⟩
            show xbody (exD (max n1 n2)) (d + 1) c = some r
            unfold xbody
            rw [hx]
            exact xob_iff.mpr ⟨i, hi, Option.bind_eq_some_iff.mpr ⟨q, exD_le hq (Nat.le_max_left _ _), exD_le h (Nat.le_max_right _ _)⟩⟩
  cases h1 : run d c with
  | none =>
    cases h2 : xbody run d c with
    | none => rfl
    | some r => rw [(key r).mpr h2] at h1; cases h1
  | some r => exact ((key r).mp h1).symm
/-! ===== blocks: from one head to the next ones ===== -/
def xmem (n : Nat) : List Nat → Bool
  | [] => false
  | a :: l => bif Nat.beq a n then true else xmem n l
def xrem (code l : List xE) (pc : Nat) : List xE := match l with
  | [] => xfrom code pc
  | e :: r => bif Nat.beq e.1 pc then e :: r else xfrom code pc
/-- one block: instruction by instruction to the heads (stops), the calls and the answer -/
noncomputable def xblk (stops : List Nat) (d y rk rr : Nat) (ks : List (Nat × List Nat)) (code : List xE) : Nat → List xE → xL → List xV → xS → Option xR
  | 0, rem, ls, st, σ => match rem with
    | [] => none
    | e :: _ => run (d + 1) (y, e.1, ls, st, σ)
  | n + 1, rem, ls, st, σ => match rem with
    | [] => none
    | e :: l => match xstep rk rr ks y e ls st σ with
      | none => none
      | some (.inl r) => some r
      | some (.inr (.inl (o, g))) => xob o fun i => match g i with
        | (bs, df) => xsel (fun c => match c with
          | (y', pc', ls', st', σ') => bif xmem pc' stops || !Nat.beq y' y then run (d + 1) (y', pc', ls', st', σ') else xblk stops d y rk rr ks code n (xrem code l pc') ls' st' σ') bs df
      | some (.inr (.inr (o, g, k))) => xob o fun i => (run d (g i)).bind fun q => match k q with
        | (y', pc', ls', st', σ') => bif xmem pc' stops || !Nat.beq y' y then run (d + 1) (y', pc', ls', st', σ') else xblk stops d y rk rr ks code n (xrem code l pc') ls' st' σ'
theorem xfrom_hd : ∀ (l : List xE) (pc : Nat) (e : xE) (r : List xE), xfrom l pc = e :: r → e.1 = pc
  | [], _, _, _, h => by cases h
  | a :: l, pc, e, r, h => by
    unfold xfrom at h
    cases hb : Nat.beq a.1 pc with
    | true => rw [hb] at h; cases h; exact Nat.eq_of_beq_eq_true hb
    | false => rw [hb] at h; exact xfrom_hd l pc e r h

/-- the places of a code go up -/
def xup : List xE → Bool
  | [] => true
  | e :: l => (l.all fun a => Nat.blt e.1 a.1) && xup l
theorem xrem_eq : ∀ (code pre l : List xE) (pc : Nat), code = pre ++ l → xup code = true → xrem code l pc = xfrom code pc
  | code, pre, [], pc, _, _ => rfl
  | code, pre, e :: r, pc, h, hu => by
    unfold xrem
    dsimp only
    cases hb : Nat.beq e.1 pc with
    | false => rfl
    | true =>
      have hpc := Nat.eq_of_beq_eq_true hb
      subst h
      show e :: r = xfrom (pre ++ e :: r) pc
      clear hb
      induction pre with
      | nil =>
        show e :: r = bif Nat.beq e.1 pc then e :: r else xfrom r pc
        rw [hpc, Nat.beq_refl]
        rfl
      | cons a pre ih =>
        have hu2 : ((pre ++ e :: r).all fun b => Nat.blt a.1 b.1) = true ∧ xup (pre ++ e :: r) = true := by
          simpa [xup, Bool.and_eq_true] using hu
        have hlt : a.1 < e.1 := by
          have := List.all_eq_true.mp hu2.1 e (by simp)
          exact Nat.le_of_ble_eq_true this
        show e :: r = bif Nat.beq a.1 pc then a :: (pre ++ e :: r) else xfrom (pre ++ e :: r) pc
        have hne : Nat.beq a.1 pc = false := by
          cases hq : Nat.beq a.1 pc with
          | false => rfl
          | true => have := Nat.eq_of_beq_eq_true hq; omega
        rw [hne]
        exact ih hu2.2
theorem xfrom_suf : ∀ (code : List xE) (pc : Nat), ∃ pre, code = pre ++ xfrom code pc
  | [], _ => ⟨[], rfl⟩
  | e :: l, pc => by
    unfold xfrom
    cases hb : Nat.beq e.1 pc with
    | true => exact ⟨[], rfl⟩
    | false =>
      obtain ⟨pre, h⟩ := xfrom_suf l pc
      exact ⟨e :: pre, by show e :: l = e :: (pre ++ xfrom l pc); rw [← h]⟩
theorem xblk_run {y rk rr mL : Nat} {nm : MethodName} {bb : ByteArray} {rt : Option FieldType} {ks : List (Nat × List Nat)} {code : List xE} (hm : xmeth y = (nm, bb, mL, rk, rr, rt, code, ks)) (hu : xup code = true) (stops : List Nat) (d : Nat) : ∀ (n pc : Nat) (ls : xL) (st : List xV) (σ : xS), run (d + 1) (y, pc, ls, st, σ) = xblk stops d y rk rr ks code n (xfrom code pc) ls st σ := by
  intro n
  induction n with
  | zero =>
    intro pc ls st σ
    cases hx : xfrom code pc with
    | nil =>
      rw [run_eq]
      unfold xbody xat
      dsimp only
      rw [hm]
      dsimp only
      rw [hx]
      rfl
    | cons e r => rw [← xfrom_hd _ _ _ _ hx]; rfl
  | succ n ih =>
    intro pc ls st σ
    rw [run_eq]
    unfold xbody xat xblk
    dsimp only
    rw [hm]
    dsimp only
    obtain ⟨pre, hpre⟩ := xfrom_suf code pc
    cases hx : xfrom code pc with
    | nil => rfl
    | cons e r =>
      rw [hx] at hpre
      dsimp only
      have hrem : ∀ pc', xrem code r pc' = xfrom code pc' := fun pc' => xrem_eq code (pre ++ [e]) r pc' (by simpa using hpre) hu
      have key : (fun c : xC => match c with
          | (y', pc', ls', st', σ') => bif xmem pc' stops || !Nat.beq y' y then run (d + 1) (y', pc', ls', st', σ') else xblk stops d y rk rr ks code n (xrem code r pc') ls' st' σ') = run (d + 1) := by
        funext c
        obtain ⟨y', pc', ls', st', σ'⟩ := c
        dsimp only
        cases xmem pc' stops with
        | true => rfl
        | false =>
          cases hy : Nat.beq y' y with
          | false => rfl
          | true =>
            cases Nat.eq_of_beq_eq_true hy
            rw [hrem]
            exact (ih pc' ls' st' σ').symm
      cases hs : xstep rk rr ks y e ls st σ with
      | none => rfl
      | some o =>
        rcases o with o | ⟨o, b⟩ | ⟨o, b, k⟩
        · rfl
        · dsimp only
          rw [key]
        · dsimp only
          refine congrArg _ (funext fun i => congrArg _ (funext fun q => ?_))
          exact (congrFun key (k q)).symm
