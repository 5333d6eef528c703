/-! an abstract machine over logical addresses: what the bytecode does to a heap that is a function -/
abbrev AH : Type := Nat → va_E
abbrev AN : Type := Nat × Nat
abbrev AF : Type := Nat × List Value × List Value × AH × AN
abbrev AR : Type := Option Value × AH × AN
def put (h : AH) (a : Nat) (c : va_E) : AH := fun q => if q = a then c else h q
def am_J : va_E := .inr (99, [])
def ck (h : AH) (a ci : Nat) : Bool := match h a with
  | .inr (c, _) => c == ci
  | _ => false
def gF (h : AH) (a ci f : Nat) : Option Value := match h a with
  | .inr (c, fs) => if c = ci then fs[f]? else none
  | _ => none
def pF (h : AH) (a ci f : Nat) (v : Value) : Option AH := match h a with
  | .inr (c, fs) => if c = ci ∧ f < fs.length then some (put h a (.inr (c, fs.set f v))) else none
  | _ => none
def ib (i : Int32) (n : Nat) : Bool := decide (¬ (i < 0 ∨ n ≤ i.toNatClampNeg))
def rI (h : AH) (a : Nat) (i : Int32) (t : Nat) : Option Int32 := match h a with
  | .inl (c, n, .inl f) => if c = t ∧ ib i n = true then some (f i.toNatClampNeg) else none
  | _ => none
def wI (h : AH) (a : Nat) (i : Int32) (t : Nat) (x : Int32) : Option AH := match h a with
  | .inl (c, n, .inl f) => if c = t ∧ ib i n = true then some (put h a (.inl (c, n, .inl (upd f i.toNatClampNeg x)))) else none
  | _ => none
def rR (h : AH) (a : Nat) (i : Int32) : Option Nat := match h a with
  | .inl (c, n, .inr (.inr (.inr (.inr f)))) => if (3 ≤ c ∧ c < 7) ∧ ib i n = true then f i.toNatClampNeg else none
  | _ => none
def aC : Nat → Nat := fun c => match c with
  | 3 => 7
  | 4 => 2
  | 5 => 5
  | 6 => 6
  | _ => 98
def tcO : Nat → Nat := fun c => match c with
  | 7 => 3
  | 2 => 4
  | 5 => 5
  | 6 => 6
  | _ => 97
def wR (h : AH) (a : Nat) (i : Int32) (v : Nat) : Option AH := match h a with
  | .inl (c, n, .inr (.inr (.inr (.inr f)))) => if ((3 ≤ c ∧ c < 7) ∧ ib i n = true) ∧ ck h v (aC c) = true then some (put h a (.inl (c, n, .inr (.inr (.inr (.inr (va_up f i.toNatClampNeg (some v)))))))) else none
  | _ => none
def aL (h : AH) (a : Nat) : Option Int32 := match h a with
  | .inl (c, n, .inl _) => if c < 3 ∨ c = 20 then some (Int32.ofNat n) else none
  | .inl (c, n, .inr (.inr (.inr (.inr _)))) => if 3 ≤ c ∧ c < 7 then some (Int32.ofNat n) else none
  | _ => none
def cpA (h : AH) (a0 a : Nat) (sp dp n : Int32) : Option AH := match h a0, h a with
  | .inl (c0, n0, .inl f), .inl (c1, n1, .inl g) => if (c0 = 0 ∧ c1 = 0) ∧ (¬ sp < 0 ∧ ¬ dp < 0 ∧ ¬ n < 0) ∧ sp.toNatClampNeg + n.toNatClampNeg ≤ n0 ∧ dp.toNatClampNeg + n.toNatClampNeg ≤ n1 then some (put h a (.inl (c1, n1, .inl (va_cpy f g sp.toNatClampNeg dp.toNatClampNeg n.toNatClampNeg)))) else none
  | _, _ => none
def dfl (ci : Nat) : List Value := (List.range (cN ci)).map fun f => defaultValue (cY ci f)
def okv (ty : FieldType) (v : Value) : Bool := match ty, v with
  | .int, .int _ => true
  | .boolean, .int x => x == 0 || x == 1
  | .array _, .ref _ => true
  | .object _, .ref _ => true
  | _, _ => false
def mO (k : Nat) : Nat := match mT[k]? with
  | some t => t.2.2.2.2.1
  | none => 96
def mA (k : Nat) : Nat := match mT[k]? with
  | some t => t.2.2.2.2.2.1
  | none => 0
def mL (k : Nat) : Nat := match mT[k]? with
  | some t => t.2.2.1
  | none => 0
def mR (k : Nat) : Option FieldType := match mT[k]? with
  | some t => t.2.2.2.1
  | none => none
def mC (k : Nat) : ByteArray := match mT[k]? with
  | some t => t.2.1
  | none => .mk #[]
def mY (k : Nat) : MethodName := match mT[k]? with
  | some t => t.1
  | none => ⟨"", "", ""⟩
def ins (k pc : Nat) : Option (Instr × Nat) := match decode (mC k) pc with
  | .ok x => some x
  | _ => none
def lkF (o i : Nat) : Option (Nat × Nat) := (tF.find? fun e => e.1 == o && e.2.1 == i).map fun e => (e.2.2.1, e.2.2.2.1)
def lkC (o i : Nat) : Option Nat := (tC.find? fun e => e.1 == o && e.2.1 == i).map fun e => e.2.2.1
def lkK (o i : Nat) : Option Int32 := (tK.find? fun e => e.1 == o && e.2.1 == i).map fun e => e.2.2.1
def lkM (o i : Nat) : Option (Nat × Nat) := (tM.find? fun e => e.1 == o && e.2.1 == i).map fun e => (e.2.2.1, e.2.2.2.1)
def lkG (o i : Nat) : Option Nat := if o = 8 then (if i = 128 then some 1 else if i = 134 then some 2 else if i = 137 then some 3 else none) else none
def lkS (o i : Nat) : Option Nat := if o = 4 then (if i = 70 then some 4 else if i = 72 then some 5 else if i = 74 then some 6 else if i = 76 then some 7 else if i = 78 then some 8 else if i = 80 then some 9 else none) else none
def strT : Nat → List Nat := fun a => match a with
  | 4 => [116, 104, 105, 114, 115, 116]
  | 5 => [102, 101, 101]
  | 6 => [102, 105, 110, 101]
  | 7 => [104, 115, 116]
  | 8 => [100, 108]
  | 9 => [115, 108]
  | _ => []
def isS (a : Nat) : Bool := decide (4 ≤ a) && decide (a ≤ 9)
def jmp (pc : Nat) (off : Int) : Nat := ((pc : Int) + off).toNat
def jok (pc : Nat) (off : Int) : Bool := decide (0 ≤ (pc : Int) + off)
def to (pc : Nat) (ls st : List Value) (h : AH) (nx : AN) : Option (AF ⊕ AR) := some (.inl (pc, ls, st, h, nx))
def i1 (st : List Value) (g : Int32 → List Value → Option (AF ⊕ AR)) : Option (AF ⊕ AR) := match st with
  | .int x :: r => g x r
  | _ => none
def i2 (st : List Value) (g : Int32 → Int32 → List Value → Option (AF ⊕ AR)) : Option (AF ⊕ AR) := match st with
  | .int y :: .int x :: r => g x y r
  | _ => none
def l2 (st : List Value) (g : Int64 → Int64 → List Value → Option (AF ⊕ AR)) : Option (AF ⊕ AR) := match st with
  | .long y :: .long x :: r => g x y r
  | _ => none
def br (c : Prop) (d : Decidable c) (pc : Nat) (off : Int) (ls st : List Value) (h : AH) (nx : AN) : Option (AF ⊕ AR) := if jok pc off = true then (if c then to (jmp pc off) ls st h nx else to (pc + 3) ls st h nx) else none
def ld (ls : List Value) (i t : Nat) : Option Value := match ls[i]?, t with
  | some (.int x), 0 => some (.int x)
  | some (.ref x), 1 => some (.ref x)
  | some (.long x), 2 => some (.long x)
  | _, _ => none
def st1 (ls : List Value) (i : Nat) (v : Value) : Option (List Value) := match ls[i]? with
  | some (.retAddr _) => none
  | some _ => some (ls.set i v)
  | none => none
def st2 (ls : List Value) (i : Nat) (v : Value) : Option (List Value) := match ls[i]?, ls[i + 1]? with
  | some (.retAddr _), _ => none
  | _, some (.long _) => none
  | some _, some _ => some ((ls.set i v).set (i + 1) (.retAddr 0))
  | _, _ => none
def nR (ty : FieldType) (v : Int32) : Bool := decide (narrow ty (.int v) = .int v)
def refTy : FieldType → Bool
  | .object _ => true
  | .array _ => true
  | _ => false
def rtn (v : Option Value) (h : AH) (nx : AN) : Option (AF ⊕ AR) := some (.inr (v, h, nx))
def aft (pc : Nat) (ls rest : List Value) : Option AR → Option (AF ⊕ AR)
  | none => none
  | some (v, h, nx) => to pc ls (v.toList ++ rest) h nx
def swt (pc : Nat) (ls st : List Value) (h : AH) (nx : AN) (o : Option Int) : Option (AF ⊕ AR) := match o with
  | some off => if jok pc off = true then to (jmp pc off) ls st h nx else none
  | none => none
def srt (ps : Array (Int × Int)) : Bool := (ps.toList.zip (ps.toList.drop 1)).all (fun (a, next) => a.1 < next.1)
def kLen : Nat := 215
def kChr : Nat := 217
