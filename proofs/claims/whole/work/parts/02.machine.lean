/-! ===== THE SMALL MACHINE: values, heap, operations. Whole numbers are Ints that are cut to 32 (64) bits where they are looked at; a reference is a number: 0 null, below 10 what was there before, from 10 on what was made, in order ===== -/
abbrev mAV : Type := Int ⊕ (Int ⊕ Nat)
abbrev vi (x : Int) : mAV := .inl x
abbrev vl (x : Int) : mAV := .inr (.inl x)
abbrev vr (a : Nat) : mAV := .inr (.inr a)
abbrev mEnt : Type := Option ((Nat × List mAV) ⊕ ((Nat × Nat × (Nat → Int)) ⊕ (Nat × Nat × (Nat → Nat))))
/-- an object: its class, its fields; a row of numbers: its sort (0 int, 1 long), how many, which; a row of references -/
abbrev eo (c : Nat) (fs : List mAV) : mEnt := some (.inl (c, fs))
abbrev ep (t n : Nat) (f : Nat → Int) : mEnt := some (.inr (.inl (t, n, f)))
abbrev er (t n : Nat) (f : Nat → Nat) : mEnt := some (.inr (.inr (t, n, f)))
/-- how many cells (and 10), how many slots, what each cell is -/
abbrev mH : Type := Nat × Nat × (Nat → mEnt)
abbrev mL : Type := List (Option mAV)
abbrev mS : Type := List mAV
/-- on to an instruction; or a call: of which method, its arguments, where it comes back to; or the end -/
abbrev mOut : Type := (Nat × mL × mS × mH) ⊕ ((Nat × List mAV × Nat × mL × mS) ⊕ Option mAV)
abbrev mOp : Type := Nat → mL → mS → mH → Option mOut
def w32 (x : Int) : Int := (Int32.ofInt x).toInt
def w64 (x : Int) : Int := (Int64.ofInt x).toInt
def mup {α : Type} (f : Nat → α) (k : Nat) (x : α) : Nat → α := fun j => if j = k then x else f j
def mTag (v : mAV) : Nat := match v with
  | .inl _ => 0
  | .inr (.inl _) => 1
  | .inr (.inr _) => 2
def mW (v : mAV) : Nat := match v with
  | .inr (.inl _) => 2
  | _ => 1
def mWs (S : mS) : Nat := (S.map mW).sum
def mNotLong (o : Option (Option mAV)) : Bool := match o with
  | some (some v) => mTag v != 1
  | _ => true
/-- may a value of that sort be stored there -/
def mStOk (L : mL) (i t : Nat) : Bool := (if t = 1 then decide (i + 1 < L.length) else decide (i < L.length)) && (match i with | 0 => true | j + 1 => mNotLong L[j]?)
def mSet (L : mL) (i : Nat) (v : mAV) : mL := if mTag v = 1 then (L.set i (some v)).set (i + 1) none else L.set i (some v)
def opPush (v : mAV) (nx : Nat) : mOp := fun _ L S h => some (.inl (nx, L, v :: S, h))
def opLdI (i nx : Nat) : mOp := fun _ L S h => match L[i]? with
  | some (some (.inl x)) => some (.inl (nx, L, .inl x :: S, h))
  | _ => none
/-- a load that takes the number as it is held in 32 bits -/
def opLdN (i nx : Nat) : mOp := fun _ L S h => match L[i]? with
  | some (some (.inl x)) => some (.inl (nx, L, .inl (w32 x) :: S, h))
  | _ => none
def opLdL (i nx : Nat) : mOp := fun _ L S h => match L[i]? with
  | some (some (.inr (.inl x))) => some (.inl (nx, L, .inr (.inl x) :: S, h))
  | _ => none
def opLdR (i nx : Nat) : mOp := fun _ L S h => match L[i]? with
  | some (some (.inr (.inr (a + 1)))) => some (.inl (nx, L, .inr (.inr (a + 1)) :: S, h))
  | _ => none
def opStI (i nx : Nat) : mOp := fun _ L S h => match S with
  | .inl x :: S' => if mStOk L i 0 = true then some (.inl (nx, mSet L i (.inl x), S', h)) else none
  | _ => none
def opStL (i nx : Nat) : mOp := fun _ L S h => match S with
  | .inr (.inl x) :: S' => if mStOk L i 1 = true then some (.inl (nx, mSet L i (.inr (.inl x)), S', h)) else none
  | _ => none
def opStR (i nx : Nat) : mOp := fun _ L S h => match S with
  | .inr (.inr (a + 1)) :: S' => if mStOk L i 2 = true then some (.inl (nx, mSet L i (.inr (.inr (a + 1))), S', h)) else none
  | _ => none
def opInc (i : Nat) (c : Int) (nx : Nat) : mOp := fun _ L S h => match L[i]? with
  | some (some (.inl x)) => if mStOk L i 0 = true then some (.inl (nx, mSet L i (.inl (x + c)), S, h)) else none
  | _ => none
def opUn (f : Int → Int) (nx : Nat) : mOp := fun _ L S h => match S with
  | .inl x :: S' => some (.inl (nx, L, .inl (f x) :: S', h))
  | _ => none
def opBin (f : Int → Int → Int) (nx : Nat) : mOp := fun _ L S h => match S with
  | .inl y :: .inl x :: S' => some (.inl (nx, L, .inl (f x y) :: S', h))
  | _ => none
def opDiv (f : Int → Int → Int) (nx : Nat) : mOp := fun _ L S h => match S with
  | .inl y :: .inl x :: S' => if w32 y = 0 then none else some (.inl (nx, L, .inl (f x y) :: S', h))
  | _ => none
def opBinL (f : Int → Int → Int) (nx : Nat) : mOp := fun _ L S h => match S with
  | .inr (.inl y) :: .inr (.inl x) :: S' => some (.inl (nx, L, .inr (.inl (f x y)) :: S', h))
  | _ => none
def opShL (f : Int → Int → Int) (nx : Nat) : mOp := fun _ L S h => match S with
  | .inl y :: .inr (.inl x) :: S' => some (.inl (nx, L, .inr (.inl (f x y)) :: S', h))
  | _ => none
def opI2L (nx : Nat) : mOp := fun _ L S h => match S with
  | .inl x :: S' => some (.inl (nx, L, .inr (.inl (w32 x)) :: S', h))
  | _ => none
def opL2I (nx : Nat) : mOp := fun _ L S h => match S with
  | .inr (.inl x) :: S' => some (.inl (nx, L, .inl (w32 x) :: S', h))
  | _ => none
def mCmp (x y : Int) : Int := if w64 y < w64 x then 1 else if w64 x = w64 y then 0 else -1
def opCmpL (nx : Nat) : mOp := fun _ L S h => match S with
  | .inr (.inl y) :: .inr (.inl x) :: S' => some (.inl (nx, L, .inl (mCmp x y) :: S', h))
  | _ => none
def opDup (nx : Nat) : mOp := fun _ L S h => match S with
  | v :: S' => if mTag v = 1 then none else some (.inl (nx, L, v :: v :: S', h))
  | _ => none
def opDup2 (nx : Nat) : mOp := fun _ L S h => match S with
  | v :: u :: S' => if mTag v = 1 then none else if mTag u = 1 then none else some (.inl (nx, L, v :: u :: v :: u :: S', h))
  | _ => none
def opPop (nx : Nat) : mOp := fun _ L S h => match S with
  | v :: S' => if mTag v = 1 then none else some (.inl (nx, L, S', h))
  | _ => none
def opIf (c : Int → Bool) (tg nx : Nat) : mOp := fun _ L S h => match S with
  | .inl x :: S' => some (.inl (if c (w32 x) = true then tg else nx, L, S', h))
  | _ => none
def opIfc (c : Int → Int → Bool) (tg nx : Nat) : mOp := fun _ L S h => match S with
  | .inl y :: .inl x :: S' => some (.inl (if c (w32 x) (w32 y) = true then tg else nx, L, S', h))
  | _ => none
def opGo (tg : Nat) : mOp := fun _ L S h => some (.inl (tg, L, S, h))
def opSw (t : Int → Nat) : mOp := fun _ L S h => match S with
  | .inl x :: S' => some (.inl (t (w32 x), L, S', h))
  | _ => none
/-- field k of an object of one of the classes cs -/
def opGet (cs : List Nat) (k nx : Nat) : mOp := fun _ L S h => match S with
  | .inr (.inr a) :: S' => if a < 10 then none else match h.2.2 a with
    | some (.inl (c, fs)) => if cs.contains c = true then (match fs[k]? with
      | some v => some (.inl (nx, L, v :: S', h))
      | none => none) else none
    | _ => none
  | _ => none
/-- what may be stored in a field: 0 an int, 2 a reference, 4 a boolean, 1 a long -/
def mFit (t : Nat) (v : mAV) : Bool := match v with
  | .inl x => t == 0 || (t == 4 && (x == 0 || x == 1))
  | .inr (.inl _) => t == 1
  | .inr (.inr _) => t == 2
def opPut (cs : List Nat) (t k nx : Nat) : mOp := fun _ L S h => match S with
  | v :: .inr (.inr a) :: S' => if a < 10 then none else match h.2.2 a with
    | some (.inl (c, fs)) => if cs.contains c = true ∧ k < fs.length ∧ mFit t v = true then some (.inl (nx, L, S', (h.1, h.2.1, mup h.2.2 a (eo c (fs.set k v))))) else none
    | _ => none
  | _ => none
def opALd (t nx : Nat) : mOp := fun _ L S h => match S with
  | .inl i :: .inr (.inr a) :: S' => if a < 10 then none else match h.2.2 a with
    | some (.inr (.inl (t', n, f))) => if t' = t ∧ 0 ≤ w32 i ∧ w32 i < n then some (.inl (nx, L, (if t = 1 then .inr (.inl (f (w32 i).toNat)) else .inl (f (w32 i).toNat)) :: S', h)) else none
    | _ => none
  | _ => none
def opASt (nx : Nat) : mOp := fun _ L S h => match S with
  | .inl x :: .inl i :: .inr (.inr a) :: S' => if a < 10 then none else match h.2.2 a with
    | some (.inr (.inl (t', n, f))) => if t' = 0 ∧ 0 ≤ w32 i ∧ w32 i < n then some (.inl (nx, L, S', (h.1, h.2.1, mup h.2.2 a (ep 0 n (mup f (w32 i).toNat x))))) else none
    | _ => none
  | _ => none
def opAStL (nx : Nat) : mOp := fun _ L S h => match S with
  | .inr (.inl x) :: .inl i :: .inr (.inr a) :: S' => if a < 10 then none else match h.2.2 a with
    | some (.inr (.inl (t', n, f))) => if t' = 1 ∧ 0 ≤ w32 i ∧ w32 i < n then some (.inl (nx, L, S', (h.1, h.2.1, mup h.2.2 a (ep 1 n (mup f (w32 i).toNat x))))) else none
    | _ => none
  | _ => none
def opRLd (t nx : Nat) : mOp := fun _ L S h => match S with
  | .inl i :: .inr (.inr a) :: S' => if a < 10 then none else match h.2.2 a with
    | some (.inr (.inr (t', n, f))) => if t' = t ∧ 0 ≤ w32 i ∧ w32 i < n then some (.inl (nx, L, .inr (.inr (f (w32 i).toNat)) :: S', h)) else none
    | _ => none
  | _ => none
/-- a row of references of sort t; of which classes is what is stored -/
def opRSt (t : Nat) (cs : List Nat) (nx : Nat) : mOp := fun _ L S h => match S with
  | .inr (.inr v) :: .inl i :: .inr (.inr a) :: S' => if a < 10 then none else if v < 10 then none else match h.2.2 a, h.2.2 v with
    | some (.inr (.inr (t', n, f))), some (.inl (c, _)) => if t' = t ∧ 0 ≤ w32 i ∧ w32 i < n ∧ cs.contains c = true then some (.inl (nx, L, S', (h.1, h.2.1, mup h.2.2 a (er t n (mup f (w32 i).toNat v))))) else none
    | _, _ => none
  | _ => none
def opALen (nx : Nat) : mOp := fun _ L S h => match S with
  | .inr (.inr a) :: S' => if a < 10 then none else match h.2.2 a with
    | some (.inr (.inl (t, n, _))) => if t = 0 then some (.inl (nx, L, .inl (n : Int) :: S', h)) else none
    | _ => none
  | _ => none
def opNew (c : Nat) (fs : List mAV) (nx : Nat) : mOp := fun _ L S h => some (.inl (nx, L, .inr (.inr h.1) :: S, (h.1 + 1, h.2.1 + fs.length, mup h.2.2 h.1 (eo c fs))))
def opNewA (t nx : Nat) : mOp := fun _ L S h => match S with
  | .inl n :: S' => if 0 ≤ w32 n ∧ w32 n ≤ 1000 then some (.inl (nx, L, .inr (.inr h.1) :: S', (h.1 + 1, h.2.1 + (w32 n).toNat, mup h.2.2 h.1 (ep t (w32 n).toNat (fun _ => 0))))) else none
  | _ => none
def opNewR (t nx : Nat) : mOp := fun _ L S h => match S with
  | .inl n :: S' => if 0 ≤ w32 n ∧ w32 n ≤ 1000 then some (.inl (nx, L, .inr (.inr h.1) :: S', (h.1 + 1, h.2.1 + (w32 n).toNat, mup h.2.2 h.1 (er t (w32 n).toNat (fun _ => 0))))) else none
  | _ => none
def mcpy {α : Type} (f g : Nat → α) (sp dp n : Nat) : Nat → α := fun k => if dp ≤ k ∧ k < dp + n then f (sp + (k - dp)) else g k
/-- System.arraycopy between two rows of ints -/
def opCpy (nx : Nat) : mOp := fun d L S h => match d with
  | 0 => none
  | _ + 1 => match S with
    | .inl n :: .inl dp :: .inr (.inr b) :: .inl sp :: .inr (.inr a) :: S' => if a < 10 then none else if b < 10 then none else match h.2.2 a, h.2.2 b with
      | some (.inr (.inl (t, na, f))), some (.inr (.inl (u, nb, g))) =>
        if t = 0 ∧ u = 0 ∧ 0 ≤ w32 n ∧ 0 ≤ w32 sp ∧ 0 ≤ w32 dp ∧ (w32 sp).toNat + (w32 n).toNat ≤ na ∧ (w32 dp).toNat + (w32 n).toNat ≤ nb ∧ mWs S' ≤ 8 then
          some (.inl (nx, L, S', (h.1, h.2.1, mup h.2.2 b (ep 0 nb (mcpy f g (w32 sp).toNat (w32 dp).toNat (w32 n).toNat))))) else none
      | _, _ => none
    | _ => none
def m_max (x y : Int) : Int := if w32 x < w32 y then w32 y else w32 x
def m_min (x y : Int) : Int := if w32 y < w32 x then w32 y else w32 x
/-- Math.max, Math.min -/
def opM2 (f : Int → Int → Int) (nx : Nat) : mOp := fun d L S h => match d with
  | 0 => none
  | _ + 1 => match S with
    | .inl y :: .inl x :: S' => if mWs S' ≤ 8 then some (.inl (nx, L, .inl (f x y) :: S', h)) else none
    | _ => none
/-- Object's own constructor, that does nothing -/
def opObjI (nx : Nat) : mOp := fun d L S h => match d with
  | 0 => none
  | _ + 1 => match S with
    | .inr (.inr (a + 1)) :: S' => if mWs S' ≤ 8 then some (.inl (nx, L, S', h)) else none
    | _ => none
/-- a call: of a fixed method; na: how many values it takes (its receiver too) -/
def opCall (mt na nx : Nat) : mOp := fun _ L S _ => if na ≤ S.length ∧ mWs (S.drop na) ≤ 8 then some (.inr (.inl (mt, (S.take na).reverse, nx, L, S.drop na))) else none
def mTb : List (Nat × Nat) → Nat → Option Nat
  | [], _ => none
  | (c, m) :: r, x => if x = c then some m else mTb r x
/-- a call that the receiver's class decides: by a table of classes and methods -/
def opCallV (tb : List (Nat × Nat)) (na nx : Nat) : mOp := fun _ L S h => if na ≤ S.length ∧ mWs (S.drop na) ≤ 8 then (match (S.take na).reverse with
  | .inr (.inr a) :: as => if a < 10 then none else match h.2.2 a with
    | some (.inl (c, _)) => (match mTb tb c with
      | some mt => some (.inr (.inl (mt, .inr (.inr a) :: as, nx, L, S.drop na)))
      | none => none)
    | _ => none
  | _ => none) else none
/-- a call on one of the two texts -/
def opCallT (mt na nx : Nat) : mOp := fun _ L S _ => if na ≤ S.length ∧ mWs (S.drop na) ≤ 8 then (match (S.take na).reverse with
  | .inr (.inr a) :: as => if a = 2 ∨ a = 4 then some (.inr (.inl (mt, .inr (.inr a) :: as, nx, L, S.drop na))) else none
  | _ => none) else none
def opRetV : mOp := fun _ _ S _ => match S with
  | [] => some (.inr (.inr none))
  | _ => none
/-- b: is the answer a boolean -/
def opRetI (b : Bool) : mOp := fun _ _ S _ => match S with
  | [.inl x] => if b = false ∨ x = 0 ∨ x = 1 then some (.inr (.inr (some (.inl x)))) else none
  | _ => none
def opRetL : mOp := fun _ _ S _ => match S with
  | [.inr (.inl x)] => some (.inr (.inr (some (.inr (.inl x)))))
  | _ => none
def opRetR : mOp := fun _ _ S _ => match S with
  | [.inr (.inr (a + 1))] => some (.inr (.inr (some (.inr (.inr (a + 1))))))
  | _ => none
/-- the two texts (2, 4) and their bytes (3, 5) -/
def mByte (a : Nat) (i : Nat) : Int := if a = 3 then ([102, 100, 108, 115] : List Int).getD i 0 else ([110, 101, 114, 116] : List Int).getD i 0
def opStrV (nx : Nat) : mOp := fun _ L S h => match S with
  | .inr (.inr a) :: S' => if a = 2 ∨ a = 4 then some (.inl (nx, L, .inr (.inr (a + 1)) :: S', h)) else none
  | _ => none
def opStrC (nx : Nat) : mOp := fun _ L S h => match S with
  | .inr (.inr a) :: S' => if a = 2 ∨ a = 4 then some (.inl (nx, L, .inl 0 :: S', h)) else none
  | _ => none
def opStrL (nx : Nat) : mOp := fun _ L S h => match S with
  | .inr (.inr a) :: S' => if a = 3 ∨ a = 5 then some (.inl (nx, L, .inl 4 :: S', h)) else none
  | _ => none
def opStrB (nx : Nat) : mOp := fun _ L S h => match S with
  | .inl i :: .inr (.inr a) :: S' => if (a = 3 ∨ a = 5) ∧ 0 ≤ w32 i ∧ w32 i < 4 then some (.inl (nx, L, .inl (mByte a (w32 i).toNat) :: S', h)) else none
  | _ => none
/-- the script: only the law looks at it -/
def opScLen (nx : Nat) : mOp := fun _ L S h => match S with
  | .inr (.inr 1) :: S' => (match h.2.2 1 with
    | some (.inr (.inl (_, n, _))) => some (.inl (nx, L, .inl n :: S', h))
    | _ => none)
  | _ => none
def opScLd (nx : Nat) : mOp := fun _ L S h => match S with
  | .inl i :: .inr (.inr 1) :: S' => (match h.2.2 1 with
    | some (.inr (.inl (_, n, f))) => if 0 ≤ w32 i ∧ w32 i < n then some (.inl (nx, L, .inl (f (w32 i).toNat) :: S', h)) else none
    | _ => none)
  | _ => none
/-- the locals with which a method begins -/
def mArgs : List mAV → mL
  | [] => []
  | .inr (.inl x) :: vs => some (.inr (.inl x)) :: none :: mArgs vs
  | .inl x :: vs => some (.inl x) :: mArgs vs
  | .inr (.inr a) :: vs => some (.inr (.inr a)) :: mArgs vs
def mIn (n : Nat) (vs : List mAV) : mL := mArgs vs ++ List.replicate (n - (mArgs vs).length) none
def mBack (r : Option mAV) (S : mS) : mS := match r with
  | some v => v :: S
  | none => S
