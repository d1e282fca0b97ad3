/-! the abstract machine: ints are Int, references are numbers of cells, one step an instruction -/
abbrev AV : Type := Int ⊕ (Int ⊕ Option Nat)
abbrev LV : Type := List (Option AV)
abbrev MI : Type := Nat → Nat → Int
abbrev MR : Type := Nat → Nat → Option Nat
abbrev GX : Type := Launch × Nat × (Nat → Int)
def spB : List Int := [105, 102, 32, 32, 32, 32, 32, 97, 110, 100, 32, 32, 32, 32, 110, 111, 116, 32, 32, 32, 32, 103, 97, 105, 110, 32, 32, 32, 108, 111, 115, 101, 32, 32, 32, 115, 101, 116, 32, 32, 32, 32, 115, 116, 111, 112, 32, 32, 32, 111, 119, 110, 32, 32, 32, 32, 104, 101, 108, 112, 101, 114, 32, 115, 104, 121, 32, 32, 32, 32, 115, 105, 108, 101, 110, 116, 32, 119, 111, 114, 100, 115, 32, 32, 104, 111, 117, 114, 32, 32, 32, 100, 97, 121, 32, 32, 32, 32, 108, 111, 119, 32, 32, 32, 32, 97, 103, 101, 32, 32, 32, 32, 104, 97, 115, 32, 32, 32, 32, 114, 117, 110, 32, 32, 32, 32]
abbrev CD : Type := List (Nat × Instr)
theorem w32_ex : ∃ f : Int → Int, ∀ x : Int, f x = (Int32.ofInt x).toInt := ⟨fun x => (Int32.ofInt x).toInt, fun _ => rfl⟩
noncomputable def w32 : Int → Int := Classical.choose w32_ex
theorem w32_eq (x : Int) : w32 x = (Int32.ofInt x).toInt := Classical.choose_spec w32_ex x
theorem w8_ex : ∃ f : Int → Int, ∀ x : Int, f x = (Int32.ofInt x).toInt8.toInt32.toInt := ⟨fun x => (Int32.ofInt x).toInt8.toInt32.toInt, fun _ => rfl⟩
noncomputable def w8 : Int → Int := Classical.choose w8_ex
theorem w8_eq (x : Int) : w8 x = (Int32.ofInt x).toInt8.toInt32.toInt := Classical.choose_spec w8_ex x
theorem and32_ex : ∃ f : Int → Int → Int, ∀ x y : Int, f x y = (Int32.ofInt x &&& Int32.ofInt y).toInt := ⟨fun x y => (Int32.ofInt x &&& Int32.ofInt y).toInt, fun _ _ => rfl⟩
noncomputable def and32 : Int → Int → Int := Classical.choose and32_ex
theorem and32_eq (x y : Int) : and32 x y = (Int32.ofInt x &&& Int32.ofInt y).toInt := Classical.choose_spec and32_ex x y
theorem or32_ex : ∃ f : Int → Int → Int, ∀ x y : Int, f x y = (Int32.ofInt x ||| Int32.ofInt y).toInt := ⟨fun x y => (Int32.ofInt x ||| Int32.ofInt y).toInt, fun _ _ => rfl⟩
noncomputable def or32 : Int → Int → Int := Classical.choose or32_ex
theorem or32_eq (x y : Int) : or32 x y = (Int32.ofInt x ||| Int32.ofInt y).toInt := Classical.choose_spec or32_ex x y
theorem xor32_ex : ∃ f : Int → Int → Int, ∀ x y : Int, f x y = (Int32.ofInt x ^^^ Int32.ofInt y).toInt := ⟨fun x y => (Int32.ofInt x ^^^ Int32.ofInt y).toInt, fun _ _ => rfl⟩
noncomputable def xor32 : Int → Int → Int := Classical.choose xor32_ex
theorem xor32_eq (x y : Int) : xor32 x y = (Int32.ofInt x ^^^ Int32.ofInt y).toInt := Classical.choose_spec xor32_ex x y
theorem shl32_ex : ∃ f : Int → Int → Int, ∀ x y : Int, f x y = (Int32.ofInt x <<< (Int32.ofInt y &&& 31)).toInt := ⟨fun x y => (Int32.ofInt x <<< (Int32.ofInt y &&& 31)).toInt, fun _ _ => rfl⟩
noncomputable def shl32 : Int → Int → Int := Classical.choose shl32_ex
theorem shl32_eq (x y : Int) : shl32 x y = (Int32.ofInt x <<< (Int32.ofInt y &&& 31)).toInt := Classical.choose_spec shl32_ex x y
theorem shr32_ex : ∃ f : Int → Int → Int, ∀ x y : Int, f x y = (Int32.ofInt x >>> (Int32.ofInt y &&& 31)).toInt := ⟨fun x y => (Int32.ofInt x >>> (Int32.ofInt y &&& 31)).toInt, fun _ _ => rfl⟩
noncomputable def shr32 : Int → Int → Int := Classical.choose shr32_ex
theorem shr32_eq (x y : Int) : shr32 x y = (Int32.ofInt x >>> (Int32.ofInt y &&& 31)).toInt := Classical.choose_spec shr32_ex x y
theorem ushr32_ex : ∃ f : Int → Int → Int, ∀ x y : Int, f x y = ((Int32.ofInt x).toUInt32 >>> ((Int32.ofInt y).toUInt32 &&& Int32.toUInt32 31)).toInt32.toInt := ⟨fun x y => ((Int32.ofInt x).toUInt32 >>> ((Int32.ofInt y).toUInt32 &&& Int32.toUInt32 31)).toInt32.toInt, fun _ _ => rfl⟩
noncomputable def ushr32 : Int → Int → Int := Classical.choose ushr32_ex
theorem ushr32_eq (x y : Int) : ushr32 x y = ((Int32.ofInt x).toUInt32 >>> ((Int32.ofInt y).toUInt32 &&& Int32.toUInt32 31)).toInt32.toInt := Classical.choose_spec ushr32_ex x y
theorem and64_ex : ∃ f : Int → Int → Int, ∀ x y : Int, f x y = (Int64.ofInt x &&& Int64.ofInt y).toInt := ⟨fun x y => (Int64.ofInt x &&& Int64.ofInt y).toInt, fun _ _ => rfl⟩
noncomputable def and64 : Int → Int → Int := Classical.choose and64_ex
theorem and64_eq (x y : Int) : and64 x y = (Int64.ofInt x &&& Int64.ofInt y).toInt := Classical.choose_spec and64_ex x y
theorem or64_ex : ∃ f : Int → Int → Int, ∀ x y : Int, f x y = (Int64.ofInt x ||| Int64.ofInt y).toInt := ⟨fun x y => (Int64.ofInt x ||| Int64.ofInt y).toInt, fun _ _ => rfl⟩
noncomputable def or64 : Int → Int → Int := Classical.choose or64_ex
theorem or64_eq (x y : Int) : or64 x y = (Int64.ofInt x ||| Int64.ofInt y).toInt := Classical.choose_spec or64_ex x y
theorem shl64_ex : ∃ f : Int → Int → Int, ∀ x y : Int, f x y = (Int64.ofInt x <<< ((Int32.ofInt y).toInt64 &&& 63)).toInt := ⟨fun x y => (Int64.ofInt x <<< ((Int32.ofInt y).toInt64 &&& 63)).toInt, fun _ _ => rfl⟩
noncomputable def shl64 : Int → Int → Int := Classical.choose shl64_ex
theorem shl64_eq (x y : Int) : shl64 x y = (Int64.ofInt x <<< ((Int32.ofInt y).toInt64 &&& 63)).toInt := Classical.choose_spec shl64_ex x y
theorem ushr64_ex : ∃ f : Int → Int → Int, ∀ x y : Int, f x y = ((Int64.ofInt x).toUInt64 >>> ((Int32.ofInt y).toInt64.toUInt64 &&& Int64.toUInt64 63)).toInt64.toInt := ⟨fun x y => ((Int64.ofInt x).toUInt64 >>> ((Int32.ofInt y).toInt64.toUInt64 &&& Int64.toUInt64 63)).toInt64.toInt, fun _ _ => rfl⟩
noncomputable def ushr64 : Int → Int → Int := Classical.choose ushr64_ex
theorem ushr64_eq (x y : Int) : ushr64 x y = ((Int64.ofInt x).toUInt64 >>> ((Int32.ofInt y).toInt64.toUInt64 &&& Int64.toUInt64 63)).toInt64.toInt := Classical.choose_spec ushr64_ex x y
/-- child i of camp j -/
def cid (j k : Nat) : Nat := 1000 + (4 * k + j)
/-- the kind and size of a cell: 0 an object of a class, 1 int[], 2 byte[], 3 boolean[], 4 long[], 5 Child[], 6 Camp[], 7 the script, 9 nothing -/
def shG : Nat → Nat × Nat
  | 0 => (0, 0)
  | 1 => (5, 24)
  | 2 => (1, 6)
  | 3 => (1, 6)
  | 4 => (1, 192)
  | 5 => (0, 2)
  | 6 => (2, 500)
  | 7 => (1, 14)
  | 8 => (1, 16)
  | 9 => (1, 16)
  | 10 => (1, 16)
  | 11 => (1, 64)
  | 12 => (1, 64)
  | 13 => (1, 64)
  | 14 => (1, 64)
  | _ => (9, 0)
def shT : List (Nat × Nat) := [(0, 10), (6, 3), (0, 6), (0, 4), (0, 8), (0, 7), (0, 9), (0, 3), (0, 5), (1, 24), (1, 576), (1, 144), (1, 6), (1, 6), (1, 128), (1, 128), (1, 24), (1, 175), (1, 150), (0, 2), (1, 16), (1, 16), (1, 16), (1, 64), (1, 64), (1, 64), (1, 64), (1, 14), (1, 14), (4, 896), (1, 6400), (1, 16), (1, 256), (1, 256), (9, 0), (9, 0), (9, 0), (9, 0), (9, 0), (9, 0), (9, 0), (9, 0), (9, 0), (9, 0), (0, 11), (2, 2000), (1, 4), (1, 4), (1, 4), (1, 4), (1, 96), (1, 96), (3, 96), (1, 96), (1, 96), (1, 96), (1, 96), (1, 96), (1, 96), (1, 96), (1, 96), (3, 96), (1, 96), (1, 4), (1, 96), (1, 4), (1, 24), (1, 4), (1, 4), (1, 4), (1, 64), (1, 256), (1, 256), (1, 256), (1, 64), (1, 64), (1, 4), (1, 24), (1, 4), (1, 56), (1, 4), (1, 768), (3, 96), (1, 96), (1, 96), (1, 96), (1, 24), (1, 9), (1, 24), (1, 175), (1, 6), (1, 17), (1, 64), (1, 64), (1, 64), (1, 17), (1, 17), (1, 11), (3, 61440), (1, 6400), (1, 16), (3, 3)]
def shp (o : Nat) : Nat × Nat :=
  if o < 256 then shG (o % 64) else if o < 996 then shT.getD (o - 256) (9, 0) else if o < 1000 then (if o = 999 then (7, 0) else (9, 0)) else (0, 1)
def nth : LV → Nat → Option AV
  | [], _ => none
  | a :: _, 0 => a
  | _ :: l, k + 1 => nth l k
def setl : LV → Nat → Option AV → LV
  | [], _, _ => []
  | _ :: l, 0, v => v :: l
  | a :: l, k + 1, v => a :: setl l k v
def stl (ls : LV) (k : Nat) (v : AV) (F : LV → Prop) : Prop := k < ls.length ∧ match nth ls (k - 1) with
  | some (.inr (.inl _)) => False
  | _ => F (setl ls k (some v))
def rcv (k : Nat) (a : List AV) : Prop := if k = 0 then True else match a with
  | .inr (.inr (some o)) :: _ => if k = 99 then True else shp o = (0, k - 1)
  | _ => False
def upI (I : MI) (o k : Nat) (v : Int) : MI := fun o' => if o' = o then fun k' => if k' = k then v else I o k' else I o'
def upR (R : MR) (o k : Nat) (v : Option Nat) : MR := fun o' => if o' = o then fun k' => if k' = k then v else R o k' else R o'
def cpI (I : MI) (o p sp dp n : Nat) : MI := fun o' => if o' = p then fun k => if dp ≤ k ∧ k < dp + n then I o (sp + (k - dp)) else I p k else I o'
def gI (ls : LV) (k : Nat) (F : Int → Prop) : Prop := match nth ls k with
  | some (.inl v) => F v
  | _ => False
def gL (ls : LV) (k : Nat) (F : Int → Prop) : Prop := match nth ls k with
  | some (.inr (.inl v)) => F v
  | _ => False
def gR (ls : LV) (k : Nat) (F : Option Nat → Prop) : Prop := match nth ls k with
  | some (.inr (.inr v)) => F v
  | _ => False
def p1 (st : List AV) (F : Int → List AV → Prop) : Prop := match st with
  | .inl x :: t => F x t
  | _ => False
def p2 (st : List AV) (F : Int → Int → List AV → Prop) : Prop := match st with
  | .inl y :: .inl x :: t => F x y t
  | _ => False
def p2L (st : List AV) (F : Int → Int → List AV → Prop) : Prop := match st with
  | .inr (.inl y) :: .inr (.inl x) :: t => F x y t
  | _ => False
def pLI (st : List AV) (F : Int → Int → List AV → Prop) : Prop := match st with
  | .inl y :: .inr (.inl x) :: t => F x y t
  | _ => False
def pR (st : List AV) (F : Nat → List AV → Prop) : Prop := match st with
  | .inr (.inr (some o)) :: t => F o t
  | _ => False
def pN (st : List AV) (F : Option Nat → List AV → Prop) : Prop := match st with
  | .inr (.inr r) :: t => F r t
  | _ => False
def pIR (st : List AV) (F : Int → Nat → List AV → Prop) : Prop := match st with
  | .inl j :: .inr (.inr (some o)) :: t => F j o t
  | _ => False
def pNR (st : List AV) (F : Option Nat → Nat → List AV → Prop) : Prop := match st with
  | .inr (.inr r) :: .inr (.inr (some o)) :: t => F r o t
  | _ => False
def pIIR (st : List AV) (F : Int → Int → Nat → List AV → Prop) : Prop := match st with
  | .inl v :: .inl j :: .inr (.inr (some o)) :: t => F v j o t
  | _ => False
def pLIR (st : List AV) (F : Int → Int → Nat → List AV → Prop) : Prop := match st with
  | .inr (.inl v) :: .inl j :: .inr (.inr (some o)) :: t => F v j o t
  | _ => False
def pRIR (st : List AV) (F : Nat → Int → Nat → List AV → Prop) : Prop := match st with
  | .inr (.inr (some q)) :: .inl j :: .inr (.inr (some o)) :: t => F q j o t
  | _ => False
def pCp (st : List AV) (F : Int → Int → Nat → Int → Nat → List AV → Prop) : Prop := match st with
  | .inl n :: .inl dp :: .inr (.inr (some p)) :: .inl sp :: .inr (.inr (some o)) :: t => F n dp p sp o t
  | _ => False
def pD (st : List AV) (F : AV → Prop) : Prop := match st with
  | .inl x :: _ => F (.inl x)
  | .inr (.inr r) :: _ => F (.inr (.inr r))
  | _ => False
def pDD (st : List AV) (F : AV → AV → Prop) : Prop := match st with
  | .inl x :: .inr (.inr r) :: _ => F (.inl x) (.inr (.inr r))
  | .inl x :: .inl y :: _ => F (.inl x) (.inl y)
  | _ => False
def pI1 (st : List AV) (F : Int → Prop) : Prop := match st with
  | [.inl x] => F x
  | _ => False
def sh4 (t : List AV) (F : Prop) : Prop := match t with
  | _ :: _ :: _ :: _ :: _ :: _ => False
  | _ => F
def spl : Nat → List AV → List AV → (List AV → List AV → Prop) → Prop
  | 0, a, st, F => F a st
  | n + 1, a, v :: st, F => spl n (v :: a) st F
  | _ + 1, _, [], _ => False
def cnd (c : ClassFile.Cond) (x y : Int) : Prop := match c with
  | .eq => x = y
  | .ne => x ≠ y
  | .lt => x < y
  | .ge => y ≤ x
  | .gt => y < x
  | .le => x ≤ y
def ncd (c : ClassFile.Cond) (x y : Int) : Prop := match c with
  | .eq => x ≠ y
  | .ne => x = y
  | .lt => y ≤ x
  | .ge => x < y
  | .gt => x ≤ y
  | .le => y < x
def tsw (J : Nat → Prop) (x : Int) : Int → List Int → Prop
  | _, [] => True
  | lo, b :: bs => (x = lo → J b.toNat) ∧ tsw J x (lo + 1) bs
def ldA (sh : Nat × Nat) (a b : Nat) (j : Int) (F : Prop) : Prop := (sh.1 = a ∨ sh.1 = b) ∧ 0 ≤ j ∧ j < sh.2 ∧ F
def stB (sh : Nat × Nat) (v j : Int) (F : Int → Prop) : Prop := 0 ≤ j ∧ j < sh.2 ∧ match sh.1 with
  | 2 => F (w8 v)
  | 3 => F (v % 2)
  | _ => False
def ldS (g : GX) (I : MI) (o : Nat) (j : Int) (F : Int → Prop) : Prop := match (shp o).1 with
  | 1 => 0 ≤ j ∧ j < (shp o).2 ∧ F (I o j.toNat)
  | 7 => 0 ≤ j ∧ j < g.2.1 ∧ F (g.2.2 j.toNat)
  | _ => False
def lenS (g : GX) (o : Nat) (F : Int → Prop) : Prop := match (shp o).1 with
  | 7 => F g.2.1
  | 0 => False
  | 9 => False
  | _ => F (shp o).2
def atK : ArrayType → Nat
  | .int => 1
  | .byte => 2
  | .boolean => 3
  | .long => 4
  | _ => 8
def newK (a b : Nat) (nx : List Nat) (F : Nat → List Nat → Prop) : Prop := match nx with
  | [] => False
  | q :: t => shp q = (a, b) ∧ F q t
abbrev CLT : Type := Nat → List AV → MI → MR → List Nat → (Option AV → MI → MR → Prop) → Prop
def cI (CL : CLT) (y : Nat) (args : List AV) (I : MI) (R : MR) (nx : List Nat) (F : Int → MI → MR → Prop) : Prop := CL y args I R nx (fun r I R => ∃ v, r = some (.inl v) ∧ F v I R)
def cV (CL : CLT) (y : Nat) (args : List AV) (I : MI) (R : MR) (nx : List Nat) (F : MI → MR → Prop) : Prop := CL y args I R nx (fun r I R => r = none ∧ F I R)
abbrev KT : Type := LV → List AV → MI → MR → List Nat → Prop
/-- one instruction: J goes on at a block, K behind it -/
def xi (g : GX) (CL : CLT) (Q : Option AV → MI → MR → Prop) (rt : Nat) (J : Nat → KT) (K : KT) (i : Instr) (ls : LV) (st : List AV) (I : MI) (R : MR) (nx : List Nat) : Prop := match i with
  | .iload k => gI ls k (fun v => K ls (.inl v :: st) I R nx)
  | .lload k => gL ls k (fun v => K ls (.inr (.inl v) :: st) I R nx)
  | .aload k => gR ls k (fun v => K ls (.inr (.inr v) :: st) I R nx)
  | .istore k => p1 st (fun v t => stl ls k (.inl v) (fun l => K l t I R nx))
  | .astore k => pN st (fun v t => stl ls k (.inr (.inr v)) (fun l => K l t I R nx))
  | .iinc k c => gI ls k (fun v => stl ls k (.inl (w32 (v + c))) (fun l => K l st I R nx))
  | .iconst v => K ls (.inl v :: st) I R nx
  | .ldc2_w v => K ls (.inr (.inl (v : Int)) :: st) I R nx
  | .iadd => p2 st (fun x y t => K ls (.inl (w32 (x + y)) :: t) I R nx)
  | .isub => p2 st (fun x y t => K ls (.inl (w32 (x - y)) :: t) I R nx)
  | .imul => p2 st (fun x y t => K ls (.inl (w32 (x * y)) :: t) I R nx)
  | .idiv => p2 st (fun x y t => y ≠ 0 ∧ K ls (.inl (w32 (x.tdiv y)) :: t) I R nx)
  | .irem => p2 st (fun x y t => y ≠ 0 ∧ K ls (.inl (w32 (x.tmod y)) :: t) I R nx)
  | .ineg => p1 st (fun x t => K ls (.inl (w32 (-x)) :: t) I R nx)
  | .iand => p2 st (fun x y t => K ls (.inl (and32 x y) :: t) I R nx)
  | .ior => p2 st (fun x y t => K ls (.inl (or32 x y) :: t) I R nx)
  | .ixor => p2 st (fun x y t => K ls (.inl (xor32 x y) :: t) I R nx)
  | .ishl => p2 st (fun x y t => K ls (.inl (shl32 x y) :: t) I R nx)
  | .ishr => p2 st (fun x y t => K ls (.inl (shr32 x y) :: t) I R nx)
  | .iushr => p2 st (fun x y t => K ls (.inl (ushr32 x y) :: t) I R nx)
  | .i2b => p1 st (fun x t => K ls (.inl (w8 x) :: t) I R nx)
  | .i2l => p1 st (fun x t => K ls (.inr (.inl x) :: t) I R nx)
  | .land => p2L st (fun x y t => K ls (.inr (.inl (and64 x y)) :: t) I R nx)
  | .lor => p2L st (fun x y t => K ls (.inr (.inl (or64 x y)) :: t) I R nx)
  | .lshl => pLI st (fun x y t => K ls (.inr (.inl (shl64 x y)) :: t) I R nx)
  | .lushr => pLI st (fun x y t => K ls (.inr (.inl (ushr64 x y)) :: t) I R nx)
  | .lcmp => p2L st (fun x y t => K ls (.inl (if x < y then -1 else if x = y then 0 else 1) :: t) I R nx)
  | .dup => pD st (fun v => K ls (v :: st) I R nx)
  | .dup2 => pDD st (fun v w => K ls (v :: w :: st) I R nx)
  | .if_icmp c b => p2 st (fun x y t => (cnd c x y → J b.toNat ls t I R nx) ∧ (ncd c x y → K ls t I R nx))
  | .ifCond c b => p1 st (fun x t => (cnd c x 0 → J b.toNat ls t I R nx) ∧ (ncd c x 0 → K ls t I R nx))
  | .ifnonnull b => pN st (fun r t => (r ≠ none → J b.toNat ls t I R nx) ∧ (r = none → K ls t I R nx))
  | .goto b => J b.toNat ls st I R nx
  | .goto_w b => J b.toNat ls st I R nx
  | .tableswitch d lo hi bs => p1 st (fun x t => (x < lo ∨ hi < x → J d.toNat ls t I R nx) ∧ tsw (fun b => J b ls t I R nx) x lo bs.toList)
  | .iaload => pIR st (fun j o t => ldS g I o j (fun v => K ls (.inl v :: t) I R nx))
  | .baload => pIR st (fun j o t => ldA (shp o) 2 3 j (K ls (.inl (I o j.toNat) :: t) I R nx))
  | .laload => pIR st (fun j o t => ldA (shp o) 4 4 j (K ls (.inr (.inl (I o j.toNat)) :: t) I R nx))
  | .aaload => pIR st (fun j o t => ldA (shp o) 5 6 j (K ls (.inr (.inr (R o j.toNat)) :: t) I R nx))
  | .iastore => pIIR st (fun v j o t => ldA (shp o) 1 1 j (K ls t (upI I o j.toNat v) R nx))
  | .bastore => pIIR st (fun v j o t => stB (shp o) v j (fun v => K ls t (upI I o j.toNat v) R nx))
  | .lastore => pLIR st (fun v j o t => ldA (shp o) 4 4 j (K ls t (upI I o j.toNat v) R nx))
  | .aastore => pRIR st (fun q j o t => ldA (shp o) 5 6 j (shp q = (0, if (shp o).1 = 5 then 1 else 0) ∧ K ls t I (upR R o j.toNat (some q)) nx))
  | .arraylength => pR st (fun o t => lenS g o (fun v => K ls (.inl v :: t) I R nx))
  | .dload c => pR st (fun o t => shp o = (0, c / 100) ∧ K ls (.inr (.inl (I o (c % 100))) :: t) I R nx)
  | .dstore c => (match st with
    | .inr (.inl v) :: .inr (.inr (some o)) :: t => shp o = (0, c / 100) ∧ K ls t (upI I o (c % 100) v) R nx
    | _ => False)
  | .getfield c => pR st (fun o t => shp o = (0, c / 100) ∧ K ls (.inl (I o (c % 100)) :: t) I R nx)
  | .getstatic c => pR st (fun o t => shp o = (0, c / 100) ∧ K ls (.inr (.inr (R o (c % 100))) :: t) I R nx)
  | .putfield c => (match st with
    | .inl v :: .inr (.inr (some o)) :: t => shp o = (0, c / 100) ∧ K ls t (upI I o (c % 100) v) R nx
    | _ => False)
  | .instanceof c => (match st with
    | .inl v :: .inr (.inr (some o)) :: t => shp o = (0, c / 100) ∧ (v = 0 ∨ v = 1) ∧ K ls t (upI I o (c % 100) v) R nx
    | _ => False)
  | .putstatic c => pNR st (fun q o t => shp o = (0, c / 100) ∧ K ls t I (upR R o (c % 100) q) nx)
  | .new c => newK 0 c nx (fun q n => K ls (.inr (.inr (some q)) :: st) I R n)
  | .newarray a => p1 st (fun v t => 0 ≤ v ∧ v ≤ 100000 ∧ newK (atK a) v.toNat nx (fun q n => K ls (.inr (.inr (some q)) :: t) I R n))
  | .anewarray a => p1 st (fun v t => 0 ≤ v ∧ v ≤ 100000 ∧ newK a v.toNat nx (fun q n => K ls (.inr (.inr (some q)) :: t) I R n))
  | .fadd => p2 st (fun x y t => sh4 t <| K ls (.inl (max x y) :: t) I R nx)
  | .fsub => p2 st (fun x y t => sh4 t <| K ls (.inl (min x y) :: t) I R nx)
  | .fneg => p1 st (fun x t => sh4 t <| K ls (.inl (if 0 ≤ x then x else w32 (0 - x)) :: t) I R nx)
  | .pop => pR st (fun _ t => sh4 t <| K ls t I R nx)
  | .pop2 => pCp st (fun n dp p sp o t => sh4 t <| (shp p).1 = (shp o).1 ∧ ((shp p).1 = 1 ∨ (shp p).1 = 2) ∧ 0 ≤ n ∧ 0 ≤ dp ∧ 0 ≤ sp ∧ sp + n ≤ (shp o).2 ∧ dp + n ≤ (shp p).2 ∧ K ls t (cpI I o p sp.toNat dp.toNat n.toNat) R nx)
  | .invokeinterface y c => spl (c / 10 % 10) [] st (fun a t => sh4 t <| rcv (c / 1000 % 100) a ∧ if c % 10 = 1 then cI CL y a I R (nx.take (c / 100000)) (fun v I R => K ls (.inl v :: t) I R (nx.drop (c / 100000))) else cV CL y a I R (nx.take (c / 100000)) (fun I R => K ls t I R (nx.drop (c / 100000))))
  | .ireturn => pI1 st (fun v => (rt = 1 ∨ rt = 2 ∧ (v = 0 ∨ v = 1)) ∧ Q (some (.inl v)) I R)
  | .return_ => st = [] ∧ rt = 0 ∧ Q none I R
  | _ => False
def pcO (c : CD) : Nat := match c with
  | [] => 0
  | (pc, _) :: _ => pc
/-- a row of instructions; a block's number from 100000 on is the place of a loop's head, told by AT -/
def xw (g : GX) (AT : Nat → KT) (CL : CLT) (Q : Option AV → MI → MR → Prop) (rt : Nat) (B : Nat → CD) : Nat → CD → KT
  | 0, _ => fun _ _ _ _ _ => False
  | _ + 1, [] => fun _ _ _ _ _ => False
  | n + 1, (_, i) :: k => fun ls st I R nx => xi g CL Q rt (fun b ls st I R nx => if b < 100000 then xw g AT CL Q rt B n (B b) ls st I R nx else AT (b - 100000) ls st I R nx) (fun ls st I R nx => xw g AT CL Q rt B n k ls st I R nx) i ls st I R nx
