/-! the machine's own steps against the abstract ones -/
abbrev CX : Type := va_G × Nat × Nat × Nat
def rl (ad : Nat → Nat) (v : AV) : Value := match v with
  | .inl x => .int (Int32.ofInt x)
  | .inr (.inl x) => .long (Int64.ofInt x)
  | .inr (.inr none) => .null
  | .inr (.inr (some o)) => .ref (ad o)
def i32 (x : Int) : Prop := -2147483648 ≤ x ∧ x < 2147483648
def i64 (x : Int) : Prop := -9223372036854775808 ≤ x ∧ x < 9223372036854775808
def okv (lv : Nat → Prop) (v : AV) : Prop := match v with
  | .inl x => i32 x
  | .inr (.inl x) => i64 x
  | .inr (.inr none) => True
  | .inr (.inr (some o)) => lv o
def fvl (ad : Nat → Nat) (I : MI) (R : MR) (o c : Nat) : Value := if fkd c = 2 then va_rf ((R o (c % 100)).map ad) else if fkd c = 3 then .long (Int64.ofInt (I o (c % 100))) else .int (Int32.ofInt (I o (c % 100)))
def flds (ad : Nat → Nat) (I : MI) (R : MR) (o ci : Nat) : List Value := (List.range (clE ci).2.2).map (fun k => fvl ad I R o (ci * 100 + k))
def Ent (tys : List (ClassId × FieldType)) (ad : Nat → Nat) (I : MI) (R : MR) (o : Nat) (e : va_E) : Prop := match (shp o).1 with
  | 0 => (shp o).2 < 12 ∧ e = .inr ((shp o).2, flds ad I R o (shp o).2)
  | 1 => ∃ (t0 : Nat) (cA : ClassId), tys[t0]? = some (cA, FieldType.int) ∧ e = .inl (cA, (shp o).2, .inl (fun k => Int32.ofInt (I o k)))
  | 2 => ∃ (t0 : Nat) (cA : ClassId), tys[t0]? = some (cA, FieldType.byte) ∧ e = .inl (cA, (shp o).2, .inl (fun k => Int32.ofInt (I o k)))
  | 3 => ∃ (t0 : Nat) (cA : ClassId), tys[t0]? = some (cA, FieldType.boolean) ∧ e = .inl (cA, (shp o).2, .inl (fun k => Int32.ofInt (I o k)))
  | 4 => ∃ (t0 : Nat) (cA : ClassId), tys[t0]? = some (cA, FieldType.long) ∧ e = .inl (cA, (shp o).2, .inr (.inl (fun k => Int64.ofInt (I o k))))
  | 5 => ∃ (t0 : Nat) (cA : ClassId) (f : Nat → Option Nat), tys[t0]? = some (cA, FieldType.object RX1) ∧ (∀ k, k < (shp o).2 → f k = (R o k).map ad) ∧ e = .inl (cA, (shp o).2, .inr (.inr (.inr (.inr f))))
  | 6 => ∃ (t0 : Nat) (cA : ClassId) (f : Nat → Option Nat), tys[t0]? = some (cA, FieldType.object RX0) ∧ (∀ k, k < (shp o).2 → f k = (R o k).map ad) ∧ e = .inl (cA, (shp o).2, .inr (.inr (.inr (.inr f))))
  | _ => False
def rng (o k : Nat) (v : Int) : Prop := match (shp o).1 with
  | 0 => if fkd ((shp o).2 * 100 + k) = 3 then i64 v else i32 v
  | 2 => -128 ≤ v ∧ v < 128
  | 3 => 0 ≤ v ∧ v < 2
  | 4 => i64 v
  | _ => i32 v
def rsz (o : Nat) : Nat := if (shp o).1 = 0 then 100 else (shp o).2
def Wld (x : CX) (lv : Nat → Prop) (ad : Nat → Nat) (I : MI) (R : MR) (U : State) (H : Heap) (tys : List (ClassId × FieldType)) (ws : va_W) (pos : Nat → Nat) : Prop :=
  va_K x.1 vwCl tys U ∧ va_P x.1 vwCl ws H ∧ va_D (fun q => x.2.1 ≤ q) ws ∧ (∀ o, lv o → (shp o).1 < 7 → ∃ e, ws[pos o]? = some (ad o, e) ∧ Ent tys ad I R o e) ∧ (∀ o o', lv o → lv o' → (shp o).1 < 7 → (shp o').1 < 7 → pos o = pos o' → o = o')
def Rp (x : CX) (lv : Nat → Prop) (ad : Nat → Nat) (I : MI) (R : MR) (nx : List Nat) (U : State) (H : Heap) : Prop :=
  x.2.1 ≤ H.size ∧ nx.Nodup ∧ (∀ i ∈ nx, ¬ lv i ∧ (∀ k, I i k = 0 ∧ (k < rsz i → R i k = none))) ∧ (∀ o k, rng o k (I o k)) ∧ (∀ o k j, lv o → k < rsz o → R o k = some j → lv j) ∧ (lv 997 ∧ lv 999 ∧ ad 997 = x.2.2.1 ∧ ad 999 = x.2.2.2) ∧ ∃ tys ws pos, Wld x lv ad I R U H tys ws pos
def wt (nx : List Nat) : Nat := (nx.map (fun o => (if (shp o).1 = 0 then (clE (shp o).2).2.2 else (shp o).2))).sum
def Lc (lv : Nat → Prop) (ad : Nat → Nat) (ls : LV) (lsC : Array Slot) (nL : Nat) : Prop := lsC.size = nL ∧ lv_wf lsC ∧ ls.length ≤ nL ∧ ∀ i v, nth ls i = some v → okv lv v ∧ lsC[i]? = some (.val (rl ad v))
def Ext (lv : Nat → Prop) (ad : Nat → Nat) (I : MI) (R : MR) (nx : List Nat) (lv' : Nat → Prop) (ad' : Nat → Nat) (I' : MI) (R' : MR) (nx' : List Nat) : Prop :=
  (∀ i, lv i → lv' i ∧ ad' i = ad i) ∧ (∀ i, lv' i → lv i ∨ (i ∈ nx ∧ i ∉ nx')) ∧ (∀ i ∈ nx', i ∈ nx) ∧ (∀ i, ¬ lv' i → I' i = I i ∧ ∀ k, k < rsz i → R' i k = R i k)
theorem Ext.rf {lv ad I R nx} : Ext lv ad I R nx lv ad I R nx := ⟨fun _ h => ⟨h, rfl⟩, fun _ h => Or.inl h, fun _ h => h, fun _ _ => ⟨rfl, fun _ _ => rfl⟩⟩
theorem Ext.tr {lv ad I R nx lv1 ad1 I1 R1 nx1 lv2 ad2 I2 R2 nx2} (h : Ext lv ad I R nx lv1 ad1 I1 R1 nx1) (k : Ext lv1 ad1 I1 R1 nx1 lv2 ad2 I2 R2 nx2) : Ext lv ad I R nx lv2 ad2 I2 R2 nx2 := by
  refine ⟨fun i q => ⟨(k.1 i (h.1 i q).1).1, (k.1 i (h.1 i q).1).2.trans (h.1 i q).2⟩, fun i q => ?_, fun i q => h.2.2.1 i (k.2.2.1 i q), fun i q => ?_⟩
  · rcases k.2.1 i q with a | ⟨a, b⟩
    · rcases h.2.1 i a with c | ⟨c, e⟩
      · exact Or.inl c
      · exact Or.inr ⟨c, fun z => e (k.2.2.1 i z)⟩
    · exact Or.inr ⟨h.2.2.1 i a, b⟩
  · have q1 : ¬ lv1 i := fun z => q (k.1 i z).1
    exact ⟨(k.2.2.2 i q).1.trans (h.2.2.2 i q1).1, fun z hz => ((k.2.2.2 i q).2 z hz).trans ((h.2.2.2 i q1).2 z hz)⟩
/-- what is below the world and only read: the script, the text of the words, and rows of the tables that are told of a state alone -/
def spT : String := "if     and    not    gain   lose   set    stop   own    helper shy    silent words  hour   day    low    age    has    run    "
def spI : List Int32 := spB.map Int32.ofInt
def RS (x : CX) (U : State) (H : Heap) : Prop := vk_R "TongueCamp$Reader" 155 spT x.2.2.1 U ∧ (∃ aV : Nat, vk_S 1 [126] [spI] (fun _ => x.2.2.1) (fun _ => aV) (fun q => x.2.1 ≤ q) U H) ∧ va_Z "java/lang/String" "COMPACT_STRINGS" "Z" (.int 1) (fun q => x.2.1 ≤ q) U H ∧ va_Zq "jdk/internal/util/Preconditions" "SIOOBE_FORMATTER" "Ljava/util/function/BiFunction;" (fun q => x.2.1 ≤ q) U H
theorem RS.moved {x : CX} {u U : State} {H : Heap} (hW : u.WarmedH U.vm) (h : RS x u H) : RS x U H :=
  ⟨vk_R.warm hW h.1, h.2.1.imp (fun _ k => k.moved hW.alike), h.2.2.1.moved hW.alike, h.2.2.2.moved hW.alike⟩
theorem RS.same {x : CX} {u U : State} {H : Heap} (hv : u.vm = U.vm) (h : RS x u H) : RS x U H := by
  have hA : u.vm.Alike U.vm := hv ▸ Vm.Alike.refl u.vm
  exact ⟨vk_R.same hv.symm h.1, h.2.1.imp (fun _ k => k.moved hA), h.2.2.1.moved hA, h.2.2.2.moved hA⟩
theorem RS.kept {x : CX} {U : State} {H H1 : Heap} (h : RS x U H) (hq : ∀ q : Nat, q < H.size → ¬ x.2.1 ≤ q → H1[q]? = H[q]?) : RS x U H1 :=
  ⟨h.1, h.2.1.imp (fun _ k => k.kept hq), h.2.2.1.kept hq, h.2.2.2.kept hq⟩
def RO (g : GX) (x : CX) (U : State) (H : Heap) : Prop :=
  va_X x.2.2.2 g.2.1 (fun k => Int32.ofInt (g.2.2 k)) U H ∧ x.2.2.2 < x.2.1 ∧ x.2.2.2 < H.size ∧ (∀ q ∈ lkN, va_Nw (lkN_c q) U) ∧ (va_AO RX1 U ∧ va_AO RX0 U) ∧ RS x U H ∧ (∀ k, i32 (g.2.2 k)) ∧ g.2.1 < 2147483648
theorem RO.moved {g : GX} {x : CX} {u U : State} {H : Heap} (hW : u.WarmedH U.vm) (h : RO g x u H) : RO g x U H := by
  obtain ⟨a, b, c, d, e, f, i, j⟩ := h
  exact ⟨a.moved hW.alike, b, c, fun q hq => va_Nw.warmM hW (d q hq), ⟨e.1.moved hW.alike, e.2.moved hW.alike⟩, f.moved hW, i, j⟩
theorem RO.same {g : GX} {x : CX} {u U : State} {H : Heap} (hv : u.vm = U.vm) (h : RO g x u H) : RO g x U H := by
  have hA : u.vm.Alike U.vm := hv ▸ Vm.Alike.refl u.vm
  obtain ⟨a, b, c, d, e, f, i, j⟩ := h
  exact ⟨a.moved hA, b, c, fun q hq => va_Nw.same rfl hv (d q hq), ⟨e.1.moved hA, e.2.moved hA⟩, f.same hv, i, j⟩
theorem RO.kept {g : GX} {x : CX} {U : State} {H H1 : Heap} (h : RO g x U H) (hz : H.size ≤ H1.size) (hq : ∀ q : Nat, q < H.size → ¬ x.2.1 ≤ q → H1[q]? = H[q]?) : RO g x U H1 := by
  obtain ⟨a, b, c, d, e, f, i, j⟩ := h
  exact ⟨a.kept (hq _ c (by omega)), b, by omega, d, e, f.kept hq, i, j⟩
theorem Rp.moved {x : CX} {lv ad I R nx} {u U : State} {H : Heap} (hA : u.vm.Alike U.vm) (h : Rp x lv ad I R nx u H) : Rp x lv ad I R nx U H := by
  obtain ⟨a, b, c, d, e, f, tys, ws, pos, k, r⟩ := h
  exact ⟨a, b, c, d, e, f, tys, ws, pos, k.moved hA, r⟩
theorem Rp.nil {x : CX} {lv ad I R nx} {U : State} {H : Heap} (h : Rp x lv ad I R nx U H) : Rp x lv ad I R [] U H := ⟨h.1, List.nodup_nil, fun _ q => absurd q List.not_mem_nil, h.2.2.2⟩
def Ctx (g : GX) (d y : Nat) (x : CX) (p : Program) (Rm : Room) (s : State) (m : MethodId) (args : Array Value) (meth : Method) (c : Code) : Prop :=
  p.tables.exec = Jvm.exec ∧ c.code = mB y ∧ c.maxLocals = mL y ∧ s.vm.findClass (cN (mO y)) = some m.cls ∧ (∀ w ∈ lwG, w.before args s = true) ∧ ((mY y).name = "<init>" → meth.name = "<init>") ∧ (d ≤ Rm.frames ∧ 60 * d ≤ Rm.locals) ∧ RO g x s s.heap ∧ x.2.1 ≤ s.heap.size
def rtO (rv : Option AV) : Option Instr := match rv with
  | none => some .return_
  | some (.inl _) => some .ireturn
  | _ => none
def rtK (r : Option FieldType) (rv : Option AV) : Prop := match r, rv with
  | none, none => True
  | some .int, some (.inl _) => True
  | some .boolean, some (.inl v) => v = 0 ∨ v = 1
  | _, _ => False
def Ret (g : GX) (y : Nat) (Q : Option AV → MI → MR → Prop) (x : CX) (p : Program) (e : Env) (Rm : Room) (s : State) (m : MethodId) (args : Array Value) (below : List Frame) (meth : Method) (c : Code) (Z : State → Prop) (lv : Nat → Prop) (ad : Nat → Nat) (I : MI) (R : MR) (nx : List Nat) : Prop :=
  ∀ (lv' : Nat → Prop) (ad' : Nat → Nat) (I' : MI) (R' : MR) (nx' : List Nat) (H' : Heap) (locs' : List Loc) (cells' slots' pc : Nat) (lsC : Array Slot) (rv : Option AV) (i : Instr),
    Ext lv ad I R nx lv' ad' I' R' nx' → Rp x lv' ad' I' R' nx' s H' → va_S (fun q => x.2.1 ≤ q) s.heap H' locs' → (∀ v ∈ rv, okv lv' v) → cells' ≤ Rm.cells → slots' ≤ Rm.slots → rtK (mR y) rv → Q rv I' R' → rtO rv = some i → decode (mB y) pc = .ok (i, 1) →
    W p g.1 e Rm s m args below meth c H' locs' cells' slots' Z (F0 m pc lsC (rv.toList.map (rl ad')))
theorem Ret.step {g y Q x p e Rm s m args below meth c Z lv ad I R nx lv' ad' I' R' nx'} (h : Ret g y Q x p e Rm s m args below meth c Z lv ad I R nx) (k : Ext lv ad I R nx lv' ad' I' R' nx') : Ret g y Q x p e Rm s m args below meth c Z lv' ad' I' R' nx' :=
  fun lv2 ad2 I2 R2 nx2 H2 l2 c2 s2 pc lsC rv i q => h lv2 ad2 I2 R2 nx2 H2 l2 c2 s2 pc lsC rv i (k.tr q)
def AtP (g : GX) (d y : Nat) (Q : Option AV → MI → MR → Prop) (pc : Nat) (ls : LV) (st : List AV) (I : MI) (R : MR) (nx : List Nat) : Prop :=
  ∀ (x : CX) (lv : Nat → Prop) (ad : Nat → Nat) (p : Program) (e : Env) (Rm : Room) (s : State) (m : MethodId) (args : Array Value) (below : List Frame) (meth : Method) (c : Code) (H : Heap) (locs : List Loc) (lsC : Array Slot) (cells slots : Nat) (Z : State → Prop),
    Ctx g d y x p Rm s m args meth c → Ret g y Q x p e Rm s m args below meth c Z lv ad I R nx → Rp x lv ad I R nx s H → va_S (fun q => x.2.1 ≤ q) s.heap H locs → Lc lv ad ls lsC (mL y) → (∀ v ∈ st, okv lv v) → cells + nx.length ≤ Rm.cells → slots + wt nx ≤ Rm.slots →
    W p g.1 e Rm s m args below meth c H locs cells slots Z (F0 m pc lsC (st.map (rl ad)))
theorem i32_of (z : Int32) : i32 z.toInt := ⟨by have := z.le_toInt; simpa using this, by have := z.toInt_lt; simpa using this⟩
theorem i64_of (z : Int64) : i64 z.toInt := ⟨by have := z.le_toInt; simpa using this, by have := z.toInt_lt; simpa using this⟩
theorem i32_toInt {x : Int} (h : i32 x) : (Int32.ofInt x).toInt = x := Int32.toInt_ofInt_of_le (by simpa using h.1) (by simpa using h.2)
theorem i64_toInt {x : Int} (h : i64 x) : (Int64.ofInt x).toInt = x := Int64.toInt_ofInt_of_le (by simpa using h.1) (by simpa using h.2)
theorem i32_w32 (x : Int) : i32 (w32 x) := by rw [w32_eq]; exact i32_of _
theorem i32_and32 (x y : Int) : i32 (and32 x y) := by rw [and32_eq]; exact i32_of _
theorem i32_or32 (x y : Int) : i32 (or32 x y) := by rw [or32_eq]; exact i32_of _
theorem i32_xor32 (x y : Int) : i32 (xor32 x y) := by rw [xor32_eq]; exact i32_of _
theorem i32_shl32 (x y : Int) : i32 (shl32 x y) := by rw [shl32_eq]; exact i32_of _
theorem i32_shr32 (x y : Int) : i32 (shr32 x y) := by rw [shr32_eq]; exact i32_of _
theorem i32_ushr32 (x y : Int) : i32 (ushr32 x y) := by rw [ushr32_eq]; exact i32_of _
theorem i32_w8 (x : Int) : i32 (w8 x) := by rw [w8_eq]; exact i32_of _
theorem i64_and64 (x y : Int) : i64 (and64 x y) := by rw [and64_eq]; exact i64_of _
theorem i64_or64 (x y : Int) : i64 (or64 x y) := by rw [or64_eq]; exact i64_of _
theorem i64_shl64 (x y : Int) : i64 (shl64 x y) := by rw [shl64_eq]; exact i64_of _
theorem i64_ushr64 (x y : Int) : i64 (ushr64 x y) := by rw [ushr64_eq]; exact i64_of _
theorem ofw32 (x : Int) : Int32.ofInt (w32 x) = Int32.ofInt x := by rw [w32_eq, Int32.ofInt_toInt]
theorem okc {lv : Nat → Prop} {v : AV} {st : List AV} (hv : okv lv v) (h : ∀ v ∈ st, okv lv v) : ∀ w ∈ v :: st, okv lv w := fun w hw => (List.mem_cons.mp hw).elim (fun e => e ▸ hv) (h w)
theorem okt {lv : Nat → Prop} {v : AV} {st : List AV} (h : ∀ w ∈ v :: st, okv lv w) : ∀ w ∈ st, okv lv w := fun w hw => h w (List.mem_cons_of_mem _ hw)
theorem okh {lv : Nat → Prop} {v : AV} {st : List AV} (h : ∀ w ∈ v :: st, okv lv w) : okv lv v := h v List.mem_cons_self

section STEPS
variable {g : GX} {d y : Nat} {Q : Option AV → MI → MR → Prop} {pc : Nat} {ls : LV} {t : List AV} {I : MI} {R : MR} {nx : List Nat}
theorem s_iadd {a b : Int} (hd : decode (mB y) pc = .ok (.iadd, 1)) (k : AtP g d y Q (pc + 1) ls (.inl (w32 (a + b)) :: t) I R nx) : AtP g d y Q pc ls (.inl b :: .inl a :: t) I R nx := by
  intro x lv ad p e Rm s m args below meth c H locs lsC cells slots Z C ret hR hS hL hst hc hs
  have e1 : Int32.ofInt (w32 (a + b)) = Int32.ofInt a + Int32.ofInt b := by rw [ofw32, Int32.ofInt_add]
  refine lv_iadd C.1 C.2.1 hd ?_
  rw [← e1]
  exact k x lv ad p e Rm s m args below meth c H locs lsC cells slots Z C ret hR hS hL (okc (i32_w32 _) (okt (okt hst))) hc hs
theorem s_isub {a b : Int} (hd : decode (mB y) pc = .ok (.isub, 1)) (k : AtP g d y Q (pc + 1) ls (.inl (w32 (a - b)) :: t) I R nx) : AtP g d y Q pc ls (.inl b :: .inl a :: t) I R nx := by
  intro x lv ad p e Rm s m args below meth c H locs lsC cells slots Z C ret hR hS hL hst hc hs
  have e1 : Int32.ofInt (w32 (a - b)) = Int32.ofInt a - Int32.ofInt b := by rw [ofw32, Int32.ofInt_sub]
  refine lv_isub C.1 C.2.1 hd ?_
  rw [← e1]
  exact k x lv ad p e Rm s m args below meth c H locs lsC cells slots Z C ret hR hS hL (okc (i32_w32 _) (okt (okt hst))) hc hs
theorem s_imul {a b : Int} (hd : decode (mB y) pc = .ok (.imul, 1)) (k : AtP g d y Q (pc + 1) ls (.inl (w32 (a * b)) :: t) I R nx) : AtP g d y Q pc ls (.inl b :: .inl a :: t) I R nx := by
  intro x lv ad p e Rm s m args below meth c H locs lsC cells slots Z C ret hR hS hL hst hc hs
  have e1 : Int32.ofInt (w32 (a * b)) = Int32.ofInt a * Int32.ofInt b := by rw [ofw32, Int32.ofInt_mul]
  refine lv_imul C.1 C.2.1 hd ?_
  rw [← e1]
  exact k x lv ad p e Rm s m args below meth c H locs lsC cells slots Z C ret hR hS hL (okc (i32_w32 _) (okt (okt hst))) hc hs
theorem s_iand {a b : Int} (hd : decode (mB y) pc = .ok (.iand, 1)) (k : AtP g d y Q (pc + 1) ls (.inl (and32 a b) :: t) I R nx) : AtP g d y Q pc ls (.inl b :: .inl a :: t) I R nx := by
  intro x lv ad p e Rm s m args below meth c H locs lsC cells slots Z C ret hR hS hL hst hc hs
  have e1 : Int32.ofInt (and32 a b) = Int32.ofInt a &&& Int32.ofInt b := by rw [and32_eq, Int32.ofInt_toInt]
  refine lv_iand C.1 C.2.1 hd ?_
  rw [← e1]
  exact k x lv ad p e Rm s m args below meth c H locs lsC cells slots Z C ret hR hS hL (okc (i32_and32 _ _) (okt (okt hst))) hc hs
theorem s_ior {a b : Int} (hd : decode (mB y) pc = .ok (.ior, 1)) (k : AtP g d y Q (pc + 1) ls (.inl (or32 a b) :: t) I R nx) : AtP g d y Q pc ls (.inl b :: .inl a :: t) I R nx := by
  intro x lv ad p e Rm s m args below meth c H locs lsC cells slots Z C ret hR hS hL hst hc hs
  have e1 : Int32.ofInt (or32 a b) = Int32.ofInt a ||| Int32.ofInt b := by rw [or32_eq, Int32.ofInt_toInt]
  refine lv_ior C.1 C.2.1 hd ?_
  rw [← e1]
  exact k x lv ad p e Rm s m args below meth c H locs lsC cells slots Z C ret hR hS hL (okc (i32_or32 _ _) (okt (okt hst))) hc hs
theorem s_ixor {a b : Int} (hd : decode (mB y) pc = .ok (.ixor, 1)) (k : AtP g d y Q (pc + 1) ls (.inl (xor32 a b) :: t) I R nx) : AtP g d y Q pc ls (.inl b :: .inl a :: t) I R nx := by
  intro x lv ad p e Rm s m args below meth c H locs lsC cells slots Z C ret hR hS hL hst hc hs
  have e1 : Int32.ofInt (xor32 a b) = Int32.ofInt a ^^^ Int32.ofInt b := by rw [xor32_eq, Int32.ofInt_toInt]
  refine lv_ixor C.1 C.2.1 hd ?_
  rw [← e1]
  exact k x lv ad p e Rm s m args below meth c H locs lsC cells slots Z C ret hR hS hL (okc (i32_xor32 _ _) (okt (okt hst))) hc hs
theorem s_ishl {a b : Int} (hd : decode (mB y) pc = .ok (.ishl, 1)) (k : AtP g d y Q (pc + 1) ls (.inl (shl32 a b) :: t) I R nx) : AtP g d y Q pc ls (.inl b :: .inl a :: t) I R nx := by
  intro x lv ad p e Rm s m args below meth c H locs lsC cells slots Z C ret hR hS hL hst hc hs
  have e1 : Int32.ofInt (shl32 a b) = Int32.ofInt a <<< (Int32.ofInt b &&& 31) := by rw [shl32_eq, Int32.ofInt_toInt]
  refine lv_ishl C.1 C.2.1 hd ?_
  rw [← e1]
  exact k x lv ad p e Rm s m args below meth c H locs lsC cells slots Z C ret hR hS hL (okc (i32_shl32 _ _) (okt (okt hst))) hc hs
theorem s_ishr {a b : Int} (hd : decode (mB y) pc = .ok (.ishr, 1)) (k : AtP g d y Q (pc + 1) ls (.inl (shr32 a b) :: t) I R nx) : AtP g d y Q pc ls (.inl b :: .inl a :: t) I R nx := by
  intro x lv ad p e Rm s m args below meth c H locs lsC cells slots Z C ret hR hS hL hst hc hs
  have e1 : Int32.ofInt (shr32 a b) = Int32.ofInt a >>> (Int32.ofInt b &&& 31) := by rw [shr32_eq, Int32.ofInt_toInt]
  refine lv_ishr C.1 C.2.1 hd ?_
  rw [← e1]
  exact k x lv ad p e Rm s m args below meth c H locs lsC cells slots Z C ret hR hS hL (okc (i32_shr32 _ _) (okt (okt hst))) hc hs
theorem ofI_inj {a b : Int} (ha : i32 a) (hb : i32 b) : Int32.ofInt a = Int32.ofInt b ↔ a = b := ⟨fun h => by rw [← i32_toInt ha, h, i32_toInt hb], fun h => h ▸ rfl⟩
theorem ofI_lt {a b : Int} (ha : i32 a) (hb : i32 b) : Int32.ofInt a < Int32.ofInt b ↔ a < b := by rw [Int32.lt_iff_toInt_lt, i32_toInt ha, i32_toInt hb]
theorem ofI_le {a b : Int} (ha : i32 a) (hb : i32 b) : Int32.ofInt a ≤ Int32.ofInt b ↔ a ≤ b := by rw [Int32.le_iff_toInt_le, i32_toInt ha, i32_toInt hb]
theorem i32_0 : i32 0 := ⟨by decide, by decide⟩
theorem ofI_0 {a : Int} (ha : i32 a) : Int32.ofInt a = 0 ↔ a = 0 := ofI_inj ha i32_0
theorem ofI_div {a b : Int} (ha : i32 a) (hb : i32 b) : Int32.ofInt (w32 (a.tdiv b)) = Int32.ofInt a / Int32.ofInt b := by
  have h : (Int32.ofInt a / Int32.ofInt b).toInt = w32 (a.tdiv b) := by
    rw [Int32.toInt_div, i32_toInt ha, i32_toInt hb, w32_eq, Int32.toInt_ofInt]
  rw [← h, Int32.ofInt_toInt]
theorem ofI_rem {a b : Int} (ha : i32 a) (hb : i32 b) : Int32.ofInt (w32 (a.tmod b)) = Int32.ofInt a - Int32.ofInt a / Int32.ofInt b * Int32.ofInt b := by
  rw [← ofI_div ha hb, ofw32, ofw32, ← Int32.ofInt_mul, ← Int32.ofInt_sub, Int.tmod_def, Int.mul_comm]
theorem s_idiv {a b : Int} (hd : decode (mB y) pc = .ok (.idiv, 1)) (hb : b ≠ 0) (k : AtP g d y Q (pc + 1) ls (.inl (w32 (a.tdiv b)) :: t) I R nx) : AtP g d y Q pc ls (.inl b :: .inl a :: t) I R nx := by
  intro x lv ad p e Rm s m args below meth c H locs lsC cells slots Z C ret hR hS hL hst hc hs
  have e1 := ofI_div (a := a) (b := b) (okh (okt hst)) (okh hst)
  refine lv_idiv C.1 C.2.1 hd (fun z => hb ((ofI_0 (okh hst)).mp z)) ?_
  rw [← e1]
  exact k x lv ad p e Rm s m args below meth c H locs lsC cells slots Z C ret hR hS hL (okc (i32_w32 _) (okt (okt hst))) hc hs
theorem s_irem {a b : Int} (hd : decode (mB y) pc = .ok (.irem, 1)) (hb : b ≠ 0) (k : AtP g d y Q (pc + 1) ls (.inl (w32 (a.tmod b)) :: t) I R nx) : AtP g d y Q pc ls (.inl b :: .inl a :: t) I R nx := by
  intro x lv ad p e Rm s m args below meth c H locs lsC cells slots Z C ret hR hS hL hst hc hs
  have e1 := ofI_rem (a := a) (b := b) (okh (okt hst)) (okh hst)
  refine lv_irem C.1 C.2.1 hd (fun z => hb ((ofI_0 (okh hst)).mp z)) ?_
  rw [← e1]
  exact k x lv ad p e Rm s m args below meth c H locs lsC cells slots Z C ret hR hS hL (okc (i32_w32 _) (okt (okt hst))) hc hs
theorem s_ineg {a : Int} (hd : decode (mB y) pc = .ok (.ineg, 1)) (k : AtP g d y Q (pc + 1) ls (.inl (w32 (-a)) :: t) I R nx) : AtP g d y Q pc ls (.inl a :: t) I R nx := by
  intro x lv ad p e Rm s m args below meth c H locs lsC cells slots Z C ret hR hS hL hst hc hs
  have e2 : Int32.ofInt (w32 (-a)) = -Int32.ofInt a := by rw [ofw32, Int32.ofInt_neg]
  refine lv_ineg C.1 C.2.1 hd ?_
  rw [← e2]
  exact k x lv ad p e Rm s m args below meth c H locs lsC cells slots Z C ret hR hS hL (okc (i32_w32 _) (okt hst)) hc hs
theorem s_i2b {a : Int} (hd : decode (mB y) pc = .ok (.i2b, 1)) (k : AtP g d y Q (pc + 1) ls (.inl (w8 a) :: t) I R nx) : AtP g d y Q pc ls (.inl a :: t) I R nx := by
  intro x lv ad p e Rm s m args below meth c H locs lsC cells slots Z C ret hR hS hL hst hc hs
  refine lv_i2b (v := Int32.ofInt (w8 a)) C.1 C.2.1 hd (by rw [w8_eq, Int32.ofInt_toInt]) ?_
  exact k x lv ad p e Rm s m args below meth c H locs lsC cells slots Z C ret hR hS hL (okc (i32_w8 _) (okt hst)) hc hs
theorem s_i2l {a : Int} (hd : decode (mB y) pc = .ok (.i2l, 1)) (k : AtP g d y Q (pc + 1) ls (.inr (.inl a) :: t) I R nx) : AtP g d y Q pc ls (.inl a :: t) I R nx := by
  intro x lv ad p e Rm s m args below meth c H locs lsC cells slots Z C ret hR hS hL hst hc hs
  have ha : i32 a := okh hst
  refine lv_i2l (v := Int64.ofInt a) C.1 C.2.1 hd (by rw [← Int64.toInt_inj, Int32.toInt_toInt64, i32_toInt ha, i64_toInt ⟨by have := ha.1; omega, by have := ha.2; omega⟩]) ?_
  exact k x lv ad p e Rm s m args below meth c H locs lsC cells slots Z C ret hR hS hL (okc (show i64 a from ⟨by have := ha.1; omega, by have := ha.2; omega⟩) (okt hst)) hc hs
theorem s_iushr {a b : Int} (hd : decode (mB y) pc = .ok (.iushr, 1)) (k : AtP g d y Q (pc + 1) ls (.inl (ushr32 a b) :: t) I R nx) : AtP g d y Q pc ls (.inl b :: .inl a :: t) I R nx := by
  intro x lv ad p e Rm s m args below meth c H locs lsC cells slots Z C ret hR hS hL hst hc hs
  refine lv_iushr (v := Int32.ofInt (ushr32 a b)) C.1 C.2.1 hd (by rw [ushr32_eq, Int32.ofInt_toInt]) ?_
  exact k x lv ad p e Rm s m args below meth c H locs lsC cells slots Z C ret hR hS hL (okc (i32_ushr32 _ _) (okt (okt hst))) hc hs
theorem s_land {a b : Int} (hd : decode (mB y) pc = .ok (.land, 1)) (k : AtP g d y Q (pc + 1) ls (.inr (.inl (and64 a b)) :: t) I R nx) : AtP g d y Q pc ls (.inr (.inl b) :: .inr (.inl a) :: t) I R nx := by
  intro x lv ad p e Rm s m args below meth c H locs lsC cells slots Z C ret hR hS hL hst hc hs
  refine lv_land C.1 C.2.1 hd ?_
  rw [← Int64.ofInt_toInt (Int64.ofInt a &&& Int64.ofInt b), ← and64_eq]
  exact k x lv ad p e Rm s m args below meth c H locs lsC cells slots Z C ret hR hS hL (okc (i64_and64 _ _) (okt (okt hst))) hc hs
theorem s_lor {a b : Int} (hd : decode (mB y) pc = .ok (.lor, 1)) (k : AtP g d y Q (pc + 1) ls (.inr (.inl (or64 a b)) :: t) I R nx) : AtP g d y Q pc ls (.inr (.inl b) :: .inr (.inl a) :: t) I R nx := by
  intro x lv ad p e Rm s m args below meth c H locs lsC cells slots Z C ret hR hS hL hst hc hs
  refine lv_lor C.1 C.2.1 hd ?_
  rw [← Int64.ofInt_toInt (Int64.ofInt a ||| Int64.ofInt b), ← or64_eq]
  exact k x lv ad p e Rm s m args below meth c H locs lsC cells slots Z C ret hR hS hL (okc (i64_or64 _ _) (okt (okt hst))) hc hs
theorem s_lshl {a b : Int} (hd : decode (mB y) pc = .ok (.lshl, 1)) (k : AtP g d y Q (pc + 1) ls (.inr (.inl (shl64 a b)) :: t) I R nx) : AtP g d y Q pc ls (.inl b :: .inr (.inl a) :: t) I R nx := by
  intro x lv ad p e Rm s m args below meth c H locs lsC cells slots Z C ret hR hS hL hst hc hs
  refine lv_lshl (v := Int64.ofInt (shl64 a b)) C.1 C.2.1 hd (by rw [shl64_eq, Int64.ofInt_toInt]) ?_
  exact k x lv ad p e Rm s m args below meth c H locs lsC cells slots Z C ret hR hS hL (okc (i64_shl64 _ _) (okt (okt hst))) hc hs
theorem s_lushr {a b : Int} (hd : decode (mB y) pc = .ok (.lushr, 1)) (k : AtP g d y Q (pc + 1) ls (.inr (.inl (ushr64 a b)) :: t) I R nx) : AtP g d y Q pc ls (.inl b :: .inr (.inl a) :: t) I R nx := by
  intro x lv ad p e Rm s m args below meth c H locs lsC cells slots Z C ret hR hS hL hst hc hs
  refine lv_lushr (v := Int64.ofInt (ushr64 a b)) C.1 C.2.1 hd (by rw [ushr64_eq, Int64.ofInt_toInt]) ?_
  exact k x lv ad p e Rm s m args below meth c H locs lsC cells slots Z C ret hR hS hL (okc (i64_ushr64 _ _) (okt (okt hst))) hc hs
theorem s_iconst {n v : Int} (hn : n = v) (hv : i32 v) (hd : decode (mB y) pc = .ok (.iconst n, 1)) (k : AtP g d y Q (pc + 1) ls (.inl v :: t) I R nx) : AtP g d y Q pc ls t I R nx := by
  intro x lv ad p e Rm s m args below meth c H locs lsC cells slots Z C ret hR hS hL hst hc hs
  refine lv_iconst (v := Int32.ofInt v) C.1 C.2.1 hd (by rw [hn]) ?_
  exact k x lv ad p e Rm s m args below meth c H locs lsC cells slots Z C ret hR hS hL (okc hv hst) hc hs
theorem s_bipush {v : Int} (h1 : -128 ≤ v) (h2 : v < 128) (hd : decode (mB y) pc = .ok (.bipush v, 2)) (k : AtP g d y Q (pc + 2) ls (.inl v :: t) I R nx) : AtP g d y Q pc ls t I R nx := by
  intro x lv ad p e Rm s m args below meth c H locs lsC cells slots Z C ret hR hS hL hst hc hs
  have hv : i32 v := ⟨by omega, by omega⟩
  refine lv_bipush (v := Int32.ofInt v) C.1 C.2.1 hd (by rw [← Int32.toInt_inj, Int8.toInt_toInt32, i32_toInt hv, Int8.toInt_ofInt_of_le (by simpa using h1) (by simpa using h2)]) ?_
  exact k x lv ad p e Rm s m args below meth c H locs lsC cells slots Z C ret hR hS hL (okc hv hst) hc hs
theorem s_sipush {v : Int} (h1 : -32768 ≤ v) (h2 : v < 32768) (hd : decode (mB y) pc = .ok (.sipush v, 3)) (k : AtP g d y Q (pc + 3) ls (.inl v :: t) I R nx) : AtP g d y Q pc ls t I R nx := by
  intro x lv ad p e Rm s m args below meth c H locs lsC cells slots Z C ret hR hS hL hst hc hs
  have hv : i32 v := ⟨by omega, by omega⟩
  refine lv_sipush (v := Int32.ofInt v) C.1 C.2.1 hd (by rw [← Int32.toInt_inj, Int16.toInt_toInt32, i32_toInt hv, Int16.toInt_ofInt_of_le (by simpa using h1) (by simpa using h2)]) ?_
  exact k x lv ad p e Rm s m args below meth c H locs lsC cells slots Z C ret hR hS hL (okc hv hst) hc hs
theorem s_ldc {v : Int} {ix : Nat} (hv : i32 v) (hw : Cond.constant (cN (mO y)) ix (Int32.ofInt v) ∈ lwG) (hd : decode (mB y) pc = .ok (.ldc ix, 2)) (k : AtP g d y Q (pc + 2) ls (.inl v :: t) I R nx) : AtP g d y Q pc ls t I R nx := by
  intro x lv ad p e Rm s m args below meth c H locs lsC cells slots Z C ret hR hS hL hst hc hs
  refine W.ldc C.1 C.2.1 C.2.2.2.1 (C.2.2.2.2.1 _ hw) rfl hd ?_
  exact k x lv ad p e Rm s m args below meth c H locs lsC cells slots Z C ret hR hS hL (okc hv hst) hc hs
theorem s_ldcw {v : Int} {ix : Nat} (hv : i32 v) (hw : Cond.constant (cN (mO y)) ix (Int32.ofInt v) ∈ lwG) (hd : decode (mB y) pc = .ok (.ldc_w ix, 3)) (k : AtP g d y Q (pc + 3) ls (.inl v :: t) I R nx) : AtP g d y Q pc ls t I R nx := by
  intro x lv ad p e Rm s m args below meth c H locs lsC cells slots Z C ret hR hS hL hst hc hs
  refine lv_ldcw C.1 C.2.1 C.2.2.2.1 (C.2.2.2.2.1 _ hw) hd ?_
  exact k x lv ad p e Rm s m args below meth c H locs lsC cells slots Z C ret hR hS hL (okc hv hst) hc hs
theorem s_ldc2 {v : Int} {ix : Nat} (hv : i64 v) (hw : Cond.constantLong (cN (mO y)) ix (Int64.ofInt v) ∈ lwG) (hd : decode (mB y) pc = .ok (.ldc2_w ix, 3)) (k : AtP g d y Q (pc + 3) ls (.inr (.inl v) :: t) I R nx) : AtP g d y Q pc ls t I R nx := by
  intro x lv ad p e Rm s m args below meth c H locs lsC cells slots Z C ret hR hS hL hst hc hs
  refine W.ldc2 C.1 C.2.1 C.2.2.2.1 (C.2.2.2.2.1 _ hw) rfl hd ?_
  exact k x lv ad p e Rm s m args below meth c H locs lsC cells slots Z C ret hR hS hL (okc hv hst) hc hs
theorem s_lconst {v : Nat} (hv : v < 2) (hd : decode (mB y) pc = .ok (.lconst ⟨v, hv⟩, 1)) (k : AtP g d y Q (pc + 1) ls (.inr (.inl (v : Int)) :: t) I R nx) : AtP g d y Q pc ls t I R nx := by
  intro x lv ad p e Rm s m args below meth c H locs lsC cells slots Z C ret hR hS hL hst hc hs
  refine lv_lconst (v := Int64.ofInt (v : Int)) C.1 C.2.1 hd (by rcases (show v = 0 ∨ v = 1 by omega) with rfl | rfl <;> rfl) ?_
  exact k x lv ad p e Rm s m args below meth c H locs lsC cells slots Z C ret hR hS hL (okc (show i64 (v : Int) from ⟨by omega, by omega⟩) hst) hc hs
theorem s_iload_n {v : Int} {k : Fin 4} (hn : nth ls k = some (.inl v)) (hd : decode (mB y) pc = .ok (.iload_n k, 1)) (h : AtP g d y Q (pc + 1) ls (.inl v :: t) I R nx) : AtP g d y Q pc ls t I R nx := by
  intro x lv ad p e Rm s m args below meth c H locs lsC cells slots Z C ret hR hS hL hst hc hs
  refine lv_iload_n C.1 C.2.1 hd rfl (hL.2.2.2 _ _ hn).2 ?_
  exact h x lv ad p e Rm s m args below meth c H locs lsC cells slots Z C ret hR hS hL (okc (hL.2.2.2 _ _ hn).1 hst) hc hs
theorem s_iload {v : Int} {k : Nat} (hn : nth ls k = some (.inl v)) (hd : decode (mB y) pc = .ok (.iload k, 2)) (h : AtP g d y Q (pc + 2) ls (.inl v :: t) I R nx) : AtP g d y Q pc ls t I R nx := by
  intro x lv ad p e Rm s m args below meth c H locs lsC cells slots Z C ret hR hS hL hst hc hs
  refine lv_iload C.1 C.2.1 hd (hL.2.2.2 _ _ hn).2 ?_
  exact h x lv ad p e Rm s m args below meth c H locs lsC cells slots Z C ret hR hS hL (okc (hL.2.2.2 _ _ hn).1 hst) hc hs
theorem s_lload_n {v : Int} {k : Fin 4} (hn : nth ls k = some (.inr (.inl v))) (hd : decode (mB y) pc = .ok (.lload_n k, 1)) (h : AtP g d y Q (pc + 1) ls (.inr (.inl v) :: t) I R nx) : AtP g d y Q pc ls t I R nx := by
  intro x lv ad p e Rm s m args below meth c H locs lsC cells slots Z C ret hR hS hL hst hc hs
  refine lv_lload_n C.1 C.2.1 hd rfl (hL.2.2.2 _ _ hn).2 ?_
  exact h x lv ad p e Rm s m args below meth c H locs lsC cells slots Z C ret hR hS hL (okc (hL.2.2.2 _ _ hn).1 hst) hc hs
theorem s_lload {v : Int} {k : Nat} (hn : nth ls k = some (.inr (.inl v))) (hd : decode (mB y) pc = .ok (.lload k, 2)) (h : AtP g d y Q (pc + 2) ls (.inr (.inl v) :: t) I R nx) : AtP g d y Q pc ls t I R nx := by
  intro x lv ad p e Rm s m args below meth c H locs lsC cells slots Z C ret hR hS hL hst hc hs
  refine lv_lload C.1 C.2.1 hd (hL.2.2.2 _ _ hn).2 ?_
  exact h x lv ad p e Rm s m args below meth c H locs lsC cells slots Z C ret hR hS hL (okc (hL.2.2.2 _ _ hn).1 hst) hc hs
theorem s_aload_n {v : Option Nat} {k : Fin 4} (hn : nth ls k = some (.inr (.inr v))) (hd : decode (mB y) pc = .ok (.aload_n k, 1)) (h : AtP g d y Q (pc + 1) ls (.inr (.inr v) :: t) I R nx) : AtP g d y Q pc ls t I R nx := by
  intro x lv ad p e Rm s m args below meth c H locs lsC cells slots Z C ret hR hS hL hst hc hs
  have h1 := (hL.2.2.2 _ _ hn)
  cases v with
  | none => exact lv_aload_nN C.1 C.2.1 hd rfl h1.2 (h x lv ad p e Rm s m args below meth c H locs lsC cells slots Z C ret hR hS hL (okc h1.1 hst) hc hs)
  | some o => exact lv_aload_n C.1 C.2.1 hd rfl h1.2 (h x lv ad p e Rm s m args below meth c H locs lsC cells slots Z C ret hR hS hL (okc h1.1 hst) hc hs)
theorem s_aload {v : Option Nat} {k : Nat} (hn : nth ls k = some (.inr (.inr v))) (hd : decode (mB y) pc = .ok (.aload k, 2)) (h : AtP g d y Q (pc + 2) ls (.inr (.inr v) :: t) I R nx) : AtP g d y Q pc ls t I R nx := by
  intro x lv ad p e Rm s m args below meth c H locs lsC cells slots Z C ret hR hS hL hst hc hs
  have h1 := (hL.2.2.2 _ _ hn)
  cases v with
  | none => exact lv_aloadN C.1 C.2.1 hd h1.2 (h x lv ad p e Rm s m args below meth c H locs lsC cells slots Z C ret hR hS hL (okc h1.1 hst) hc hs)
  | some o => exact lv_aload C.1 C.2.1 hd h1.2 (h x lv ad p e Rm s m args below meth c H locs lsC cells slots Z C ret hR hS hL (okc h1.1 hst) hc hs)
end STEPS
