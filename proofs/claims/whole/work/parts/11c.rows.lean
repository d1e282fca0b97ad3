/-! each instruction by an equation -/
section XROWS
variable {g : GX} {AT : Nat → KT} {CL : CLT} {Q : Option AV → MI → MR → Prop} {rt : Nat} {B : Nat → CD} {n pc : Nat} {k : CD} {ls : LV} {t : List AV} {I : MI} {R : MR} {nx : List Nat}
def jm (g : GX) (AT : Nat → KT) (CL : CLT) (Q : Option AV → MI → MR → Prop) (rt : Nat) (B : Nat → CD) (n : Nat) (b : Nat) (ls : LV) (st : List AV) (I : MI) (R : MR) (nx : List Nat) : Prop := if b < 100000 then xw g AT CL Q rt B n (B b) ls st I R nx else AT (b - 100000) ls st I R nx
theorem jm_b {b : Nat} (h : b < 100000) : jm g AT CL Q rt B n b ls t I R nx = xw g AT CL Q rt B n (B b) ls t I R nx := if_pos h
theorem jm_h {b : Nat} : jm g AT CL Q rt B n (b + 100000) ls t I R nx = AT b ls t I R nx := by
  unfold jm
  rw [if_neg (by omega), Nat.add_sub_cancel]
theorem gI_0 {v : Int} {F : Int → Prop} {l : LV} : gI (some (.inl v) :: l) 0 F = F v := rfl
theorem gI_s {a : Option AV} {i : Nat} {F : Int → Prop} {l : LV} : gI (a :: l) (i + 1) F = gI l i F := rfl
theorem gL_0 {v : Int} {F : Int → Prop} {l : LV} : gL (some (.inr (.inl v)) :: l) 0 F = F v := rfl
theorem gL_s {a : Option AV} {i : Nat} {F : Int → Prop} {l : LV} : gL (a :: l) (i + 1) F = gL l i F := rfl
theorem gR_0 {v : Option Nat} {F : Option Nat → Prop} {l : LV} : gR (some (.inr (.inr v)) :: l) 0 F = F v := rfl
theorem gR_s {a : Option AV} {i : Nat} {F : Option Nat → Prop} {l : LV} : gR (a :: l) (i + 1) F = gR l i F := rfl
/-- a store at a place of a row of locals that holds no long -/
def st1 : LV → Nat → AV → (LV → Prop) → Prop
  | [], _, _, _ => False
  | _ :: l, 0, v, F => F (some v :: l)
  | a :: l, k + 1, v, F => st1 l k v (fun l' => F (a :: l'))
def noL : LV → Prop
  | [] => True
  | some (.inr (.inl _)) :: _ => False
  | _ :: l => noL l
theorem noL_nth : ∀ (l : LV), noL l → ∀ i z, nth l i ≠ some (.inr (.inl z))
  | [], _, i, z => by simp [nth]
  | some (.inl x) :: l, h, 0, z => by simp [nth]
  | some (.inr (.inr x)) :: l, h, 0, z => by simp [nth]
  | none :: l, h, 0, z => by simp [nth]
  | some (.inr (.inl x)) :: l, h, i, z => h.elim
  | some (.inl x) :: l, h, i + 1, z => noL_nth l h i z
  | some (.inr (.inr x)) :: l, h, i + 1, z => noL_nth l h i z
  | none :: l, h, i + 1, z => noL_nth l h i z
theorem st1_set : ∀ (l : LV) (k : Nat) (v : AV) (F : LV → Prop), st1 l k v F → k < l.length ∧ F (setl l k (some v))
  | [], _, _, _, h => h.elim
  | _ :: l, 0, v, F, h => ⟨Nat.zero_lt_succ _, h⟩
  | a :: l, k + 1, v, F, h => by
    obtain ⟨h1, h2⟩ := st1_set l k v _ h
    exact ⟨Nat.succ_lt_succ h1, h2⟩
theorem stl_of {l : LV} {k : Nat} {v : AV} {F : LV → Prop} (hn : noL l) (h : st1 l k v F) : stl l k v F := by
  obtain ⟨h1, h2⟩ := st1_set l k v F h
  refine ⟨h1, ?_⟩
  have h3 := noL_nth l hn (k - 1)
  split
  · rename_i z e; exact absurd e (h3 z)
  · exact h2
theorem stl_eq {l : LV} {i : Nat} {v : AV} {F : LV → Prop} (hn : noL l) : stl l i v F = st1 l i v F := by
  apply propext
  constructor
  · intro h
    obtain ⟨h1, -, h3⟩ := stl_spec h
    clear h hn
    induction l generalizing i F with
    | nil => exact absurd h1 (Nat.not_lt_zero _)
    | cons a l ih =>
      cases i with
      | zero => exact h3
      | succ i => exact ih (i := i) (F := fun l' => F (a :: l')) (Nat.lt_of_succ_lt_succ h1) h3
  · exact stl_of hn
theorem noL_e : noL [] = True := rfl
theorem noL_n {l : LV} : noL (none :: l) = noL l := rfl
theorem noL_i {l : LV} {x : Int} : noL (some (.inl x) :: l) = noL l := rfl
theorem noL_r {l : LV} {x : Option Nat} : noL (some (.inr (.inr x)) :: l) = noL l := rfl
theorem st1_0 {a : Option AV} {l : LV} {v : AV} {F : LV → Prop} : st1 (a :: l) 0 v F = F (some v :: l) := rfl
theorem st1_s {a : Option AV} {i : Nat} {l : LV} {v : AV} {F : LV → Prop} : st1 (a :: l) (i + 1) v F = st1 l i v (fun l' => F (a :: l')) := rfl
theorem x_iload {i : Nat} : xw g AT CL Q rt B (n + 1) ((pc, .iload i) :: k) ls (t) I R nx = (gI ls i (fun v => xw g AT CL Q rt B n k ls (.inl v :: t) I R nx)) := rfl
theorem x_lload {i : Nat} : xw g AT CL Q rt B (n + 1) ((pc, .lload i) :: k) ls (t) I R nx = (gL ls i (fun v => xw g AT CL Q rt B n k ls (.inr (.inl v) :: t) I R nx)) := rfl
theorem x_aload {i : Nat} : xw g AT CL Q rt B (n + 1) ((pc, .aload i) :: k) ls (t) I R nx = (gR ls i (fun v => xw g AT CL Q rt B n k ls (.inr (.inr v) :: t) I R nx)) := rfl
theorem x_istore {i : Nat} {v : Int} : xw g AT CL Q rt B (n + 1) ((pc, .istore i) :: k) ls (.inl v :: t) I R nx = (stl ls i (.inl v) (fun l => xw g AT CL Q rt B n k l (t) I R nx)) := rfl
theorem x_astore {i : Nat} {v : Option Nat} : xw g AT CL Q rt B (n + 1) ((pc, .astore i) :: k) ls (.inr (.inr v) :: t) I R nx = (stl ls i (.inr (.inr v)) (fun l => xw g AT CL Q rt B n k l (t) I R nx)) := rfl
theorem x_iinc {i : Nat} {c : Int} : xw g AT CL Q rt B (n + 1) ((pc, .iinc i c) :: k) ls (t) I R nx = (gI ls i (fun v => stl ls i (.inl (w32 (v + c))) (fun l => xw g AT CL Q rt B n k l (t) I R nx))) := rfl
theorem x_iconst {v : Int} : xw g AT CL Q rt B (n + 1) ((pc, .iconst v) :: k) ls (t) I R nx = (xw g AT CL Q rt B n k ls (.inl v :: t) I R nx) := rfl
theorem x_ldc2 {v : Nat} : xw g AT CL Q rt B (n + 1) ((pc, .ldc2_w v) :: k) ls (t) I R nx = (xw g AT CL Q rt B n k ls (.inr (.inl (v : Int)) :: t) I R nx) := rfl
theorem x_iadd {x y : Int} : xw g AT CL Q rt B (n + 1) ((pc, .iadd) :: k) ls (.inl y :: .inl x :: t) I R nx = (xw g AT CL Q rt B n k ls (.inl (w32 (x + y)) :: t) I R nx) := rfl
theorem x_isub {x y : Int} : xw g AT CL Q rt B (n + 1) ((pc, .isub) :: k) ls (.inl y :: .inl x :: t) I R nx = (xw g AT CL Q rt B n k ls (.inl (w32 (x - y)) :: t) I R nx) := rfl
theorem x_imul {x y : Int} : xw g AT CL Q rt B (n + 1) ((pc, .imul) :: k) ls (.inl y :: .inl x :: t) I R nx = (xw g AT CL Q rt B n k ls (.inl (w32 (x * y)) :: t) I R nx) := rfl
theorem x_iand {x y : Int} : xw g AT CL Q rt B (n + 1) ((pc, .iand) :: k) ls (.inl y :: .inl x :: t) I R nx = (xw g AT CL Q rt B n k ls (.inl (and32 x y) :: t) I R nx) := rfl
theorem x_ior {x y : Int} : xw g AT CL Q rt B (n + 1) ((pc, .ior) :: k) ls (.inl y :: .inl x :: t) I R nx = (xw g AT CL Q rt B n k ls (.inl (or32 x y) :: t) I R nx) := rfl
theorem x_ixor {x y : Int} : xw g AT CL Q rt B (n + 1) ((pc, .ixor) :: k) ls (.inl y :: .inl x :: t) I R nx = (xw g AT CL Q rt B n k ls (.inl (xor32 x y) :: t) I R nx) := rfl
theorem x_ishl {x y : Int} : xw g AT CL Q rt B (n + 1) ((pc, .ishl) :: k) ls (.inl y :: .inl x :: t) I R nx = (xw g AT CL Q rt B n k ls (.inl (shl32 x y) :: t) I R nx) := rfl
theorem x_ishr {x y : Int} : xw g AT CL Q rt B (n + 1) ((pc, .ishr) :: k) ls (.inl y :: .inl x :: t) I R nx = (xw g AT CL Q rt B n k ls (.inl (shr32 x y) :: t) I R nx) := rfl
theorem x_iushr {x y : Int} : xw g AT CL Q rt B (n + 1) ((pc, .iushr) :: k) ls (.inl y :: .inl x :: t) I R nx = (xw g AT CL Q rt B n k ls (.inl (ushr32 x y) :: t) I R nx) := rfl
theorem x_idiv {x y : Int} : xw g AT CL Q rt B (n + 1) ((pc, .idiv) :: k) ls (.inl y :: .inl x :: t) I R nx = (y ≠ 0 ∧ xw g AT CL Q rt B n k ls (.inl (w32 (x.tdiv y)) :: t) I R nx) := rfl
theorem x_irem {x y : Int} : xw g AT CL Q rt B (n + 1) ((pc, .irem) :: k) ls (.inl y :: .inl x :: t) I R nx = (y ≠ 0 ∧ xw g AT CL Q rt B n k ls (.inl (w32 (x.tmod y)) :: t) I R nx) := rfl
theorem x_ineg {x : Int} : xw g AT CL Q rt B (n + 1) ((pc, .ineg) :: k) ls (.inl x :: t) I R nx = (xw g AT CL Q rt B n k ls (.inl (w32 (-x)) :: t) I R nx) := rfl
theorem x_i2b {x : Int} : xw g AT CL Q rt B (n + 1) ((pc, .i2b) :: k) ls (.inl x :: t) I R nx = (xw g AT CL Q rt B n k ls (.inl (w8 x) :: t) I R nx) := rfl
theorem x_i2l {x : Int} : xw g AT CL Q rt B (n + 1) ((pc, .i2l) :: k) ls (.inl x :: t) I R nx = (xw g AT CL Q rt B n k ls (.inr (.inl x) :: t) I R nx) := rfl
theorem x_land {x y : Int} : xw g AT CL Q rt B (n + 1) ((pc, .land) :: k) ls (.inr (.inl y) :: .inr (.inl x) :: t) I R nx = (xw g AT CL Q rt B n k ls (.inr (.inl (and64 x y)) :: t) I R nx) := rfl
theorem x_lor {x y : Int} : xw g AT CL Q rt B (n + 1) ((pc, .lor) :: k) ls (.inr (.inl y) :: .inr (.inl x) :: t) I R nx = (xw g AT CL Q rt B n k ls (.inr (.inl (or64 x y)) :: t) I R nx) := rfl
theorem x_lshl {x y : Int} : xw g AT CL Q rt B (n + 1) ((pc, .lshl) :: k) ls (.inl y :: .inr (.inl x) :: t) I R nx = (xw g AT CL Q rt B n k ls (.inr (.inl (shl64 x y)) :: t) I R nx) := rfl
theorem x_lushr {x y : Int} : xw g AT CL Q rt B (n + 1) ((pc, .lushr) :: k) ls (.inl y :: .inr (.inl x) :: t) I R nx = (xw g AT CL Q rt B n k ls (.inr (.inl (ushr64 x y)) :: t) I R nx) := rfl
theorem x_lcmp {x y : Int} : xw g AT CL Q rt B (n + 1) ((pc, .lcmp) :: k) ls (.inr (.inl y) :: .inr (.inl x) :: t) I R nx = (xw g AT CL Q rt B n k ls (.inl (if x < y then -1 else if x = y then 0 else 1) :: t) I R nx) := rfl
theorem x_dupI {x : Int} : xw g AT CL Q rt B (n + 1) ((pc, .dup) :: k) ls (.inl x :: t) I R nx = (xw g AT CL Q rt B n k ls (.inl x :: .inl x :: t) I R nx) := rfl
theorem x_dupR {x : Option Nat} : xw g AT CL Q rt B (n + 1) ((pc, .dup) :: k) ls (.inr (.inr x) :: t) I R nx = (xw g AT CL Q rt B n k ls (.inr (.inr x) :: .inr (.inr x) :: t) I R nx) := rfl
theorem x_dup2 {x : Int} {r : Option Nat} : xw g AT CL Q rt B (n + 1) ((pc, .dup2) :: k) ls (.inl x :: .inr (.inr r) :: t) I R nx = (xw g AT CL Q rt B n k ls (.inl x :: .inr (.inr r) :: .inl x :: .inr (.inr r) :: t) I R nx) := rfl
theorem x_dup2I {x r : Int} : xw g AT CL Q rt B (n + 1) ((pc, .dup2) :: k) ls (.inl x :: .inl r :: t) I R nx = (xw g AT CL Q rt B n k ls (.inl x :: .inl r :: .inl x :: .inl r :: t) I R nx) := rfl
theorem x_icmp_eq {x y b : Int} : xw g AT CL Q rt B (n + 1) ((pc, .if_icmp .eq b) :: k) ls (.inl y :: .inl x :: t) I R nx = ((x = y → jm g AT CL Q rt B n b.toNat ls (t) I R nx) ∧ (x ≠ y → xw g AT CL Q rt B n k ls (t) I R nx)) := rfl
theorem x_if_eq {x b : Int} : xw g AT CL Q rt B (n + 1) ((pc, .ifCond .eq b) :: k) ls (.inl x :: t) I R nx = ((x = 0 → jm g AT CL Q rt B n b.toNat ls (t) I R nx) ∧ (x ≠ 0 → xw g AT CL Q rt B n k ls (t) I R nx)) := rfl
theorem x_icmp_ne {x y b : Int} : xw g AT CL Q rt B (n + 1) ((pc, .if_icmp .ne b) :: k) ls (.inl y :: .inl x :: t) I R nx = ((x ≠ y → jm g AT CL Q rt B n b.toNat ls (t) I R nx) ∧ (x = y → xw g AT CL Q rt B n k ls (t) I R nx)) := rfl
theorem x_if_ne {x b : Int} : xw g AT CL Q rt B (n + 1) ((pc, .ifCond .ne b) :: k) ls (.inl x :: t) I R nx = ((x ≠ 0 → jm g AT CL Q rt B n b.toNat ls (t) I R nx) ∧ (x = 0 → xw g AT CL Q rt B n k ls (t) I R nx)) := rfl
theorem x_icmp_lt {x y b : Int} : xw g AT CL Q rt B (n + 1) ((pc, .if_icmp .lt b) :: k) ls (.inl y :: .inl x :: t) I R nx = ((x < y → jm g AT CL Q rt B n b.toNat ls (t) I R nx) ∧ (y ≤ x → xw g AT CL Q rt B n k ls (t) I R nx)) := rfl
theorem x_if_lt {x b : Int} : xw g AT CL Q rt B (n + 1) ((pc, .ifCond .lt b) :: k) ls (.inl x :: t) I R nx = ((x < 0 → jm g AT CL Q rt B n b.toNat ls (t) I R nx) ∧ (0 ≤ x → xw g AT CL Q rt B n k ls (t) I R nx)) := rfl
theorem x_icmp_ge {x y b : Int} : xw g AT CL Q rt B (n + 1) ((pc, .if_icmp .ge b) :: k) ls (.inl y :: .inl x :: t) I R nx = ((y ≤ x → jm g AT CL Q rt B n b.toNat ls (t) I R nx) ∧ (x < y → xw g AT CL Q rt B n k ls (t) I R nx)) := rfl
theorem x_if_ge {x b : Int} : xw g AT CL Q rt B (n + 1) ((pc, .ifCond .ge b) :: k) ls (.inl x :: t) I R nx = ((0 ≤ x → jm g AT CL Q rt B n b.toNat ls (t) I R nx) ∧ (x < 0 → xw g AT CL Q rt B n k ls (t) I R nx)) := rfl
theorem x_icmp_gt {x y b : Int} : xw g AT CL Q rt B (n + 1) ((pc, .if_icmp .gt b) :: k) ls (.inl y :: .inl x :: t) I R nx = ((y < x → jm g AT CL Q rt B n b.toNat ls (t) I R nx) ∧ (x ≤ y → xw g AT CL Q rt B n k ls (t) I R nx)) := rfl
theorem x_if_gt {x b : Int} : xw g AT CL Q rt B (n + 1) ((pc, .ifCond .gt b) :: k) ls (.inl x :: t) I R nx = ((0 < x → jm g AT CL Q rt B n b.toNat ls (t) I R nx) ∧ (x ≤ 0 → xw g AT CL Q rt B n k ls (t) I R nx)) := rfl
theorem x_icmp_le {x y b : Int} : xw g AT CL Q rt B (n + 1) ((pc, .if_icmp .le b) :: k) ls (.inl y :: .inl x :: t) I R nx = ((x ≤ y → jm g AT CL Q rt B n b.toNat ls (t) I R nx) ∧ (y < x → xw g AT CL Q rt B n k ls (t) I R nx)) := rfl
theorem x_if_le {x b : Int} : xw g AT CL Q rt B (n + 1) ((pc, .ifCond .le b) :: k) ls (.inl x :: t) I R nx = ((x ≤ 0 → jm g AT CL Q rt B n b.toNat ls (t) I R nx) ∧ (0 < x → xw g AT CL Q rt B n k ls (t) I R nx)) := rfl
theorem x_ifnn_s {r : Option Nat} {b : Int} : xw g AT CL Q rt B (n + 1) ((pc, .ifnonnull b) :: k) ls (.inr (.inr r) :: t) I R nx = ((r ≠ none → jm g AT CL Q rt B n b.toNat ls (t) I R nx) ∧ (r = none → xw g AT CL Q rt B n k ls (t) I R nx)) := rfl
theorem x_goto {b : Int} : xw g AT CL Q rt B (n + 1) ((pc, .goto b) :: k) ls (t) I R nx = (jm g AT CL Q rt B n b.toNat ls (t) I R nx) := rfl
theorem x_fall {b : Int} : xw g AT CL Q rt B (n + 1) ((pc, .goto_w b) :: k) ls (t) I R nx = (jm g AT CL Q rt B n b.toNat ls (t) I R nx) := rfl
theorem x_tsw {d lo hi x : Int} {bs : Array Int} : xw g AT CL Q rt B (n + 1) ((pc, .tableswitch d lo hi bs) :: k) ls (.inl x :: t) I R nx = ((x < lo ∨ hi < x → jm g AT CL Q rt B n d.toNat ls (t) I R nx) ∧ tsw (fun b => jm g AT CL Q rt B n b ls (t) I R nx) x lo bs.toList) := rfl
theorem x_iaload {j : Int} {o : Nat} : xw g AT CL Q rt B (n + 1) ((pc, .iaload) :: k) ls (.inl j :: .inr (.inr (some o)) :: t) I R nx = (ldS g I o j (fun v => xw g AT CL Q rt B n k ls (.inl v :: t) I R nx)) := rfl
theorem x_baload {j : Int} {o : Nat} : xw g AT CL Q rt B (n + 1) ((pc, .baload) :: k) ls (.inl j :: .inr (.inr (some o)) :: t) I R nx = (ldA (shp o) 2 3 j (xw g AT CL Q rt B n k ls (.inl (I o j.toNat) :: t) I R nx)) := rfl
theorem x_laload {j : Int} {o : Nat} : xw g AT CL Q rt B (n + 1) ((pc, .laload) :: k) ls (.inl j :: .inr (.inr (some o)) :: t) I R nx = (ldA (shp o) 4 4 j (xw g AT CL Q rt B n k ls (.inr (.inl (I o j.toNat)) :: t) I R nx)) := rfl
theorem x_aaload {j : Int} {o : Nat} : xw g AT CL Q rt B (n + 1) ((pc, .aaload) :: k) ls (.inl j :: .inr (.inr (some o)) :: t) I R nx = (ldA (shp o) 5 6 j (xw g AT CL Q rt B n k ls (.inr (.inr (R o j.toNat)) :: t) I R nx)) := rfl
theorem x_iastore {v j : Int} {o : Nat} : xw g AT CL Q rt B (n + 1) ((pc, .iastore) :: k) ls (.inl v :: .inl j :: .inr (.inr (some o)) :: t) I R nx = (ldA (shp o) 1 1 j (xw g AT CL Q rt B n k ls (t) (upI I o j.toNat v) R nx)) := rfl
theorem x_bastore {v j : Int} {o : Nat} : xw g AT CL Q rt B (n + 1) ((pc, .bastore) :: k) ls (.inl v :: .inl j :: .inr (.inr (some o)) :: t) I R nx = (stB (shp o) v j (fun v => xw g AT CL Q rt B n k ls (t) (upI I o j.toNat v) R nx)) := rfl
theorem x_lastore {v j : Int} {o : Nat} : xw g AT CL Q rt B (n + 1) ((pc, .lastore) :: k) ls (.inr (.inl v) :: .inl j :: .inr (.inr (some o)) :: t) I R nx = (ldA (shp o) 4 4 j (xw g AT CL Q rt B n k ls (t) (upI I o j.toNat v) R nx)) := rfl
theorem x_aastore {q : Nat} {j : Int} {o : Nat} : xw g AT CL Q rt B (n + 1) ((pc, .aastore) :: k) ls (.inr (.inr (some q)) :: .inl j :: .inr (.inr (some o)) :: t) I R nx = (ldA (shp o) 5 6 j (shp q = (0, if (shp o).1 = 5 then 1 else 0) ∧ xw g AT CL Q rt B n k ls (t) I (upR R o j.toNat (some q)) nx)) := rfl
theorem x_alen {o : Nat} : xw g AT CL Q rt B (n + 1) ((pc, .arraylength) :: k) ls (.inr (.inr (some o)) :: t) I R nx = (lenS g o (fun v => xw g AT CL Q rt B n k ls (.inl v :: t) I R nx)) := rfl
theorem x_getf {c o : Nat} : xw g AT CL Q rt B (n + 1) ((pc, .getfield c) :: k) ls (.inr (.inr (some o)) :: t) I R nx = (shp o = (0, c / 100) ∧ xw g AT CL Q rt B n k ls (.inl (I o (c % 100)) :: t) I R nx) := rfl
theorem x_getr {c o : Nat} : xw g AT CL Q rt B (n + 1) ((pc, .getstatic c) :: k) ls (.inr (.inr (some o)) :: t) I R nx = (shp o = (0, c / 100) ∧ xw g AT CL Q rt B n k ls (.inr (.inr (R o (c % 100))) :: t) I R nx) := rfl
theorem x_getl {c o : Nat} : xw g AT CL Q rt B (n + 1) ((pc, .dload c) :: k) ls (.inr (.inr (some o)) :: t) I R nx = (shp o = (0, c / 100) ∧ xw g AT CL Q rt B n k ls (.inr (.inl (I o (c % 100))) :: t) I R nx) := rfl
theorem x_putf {c o : Nat} {v : Int} : xw g AT CL Q rt B (n + 1) ((pc, .putfield c) :: k) ls (.inl v :: .inr (.inr (some o)) :: t) I R nx = (shp o = (0, c / 100) ∧ xw g AT CL Q rt B n k ls (t) (upI I o (c % 100) v) R nx) := rfl
theorem x_putz {c o : Nat} {v : Int} : xw g AT CL Q rt B (n + 1) ((pc, .instanceof c) :: k) ls (.inl v :: .inr (.inr (some o)) :: t) I R nx = (shp o = (0, c / 100) ∧ (v = 0 ∨ v = 1) ∧ xw g AT CL Q rt B n k ls (t) (upI I o (c % 100) v) R nx) := rfl
theorem x_putl {c o : Nat} {v : Int} : xw g AT CL Q rt B (n + 1) ((pc, .dstore c) :: k) ls (.inr (.inl v) :: .inr (.inr (some o)) :: t) I R nx = (shp o = (0, c / 100) ∧ xw g AT CL Q rt B n k ls (t) (upI I o (c % 100) v) R nx) := rfl
theorem x_putr {c o : Nat} {q : Option Nat} : xw g AT CL Q rt B (n + 1) ((pc, .putstatic c) :: k) ls (.inr (.inr q) :: .inr (.inr (some o)) :: t) I R nx = (shp o = (0, c / 100) ∧ xw g AT CL Q rt B n k ls (t) I (upR R o (c % 100) q) nx) := rfl
theorem x_new {c q : Nat} : xw g AT CL Q rt B (n + 1) ((pc, .new c) :: k) ls t I R (q :: nx) = (shp q = (0, c) ∧ xw g AT CL Q rt B n k ls (.inr (.inr (some q)) :: t) I R nx) := rfl
theorem x_newa {a : ArrayType} {v : Int} {q : Nat} : xw g AT CL Q rt B (n + 1) ((pc, .newarray a) :: k) ls (.inl v :: t) I R (q :: nx) = (0 ≤ v ∧ v ≤ 100000 ∧ shp q = (atK a, v.toNat) ∧ xw g AT CL Q rt B n k ls (.inr (.inr (some q)) :: t) I R nx) := rfl
theorem x_anewa {a : Nat} {v : Int} {q : Nat} : xw g AT CL Q rt B (n + 1) ((pc, .anewarray a) :: k) ls (.inl v :: t) I R (q :: nx) = (0 ≤ v ∧ v ≤ 100000 ∧ shp q = (a, v.toNat) ∧ xw g AT CL Q rt B n k ls (.inr (.inr (some q)) :: t) I R nx) := rfl
theorem x_max {x y : Int} : xw g AT CL Q rt B (n + 1) ((pc, .fadd) :: k) ls (.inl y :: .inl x :: t) I R nx = (sh4 t (xw g AT CL Q rt B n k ls (.inl (max x y) :: t) I R nx)) := rfl
theorem x_min {x y : Int} : xw g AT CL Q rt B (n + 1) ((pc, .fsub) :: k) ls (.inl y :: .inl x :: t) I R nx = (sh4 t (xw g AT CL Q rt B n k ls (.inl (min x y) :: t) I R nx)) := rfl
theorem x_abs {x : Int} : xw g AT CL Q rt B (n + 1) ((pc, .fneg) :: k) ls (.inl x :: t) I R nx = (sh4 t (xw g AT CL Q rt B n k ls (.inl (if 0 ≤ x then x else w32 (0 - x)) :: t) I R nx)) := rfl
theorem x_pop {o : Nat} : xw g AT CL Q rt B (n + 1) ((pc, .pop) :: k) ls (.inr (.inr (some o)) :: t) I R nx = (sh4 t (xw g AT CL Q rt B n k ls (t) I R nx)) := rfl
theorem x_copy {m dp sp : Int} {o p : Nat} : xw g AT CL Q rt B (n + 1) ((pc, .pop2) :: k) ls (.inl m :: .inl dp :: .inr (.inr (some p)) :: .inl sp :: .inr (.inr (some o)) :: t) I R nx = (sh4 t ((shp p).1 = (shp o).1 ∧ ((shp p).1 = 1 ∨ (shp p).1 = 2) ∧ 0 ≤ m ∧ 0 ≤ dp ∧ 0 ≤ sp ∧ sp + m ≤ (shp o).2 ∧ dp + m ≤ (shp p).2 ∧ xw g AT CL Q rt B n k ls (t) (cpI I o p sp.toNat dp.toNat m.toNat) R nx)) := rfl
theorem x_call {y c : Nat} : xw g AT CL Q rt B (n + 1) ((pc, .invokeinterface y c) :: k) ls t I R nx = (spl (c / 10 % 10) [] t (fun a t => sh4 t (rcv (c / 1000 % 100) a ∧ if c % 10 = 1 then cI CL y a I R (nx.take (c / 100000)) (fun v I R => xw g AT CL Q rt B n k ls (.inl v :: t) I R (nx.drop (c / 100000))) else cV CL y a I R (nx.take (c / 100000)) (fun I R => xw g AT CL Q rt B n k ls t I R (nx.drop (c / 100000)))))) := rfl
theorem x_iret {v : Int} : xw g AT CL Q rt B (n + 1) ((pc, .ireturn) :: k) ls [.inl v] I R nx = ((rt = 1 ∨ rt = 2 ∧ (v = 0 ∨ v = 1)) ∧ Q (some (.inl v)) I R) := rfl
theorem x_ret : xw g AT CL Q rt B (n + 1) ((pc, .return_) :: k) ls [] I R nx = (([] : List AV) = [] ∧ rt = 0 ∧ Q none I R) := rfl
theorem sh4_0 {F : Prop} : sh4 [] F = F := rfl
theorem sh4_1 {F : Prop} {a : AV} : sh4 [a] F = F := rfl
theorem sh4_2 {F : Prop} {a b : AV} : sh4 [a, b] F = F := rfl
theorem sh4_3 {F : Prop} {a b c : AV} : sh4 [a, b, c] F = F := rfl
theorem sh4_4 {F : Prop} {a b c d : AV} : sh4 [a, b, c, d] F = F := rfl
theorem rcv_0 {a : List AV} : rcv 0 a = True := rfl
theorem rcv_9 {o : Nat} {a : List AV} : rcv 99 (.inr (.inr (some o)) :: a) = True := rfl
theorem rcv_k {o m : Nat} {a : List AV} (h : m ≠ 98) : rcv (m + 1) (.inr (.inr (some o)) :: a) = (shp o = (0, m)) := by
  unfold rcv
  rw [if_neg (by omega)]
  dsimp only
  rw [if_neg (by omega), Nat.add_sub_cancel]
theorem spl_0 {a t : List AV} {F : List AV → List AV → Prop} : spl 0 a t F = F a t := rfl
theorem spl_s {m : Nat} {v : AV} {a t : List AV} {F : List AV → List AV → Prop} : spl (m + 1) a (v :: t) F = spl m (v :: a) t F := rfl
theorem ldA_k {a b c e : Nat} {j : Int} {F : Prop} : ldA (a, c) b e j F = ((a = b ∨ a = e) ∧ 0 ≤ j ∧ j < c ∧ F) := rfl
theorem ldS_k {o c : Nat} {j : Int} {F : Int → Prop} (h : shp o = (1, c)) : ldS g I o j F = (0 ≤ j ∧ j < c ∧ F (I o j.toNat)) := by unfold ldS; rw [h]; rfl
theorem ldS_x {j : Int} {F : Int → Prop} : ldS g I 999 j F = (0 ≤ j ∧ j < g.2.1 ∧ F (g.2.2 j.toNat)) := rfl
end XROWS
