/-! the code of the methods, in blocks -/
def tpc (B : List CD) (b : Int) : Int := if b.toNat < 100000 then (pcO (B.getD b.toNat []) : Int) else b - 100000
/-- what the machine's own instruction may be, with its length -/
def cands (own : Nat) (ini : Bool) (B : List CD) (pc : Nat) (i : Instr) : List (Instr × Nat) := match i with
  | .iload k => (.iload k, 2) :: (if h : k < 4 then [(.iload_n ⟨k, h⟩, 1)] else [])
  | .lload k => (.lload k, 2) :: (if h : k < 4 then [(.lload_n ⟨k, h⟩, 1)] else [])
  | .aload k => (.aload k, 2) :: (if h : k < 4 then [(.aload_n ⟨k, h⟩, 1)] else [])
  | .istore k => (.istore k, 2) :: (if h : k < 4 then [(.istore_n ⟨k, h⟩, 1)] else [])
  | .astore k => (.astore k, 2) :: (if h : k < 4 then [(.astore_n ⟨k, h⟩, 1)] else [])
  | .iinc k c => [(.iinc k c, 3), (.iinc k c, 6)]
  | .iconst v => (if -1 ≤ v ∧ v ≤ 5 then [(.iconst v, 1)] else []) ++ (if -128 ≤ v ∧ v < 128 then [(.bipush v, 2)] else []) ++ (if -32768 ≤ v ∧ v < 32768 then [(.sipush v, 3)] else []) ++ (lkK.filter (fun q => q.1 == own && q.2.2.1 == v)).flatMap (fun q => [(.ldc q.2.1, 2), (.ldc_w q.2.1, 3)])
  | .ldc2_w v => (if h : v < 2 then [(.lconst ⟨v, h⟩, 1)] else []) ++ (lkL.filter (fun q => q.1 == own && q.2.2.1 == v)).map (fun q => (.ldc2_w q.2.1, 3))
  | .dup_x1 => if own = 8 then [(.ldc 155, 2)] else []
  | .if_icmp c b => [(.if_icmp c (tpc B b - pc), 3)]
  | .ifCond c b => [(.ifCond c (tpc B b - pc), 3)]
  | .ifnonnull b => [(.ifnonnull (tpc B b - pc), 3)]
  | .goto b => [(.goto (tpc B b - pc), 3)]
  | .tableswitch d lo hi bs => if (bs.toList.length : Int) = hi - lo + 1 then (List.range 4).map (fun k => (.tableswitch (tpc B d - pc) lo hi (bs.map (fun b => tpc B b - pc)), 4 * bs.size + 13 + k)) else []
  | .dload c => if fkd c = 3 then (lkF.filter (fun q => q.1 == own && q.2.2.1 == c)).map (fun q => (.getfield q.2.1, 3)) else []
  | .dstore c => if fkd c = 3 ∧ ((fT c).2.2.2 = false ∨ (ini = true ∧ own = c / 100)) then (lkF.filter (fun q => q.1 == own && q.2.2.1 == c)).map (fun q => (.putfield q.2.1, 3)) else []
  | .getfield c => if fkd c < 2 then (lkF.filter (fun q => q.1 == own && q.2.2.1 == c)).map (fun q => (.getfield q.2.1, 3)) else []
  | .getstatic c => if fkd c = 2 then (lkF.filter (fun q => q.1 == own && q.2.2.1 == c)).map (fun q => (.getfield q.2.1, 3)) else []
  | .putfield c => if fkd c = 0 ∧ ((fT c).2.2.2 = false ∨ (ini = true ∧ own = c / 100)) then (lkF.filter (fun q => q.1 == own && q.2.2.1 == c)).map (fun q => (.putfield q.2.1, 3)) else []
  | .instanceof c => if fkd c = 1 ∧ ((fT c).2.2.2 = false ∨ (ini = true ∧ own = c / 100)) then (lkF.filter (fun q => q.1 == own && q.2.2.1 == c)).map (fun q => (.putfield q.2.1, 3)) else []
  | .putstatic c => if fkd c = 2 ∧ ((fT c).2.2.2 = false ∨ (ini = true ∧ own = c / 100)) then (lkF.filter (fun q => q.1 == own && q.2.2.1 == c)).map (fun q => (.putfield q.2.1, 3)) else []
  | .new c => (lkC.filter (fun q => q.1 == own && q.2.2.1 == c)).map (fun q => (.new q.2.1, 3))
  | .newarray a => if atK a < 8 then [(.newarray a, 2)] else []
  | .anewarray a => (lkC.filter (fun q => q.1 == own && (q.2.2.1 == 1 && a == 5 || q.2.2.1 == 0 && a == 6))).map (fun q => (.anewarray q.2.1, 3))
  | .pop => (lkO.filter (fun q => q.1 == own)).map (fun q => (.invokespecial q.2.1, 3))
  | .pop2 => (lkA.filter (fun q => q.1 == own)).map (fun q => (.invokestatic q.2.1, 3))
  | .fadd => (lkX.filter (fun q => q.1 == own && q.2.2.1 == 0)).map (fun q => (.invokestatic q.2.1, 3))
  | .fsub => (lkX.filter (fun q => q.1 == own && q.2.2.1 == 1)).map (fun q => (.invokestatic q.2.1, 3))
  | .fneg => (lkX.filter (fun q => q.1 == own && q.2.2.1 == 2)).map (fun q => (.invokestatic q.2.1, 3))
  | .caload => if own = 8 then [(.invokevirtual 157, 3)] else []
  | .invokeinterface y c => if decide (c / 10 % 10 = (mPl.getD y (0, 0, 0, 0, 99)).2.2.2.2 + (if mS y then 0 else 1)) then (lkM.filter (fun q => q.1 == own && q.2.2.1 == y && decide (q.2.2.2.1 = 0 → c / 1000 % 100 = mO y + 1 ∧ mO y < 12) && decide (q.2.2.2.1 = 2 → c / 1000 % 100 = 99))).map (fun q => (if q.2.2.2.1 = 0 then .invokevirtual q.2.1 else if q.2.2.2.1 = 1 then .invokestatic q.2.1 else .invokespecial q.2.1, 3)) ++ (lkN.filter (fun q => q.1 == own && q.2.2.1 == y && decide (c / 1000 % 100 = 99))).map (fun q => (.invokespecial q.2.1, 3)) else []
  | i => [(i, 1)]
def isG : Instr → Option Int
  | .goto_w b => some b
  | _ => none
def chkL (own : Nat) (ini : Bool) (cc : ByteArray) (B : List CD) : CD → Bool
  | [] => true
  | (pc, i) :: k => match isG i with
    | some b => decide (tpc B b = pc)
    | none => (match decode cc pc with
      | .ok q => (cands own ini B pc i).any (fun z => decide (z.1 = q.1) && decide (z.2 = q.2)) && (match k with
        | [] => true
        | (pc', _) :: _ => decide (pc' = pc + q.2))
      | .error _ => false) && chkL own ini cc B k
