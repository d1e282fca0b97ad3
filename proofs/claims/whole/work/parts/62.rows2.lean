/-! a row's cost is the sum of its sets' prices -/
def r4 (s : ST) (n : Nat) (r : Nat → Int) : ST := fun q p => if q = 4 ∧ p < n then r p else s q p
theorem r4_pr {s : ST} {n a b : Nat} {r : Nat → Int} : prC (r4 s n r) a b = prC s a b := by
  have e : ∀ q k, q ≠ 4 → r4 s n r q k = s q k := fun q k h => if_neg (fun z => h z.1)
  unfold prC
  rw [e 0 a (by decide), e 0 b (by decide), e 1 a (by decide), e 1 b (by decide), e 3 a (by decide)]
theorem r4_4 {s : ST} {n a : Nat} {r : Nat → Int} (h : a < n) : r4 s n r 4 a = r a := if_pos ⟨rfl, h⟩
theorem sumTo_0 : ∀ n, sumTo (fun _ => 0) n = 0
  | 0 => rfl
  | n + 1 => by simp only [sumTo, sumTo_0 n, Int.add_zero]
theorem costC_set {s : ST} {n x : Nat} {r : Nat → Int} {c : Int} (h : ∀ a, a < n → (x.testBit a = true ↔ r a = c)) : costC (s4 s x) n 0 = costC (r4 s n r) n c := by
  have e4 : ∀ a, a < n → (s4 s x 4 a = 0 ↔ r4 s n r 4 a = c) := fun a ha => by rw [s4_4, r4_4 ha]; exact h a ha
  have eb : ∀ a, behC (s4 s x) a 0 n = behC (r4 s n r) a c n := fun a => by
    unfold behC
    refine sumTo_congr n (fun b hb => ?_)
    rw [s4_pr, r4_pr]
    by_cases z : a < b ∧ s4 s x 4 b = 0
    · rw [if_pos z, if_pos ⟨z.1, (e4 b hb).mp z.2⟩]
    · rw [if_neg z, if_neg (fun y => z ⟨y.1, (e4 b hb).mpr y.2⟩)]
  have e5 : sumC (s4 s x) 0 n n = sumC (r4 s n r) c n n := by
    unfold sumC
    refine sumTo_congr n (fun a ha => ?_)
    rw [eb]
    by_cases z : s4 s x 4 a = 0
    · rw [if_pos z, if_pos ((e4 a ha).mp z)]
    · rw [if_neg z, if_neg (fun y => z ((e4 a ha).mpr y))]
  have e6 : shyC (s4 s x) 0 n = shyC (r4 s n r) c n := by
    unfold shyC
    refine sumTo_congr n (fun a ha => ?_)
    have e2 : s4 s x 2 a = r4 s n r 2 a := by
      show s 2 a = if 2 = 4 ∧ a < n then r a else s 2 a
      rw [if_neg (fun z => absurd z.1 (by decide))]
    rw [e2]
    by_cases z : s4 s x 4 a = 0
    · rw [if_pos z, if_pos ((e4 a ha).mp z)]
    · rw [if_neg z, if_neg (fun y => z ((e4 a ha).mpr y))]
  unfold costC
  rw [e5, e6]
theorem costC_0 {s : ST} {n : Nat} : costC (s4 s 0) n 0 = 0 := by
  have e4 : ∀ a, ¬ s4 s 0 4 a = 0 := fun a h => by
    have := s4_4.mp h
    rw [Nat.zero_testBit] at this
    exact absurd this (by decide)
  have e5 : sumC (s4 s 0) 0 n n = 0 := by
    unfold sumC
    rw [sumTo_congr (f' := fun _ => 0) n (fun a _ => if_neg (e4 a)), sumTo_0]
  have e6 : shyC (s4 s 0) 0 n = 0 := by
    unfold shyC
    rw [sumTo_congr (f' := fun _ => 0) n (fun a _ => if_neg (e4 a)), sumTo_0]
  unfold costC
  rw [e5, e6]
  rfl
theorem pz_set {s : ST} {n x : Nat} {r : Nat → Int} {c : Int} (h : ∀ a, a < n → (x.testBit a = true ↔ r a = c)) : pz s n x = costC (r4 s n r) n c := by
  unfold pz
  split
  · rename_i z
    rw [← costC_set h, z, costC_0]
  · exact costC_set h
theorem pc_sel {P : Nat → Bool} : ∀ n, n ≤ 16 → ((pcN (sel P n) : Nat) : Int) = sumTo (fun i => if P i = true then 1 else 0) n
  | 0, _ => by
    show ((pcN 0 : Nat) : Int) = 0
    rw [pc_0]
    omega
  | n + 1, h => by
    have ih := pc_sel (P := P) n (by omega)
    show ((pcN (sel P n + if P n = true then 2 ^ n else 0) : Nat) : Int) = sumTo _ n + if P n = true then 1 else 0
    rw [← ih]
    split
    · rw [Nat.add_comm, pc_hi (by omega) (sel_lt P n)]; omega
    · rw [Nat.add_zero, Int.add_zero]
theorem Wy_row {s : ST} {bd : Nat → Int} {n m : Nat} {v : Int} (hn : n ≤ 7) : Wy s bd n m (2 ^ n - 1) v ↔ ∃ r : Nat → Nat, (∀ a, a < n → r a < m) ∧ (∀ c : Nat, c < m → lyS (r4 s n (fun a => (r a : Int))) c n ≤ bd c) ∧ v = allC (r4 s n (fun a => (r a : Int))) n m := by
  have pp : 0 < 2 ^ n := Nat.pow_pos (by decide)
  rw [Wy_Rw m _ v (by omega)]
  have tb : ∀ a, a < n → (2 ^ n - 1).testBit a = true := fun a ha => by rw [Nat.testBit_two_pow_sub_one]; simp [ha]
  have e1 : ∀ (r : Nat → Nat) (c a : Nat), a < n → (((2 ^ n - 1).testBit a && r a == c) = true ↔ (r a : Int) = (c : Int)) := fun r c a ha => by
    rw [tb a ha]
    simp only [Bool.true_and, beq_iff_eq]
    omega
  have e2 : ∀ (r : Nat → Nat) (c : Nat), pz s n (sel (fun a => (2 ^ n - 1).testBit a && r a == c) n) = costC (r4 s n (fun a => (r a : Int))) n c := fun r c => pz_set (fun a ha => by
    rw [sel_tb]
    simp only [ha, decide_true, Bool.true_and]
    exact e1 r c a ha)
  have e3 : ∀ (r : Nat → Nat) (c : Nat), ((pcN (sel (fun a => (2 ^ n - 1).testBit a && r a == c) n) : Nat) : Int) = lyS (r4 s n (fun a => (r a : Int))) c n := fun r c => by
    rw [pc_sel n (by omega)]
    unfold lyS
    refine sumTo_congr n (fun a ha => ?_)
    rw [r4_4 ha]
    by_cases z : (r a : Int) = (c : Int)
    · rw [if_pos ((e1 r c a ha).mpr z), if_pos z]
    · rw [if_neg (fun y => z ((e1 r c a ha).mp y)), if_neg z]
  constructor
  · rintro ⟨r, r1, r2, r3⟩
    refine ⟨r, fun a ha => r1 a ha (tb a ha), fun c hc => by rw [← e3]; exact r2 c hc, ?_⟩
    rw [r3]
    unfold allC
    exact sumTo_congr m (fun c _ => e2 r c)
  · rintro ⟨r, r1, r2, r3⟩
    refine ⟨r, fun a ha _ => r1 a ha, fun c hc => by rw [e3]; exact r2 c hc, ?_⟩
    rw [r3]
    unfold allC
    exact sumTo_congr m (fun c _ => (e2 r c).symm)
