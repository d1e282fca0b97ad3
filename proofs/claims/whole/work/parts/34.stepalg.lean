/-! a step: the best of all exchanges and moves -/
abbrev T4 : Type := Int × Int × Int × Int
def cons4 (q r : T4) : T4 := if r.1 < q.1 then r else q
noncomputable def mvC (s : ST) (n a : Nat) (k : Int) : Int := cmC s n a k + clC s n a (s 4 a)
def exOk (s : ST) (a b : Nat) : Prop := s 4 a ≠ -1 ∧ s 4 b ≠ -1 ∧ s 4 a ≠ s 4 b
def mvOk (s : ST) (n a k : Nat) : Prop := s 4 a ≠ -1 ∧ (k : Int) ≠ s 4 a ∧ lyS s k n < s 40 k
noncomputable def exIn (s : ST) (n a : Nat) : Nat → T4 → T4
  | 0, q => q
  | b + 1, q => if a < b ∧ s 4 a ≠ -1 ∧ s 4 b ≠ -1 ∧ s 4 a ≠ s 4 b then cons4 (exIn s n a b q) (exC s n a b, (a : Int), (b : Int), s 4 b) else exIn s n a b q
noncomputable def exO (s : ST) (n : Nat) : Nat → T4
  | 0 => (0, -1, -1, -1)
  | a + 1 => exIn s n a n (exO s n a)
noncomputable def mvIn (s : ST) (n a : Nat) : Nat → T4 → T4
  | 0, q => q
  | k + 1, q => if s 4 a ≠ -1 ∧ (k : Int) ≠ s 4 a ∧ lyS s k n < s 40 k then cons4 (mvIn s n a k q) (mvC s n a k, (a : Int), -1, (k : Int)) else mvIn s n a k q
noncomputable def mvO (s : ST) (n m : Nat) : Nat → T4
  | 0 => exO s n n
  | a + 1 => mvIn s n a m (mvO s n m a)
noncomputable def bst (s : ST) (n m : Nat) : T4 := mvO s n m n
noncomputable def stS (s : ST) (n m : Nat) : ST := if (bst s n m).1 < 0 then (if (bst s n m).2.2.1 = -1 then us s 4 (bst s n m).2.1.toNat (bst s n m).2.2.2 else us (us s 4 (bst s n m).2.2.1.toNat (s 4 (bst s n m).2.1.toNat)) 4 (bst s n m).2.1.toNat (bst s n m).2.2.2) else s
/-- what a choice is: none, a move or an exchange -/
def V4 (s : ST) (n m : Nat) (q : T4) : Prop := (q = (0, -1, -1, -1)) ∨ (q.1 < 0 ∧ ∃ a : Nat, a < n ∧ q.2.1 = a ∧ ((q.2.2.1 = -1 ∧ ∃ k : Nat, k < m ∧ q.2.2.2 = k ∧ mvOk s n a k ∧ q.1 = mvC s n a k) ∨ (∃ b : Nat, b < n ∧ a < b ∧ q.2.2.1 = b ∧ q.2.2.2 = s 4 b ∧ exOk s a b ∧ q.1 = exC s n a b)))
theorem V4_le {s : ST} {n m : Nat} {q : T4} (h : V4 s n m q) : q.1 ≤ 0 := by
  rcases h with rfl | ⟨h, -⟩
  · exact Int.le_refl _
  · omega
theorem exIn_V {s : ST} {n m a : Nat} {q : T4} (ha : a < n) (hq : V4 s n m q) : ∀ b, b ≤ n → V4 s n m (exIn s n a b q)
  | 0, _ => hq
  | b + 1, hb => by
    have ih := exIn_V ha hq b (by omega)
    unfold exIn
    split
    · rename_i z
      unfold cons4
      split
      · rename_i y
        exact Or.inr ⟨by have := V4_le ih; omega, a, ha, rfl, Or.inr ⟨b, by omega, z.1, rfl, rfl, z.2, rfl⟩⟩
      · exact ih
    · exact ih
theorem exO_V {s : ST} {n m : Nat} : ∀ a, a ≤ n → V4 s n m (exO s n a)
  | 0, _ => Or.inl rfl
  | a + 1, ha => exIn_V (by omega) (exO_V a (by omega)) n (Nat.le_refl n)
theorem mvIn_V {s : ST} {n m a : Nat} {q : T4} (ha : a < n) (hq : V4 s n m q) : ∀ k, k ≤ m → V4 s n m (mvIn s n a k q)
  | 0, _ => hq
  | k + 1, hk => by
    have ih := mvIn_V ha hq k (by omega)
    unfold mvIn
    split
    · rename_i z
      unfold cons4
      split
      · rename_i y
        exact Or.inr ⟨by have := V4_le ih; omega, a, ha, rfl, Or.inl ⟨rfl, k, by omega, rfl, z, rfl⟩⟩
      · exact ih
    · exact ih
theorem mvO_V {s : ST} {n m : Nat} : ∀ a, a ≤ n → V4 s n m (mvO s n m a)
  | 0, _ => exO_V n (Nat.le_refl n)
  | a + 1, ha => mvIn_V (by omega) (mvO_V a (by omega)) m (Nat.le_refl m)
theorem bst_V {s : ST} {n m : Nat} : V4 s n m (bst s n m) := mvO_V n (Nat.le_refl n)
theorem all_move {s : ST} {n m a k : Nat} (ha : a < n) (hk : k < m) (h4 : 0 ≤ s 4 a ∧ s 4 a < m) (hne : (k : Int) ≠ s 4 a) : allC (us s 4 a k) n m = allC s n m + mvC s n a k := by
  obtain ⟨x, hx⟩ : ∃ x : Nat, s 4 a = x := ⟨(s 4 a).toNat, by omega⟩
  have c1 := cost_come (s := s) (n := n) (c := a) (k := (k : Int)) ha (Ne.symm hne)
  have c2 := cost_leave (s := s) (n := n) (c := a) (k := (x : Int)) (v := (k : Int)) ha hx (by omega)
  unfold allC mvC
  rw [hx]
  have e1 : sumTo (fun i => costC (us s 4 a k) n i) m = sumTo (fun i => costC s n i + ((if i = k then cmC s n a k else 0) + (if i = x then clC s n a x else 0))) m := by
    refine sumTo_congr m (fun i _ => ?_)
    by_cases z : i = k
    · subst z; rw [if_pos rfl, if_neg (by omega), c1]; omega
    · rw [if_neg z]
      by_cases w : i = x
      · subst w; rw [if_pos rfl, c2]; omega
      · rw [if_neg w, cost_oth (by omega) (by omega)]; omega
  rw [e1, sumTo_add, sumTo_add, sumTo_one m, sumTo_one m, if_pos hk, if_pos (by omega)]
theorem all_ex {s : ST} {n m a b : Nat} (ha : a < n) (hb : b < n) (hab : a ≠ b) (h4 : 0 ≤ s 4 a ∧ s 4 a < m) (h5 : 0 ≤ s 4 b ∧ s 4 b < m) (hne : s 4 a ≠ s 4 b) : allC (us (us s 4 a (s 4 b)) 4 b (s 4 a)) n m = allC s n m + exC s n a b := by
  obtain ⟨x, hx⟩ : ∃ x : Nat, s 4 a = x := ⟨(s 4 a).toNat, by omega⟩
  obtain ⟨y, hy⟩ : ∃ y : Nat, s 4 b = y := ⟨(s 4 b).toNat, by omega⟩
  have c1 := cost_ex ha hb hab hne (by omega) (by omega)
  rw [hx, hy] at c1 ⊢
  have hb4 : us s 4 a (y : Int) 4 b = y := by rw [us4, if_neg (Ne.symm hab)]; exact hy
  unfold allC
  have e1 : sumTo (fun i => costC (us (us s 4 a (y : Int)) 4 b (x : Int)) n i) m = sumTo (fun i => costC s n i + ((if i = x then (costC (us (us s 4 a (y : Int)) 4 b (x : Int)) n x - costC s n x) else 0) + (if i = y then (costC (us (us s 4 a (y : Int)) 4 b (x : Int)) n y - costC s n y) else 0))) m := by
    refine sumTo_congr m (fun i _ => ?_)
    by_cases z : i = x
    · subst z; rw [if_pos rfl, if_neg (by omega)]; omega
    · rw [if_neg z]
      by_cases w : i = y
      · subst w; rw [if_pos rfl]; omega
      · rw [if_neg w, cost_oth (by omega) (by omega), cost_oth (by omega) (by omega)]; omega
  rw [e1, sumTo_add, sumTo_add, sumTo_one m, sumTo_one m, if_pos (by omega), if_pos (by omega)]
  omega
theorem us_swap {s : ST} {a b : Nat} {v w : Int} (h : a ≠ b) : us (us s 4 b w) 4 a v = us (us s 4 a v) 4 b w := by
  funext q p
  simp only [us]
  by_cases z : q = 4 ∧ p = a
  · rw [if_pos z, if_neg (fun y => h (z.2.symm.trans y.2)), if_pos z]
  · rw [if_neg z]
    by_cases y : q = 4 ∧ p = b
    · rw [if_pos y, if_pos y]
    · rw [if_neg y, if_neg y, if_neg z]
theorem stS_all {s : ST} {n m : Nat} (h4 : ∀ i, i < n → -1 ≤ s 4 i ∧ s 4 i < m) : allC (stS s n m) n m = allC s n m + (bst s n m).1 := by
  unfold stS
  rcases bst_V (s := s) (n := n) (m := m) with z | ⟨z, a, ha, h1, h2⟩
  · rw [z, if_neg (by decide)]; simp
  · rw [if_pos z, h1, Int.toNat_natCast]
    have h4a := h4 a ha
    rcases h2 with ⟨h2, k, hk, h3, h5, h6⟩ | ⟨b, hb, hab, h2, h3, h5, h6⟩
    · obtain ⟨o1, o2, o3⟩ := h5
      rw [if_pos h2, h3, h6, all_move ha hk (by omega) o2]
    · obtain ⟨o1, o2, o3⟩ := h5
      have h4b := h4 b hb
      rw [h2, if_neg (by omega), h3, h6, Int.toNat_natCast, us_swap (by omega), all_ex ha hb (by omega) (by omega) (by omega) o3]
/-- what a step keeps -/
theorem stS_o {s : ST} {n m q p : Nat} (h : q ≠ 4) : stS s n m q p = s q p := by
  unfold stS
  (repeat' split) <;> simp [us, h]
theorem stS_4 {s : ST} {n m : Nat} (h4 : ∀ i, i < n → -1 ≤ s 4 i ∧ s 4 i < m) : ∀ i, i < n → -1 ≤ stS s n m 4 i ∧ stS s n m 4 i < m := by
  intro i hi
  unfold stS
  rcases bst_V (s := s) (n := n) (m := m) with z | ⟨z, a, ha, h1, h2⟩
  · rw [z, if_neg (by decide)]; exact h4 i hi
  · rw [if_pos z, h1, Int.toNat_natCast]
    have h4a := h4 a ha
    rcases h2 with ⟨h2, k, hk, h3, h5, h6⟩ | ⟨b, hb, hab, h2, h3, h5, h6⟩
    · rw [if_pos h2, h3, us4]
      split
      · omega
      · exact h4 i hi
    · have h4b := h4 b hb
      rw [h2, if_neg (by omega), h3, Int.toNat_natCast, us4, us4]
      split
      · omega
      · split
        · omega
        · exact h4 i hi
theorem lyS_us {s : ST} {a n : Nat} {v k : Int} (ha : a < n) : lyS (us s 4 a v) k n = lyS s k n + (if v = k then 1 else 0) - (if s 4 a = k then 1 else 0) := by
  unfold lyS
  have e : sumTo (fun i => if us s 4 a v 4 i = k then (1 : Int) else 0) n = sumTo (fun i => (if s 4 i = k then 1 else 0) + (if i = a then ((if v = k then 1 else 0) - (if s 4 a = k then 1 else 0)) else 0)) n := by
    refine sumTo_congr n (fun i _ => ?_)
    rw [us4]
    by_cases z : i = a
    · subst z; rw [if_pos rfl, if_pos rfl]; omega
    · rw [if_neg z, if_neg z]; omega
  rw [e, sumTo_add, sumTo_one n, if_pos ha]
  omega
theorem stS_bd {s : ST} {n m : Nat} (hb : ∀ k : Nat, k < m → lyS s k n ≤ s 40 k) : ∀ k : Nat, k < m → lyS (stS s n m) k n ≤ s 40 k := by
  intro k hk
  have q := hb k hk
  unfold stS
  rcases bst_V (s := s) (n := n) (m := m) with z | ⟨z, a, ha, h1, h2⟩
  · rw [z, if_neg (by decide)]; exact q
  · rw [if_pos z, h1, Int.toNat_natCast]
    rcases h2 with ⟨h2, k', hk', h3, h5, h6⟩ | ⟨b, hb2, hab, h2, h3, h5, h6⟩
    · obtain ⟨o1, o2, o3⟩ := h5
      rw [if_pos h2, h3, lyS_us ha]
      by_cases y : k' = k
      · subst y; rw [if_pos rfl]; split <;> omega
      · rw [if_neg (by omega)]; split <;> omega
    · obtain ⟨o1, o2, o3⟩ := h5
      rw [h2, if_neg (by omega), h3, Int.toNat_natCast, lyS_us ha, lyS_us hb2, us4, if_neg (show ¬ a = b by omega)]
      (repeat' split) <;> omega
/-- no cabin costs more than its beds allow -/
theorem sumC_ly {s : ST} {n : Nat} {cab : Int} (h : ageOk s n) (hn : n ≤ 24) (m : Nat) (hm : m ≤ n) : sumC s cab n m ≤ 9000 * lyS s cab m := by
  induction m with
  | zero => simp [sumC, sumTo, lyS]
  | succ m ih =>
    have e1 : sumC s cab n (m + 1) = sumC s cab n m + if s 4 m = cab then behC s m cab n else 0 := rfl
    have := ih (by omega)
    have b := behC_b (cab := cab) h (show m < n by omega) (Nat.le_refl n)
    rw [e1, lyS_s]
    split <;> omega
theorem all_bd {s : ST} {n m : Nat} (h : ageOk s n) (hn : n ≤ 24) (hm : m ≤ 6) (hb : ∀ k : Nat, k < m → lyS s k n ≤ 8) : 0 ≤ allC s n m ∧ allC s n m ≤ 500000 := by
  have b0 := allC_b (m := m) h hn
  have : allC s n m ≤ m * 72012 := (sumTo_b (f := fun k => costC s n k) (K := 72012) m (fun i hi => by
    have c := costC_b (cab := (i : Int)) h hn
    have d := sumC_ly (cab := (i : Int)) h hn n (Nat.le_refl n)
    have e := hb i hi
    refine ⟨c.1, ?_⟩
    show costC s n i ≤ 72012
    unfold costC
    split <;> omega)).2
  omega
noncomputable def opStep (s : ST) : Int × ST := (-(bst s (s 20 0).toNat (s 22 0).toNat).1, stS s (s 20 0).toNat (s 22 0).toNat)
noncomputable def btr (n m : Nat) : Nat → ST → Nat × ST
  | 0, s => (0, s)
  | k + 1, s => if (bst s n m).1 < 0 then ((btr n m k (stS s n m)).1 + 1, (btr n m k (stS s n m)).2) else (0, s)
noncomputable def opBetter (s : ST) : Int × ST := (((btr (s 20 0).toNat (s 22 0).toNat 500001 s).1 : Nat), (btr (s 20 0).toNat (s 22 0).toNat 500001 s).2)
