/-! ways over sets are rows of cabins -/
theorem sub_tb : ∀ a X p : Nat, p &&& X = p → (X - p).testBit a = (X.testBit a && !p.testBit a) := by
  have low : ∀ X p : Nat, p &&& X = p → p % 2 ≤ X % 2 ∧ p / 2 &&& X / 2 = p / 2 ∧ p / 2 ≤ X / 2 := fun X p h => by
    have d := congrArg (· / 2) h
    simp only [Nat.and_div_two] at d
    refine ⟨?_, d, ?_⟩
    · rcases Nat.mod_two_eq_zero_or_one p with z | z
      · omega
      · have := (Nat.and_mod_two_eq_one (a := p) (b := X)).mp (by rw [h]; exact z)
        omega
    · rw [← d]; exact Nat.and_le_right
  intro a
  induction a with
  | zero =>
    intro X p h
    obtain ⟨h1, h2, h3⟩ := low X p h
    rw [Nat.testBit_zero, Nat.testBit_zero, Nat.testBit_zero]
    rcases Nat.mod_two_eq_zero_or_one p with z | z <;> rcases Nat.mod_two_eq_zero_or_one X with y | y <;> first | omega | skip
    · have : (X - p) % 2 = 0 := by omega
      simp [this, y]
    · have : (X - p) % 2 = 1 := by omega
      simp [this, y, z]
    · have : (X - p) % 2 = 0 := by omega
      simp [this, z]
  | succ a ih =>
    intro X p h
    obtain ⟨h1, h2, h3⟩ := low X p h
    rw [Nat.testBit_succ, Nat.testBit_succ, Nat.testBit_succ, show (X - p) / 2 = X / 2 - p / 2 by omega]
    exact ih _ _ h2
def sel (P : Nat → Bool) : Nat → Nat
  | 0 => 0
  | n + 1 => sel P n + if P n = true then 2 ^ n else 0
theorem sel_lt (P : Nat → Bool) : ∀ n, sel P n < 2 ^ n
  | 0 => Nat.one_pos
  | n + 1 => by
    have := sel_lt P n
    have p : 2 ^ (n + 1) = 2 ^ n * 2 := Nat.pow_succ 2 n
    unfold sel
    split <;> omega
theorem sel_tb (P : Nat → Bool) : ∀ n a, (sel P n).testBit a = (decide (a < n) && P a)
  | 0, a => by simp [sel]
  | n + 1, a => by
    have l := sel_lt P n
    have ih := sel_tb P n a
    unfold sel
    by_cases z : P n = true
    · rw [if_pos z, Nat.add_comm]
      rcases Nat.lt_trichotomy a n with w | w | w
      · rw [Nat.testBit_two_pow_add_gt w, ih]
        simp [w, Nat.lt_succ_of_lt w]
      · subst w
        rw [Nat.testBit_two_pow_add_eq, Nat.testBit_lt_two_pow l]
        simp [z]
      · have : 2 ^ n + sel P n < 2 ^ a := Nat.lt_of_lt_of_le (show _ < 2 ^ (n + 1) by rw [Nat.pow_succ]; omega) (Nat.pow_le_pow_right (by decide) w)
        rw [Nat.testBit_lt_two_pow this]
        have : ¬ a < n + 1 := by omega
        simp [this]
    · rw [if_neg z, Nat.add_zero, ih]
      rcases Nat.lt_trichotomy a n with w | w | w
      · simp [w, Nat.lt_succ_of_lt w]
      · subst w
        have z' : P a = false := by simpa using z
        simp [z']
      · have h1 : ¬ a < n := by omega
        have h2 : ¬ a < n + 1 := by omega
        simp [h1, h2]
theorem sel_c {P Q : Nat → Bool} : ∀ n, (∀ a, a < n → P a = Q a) → sel P n = sel Q n
  | 0, _ => rfl
  | n + 1, h => by unfold sel; rw [sel_c n (fun a ha => h a (by omega)), h n (by omega)]
theorem sel_eq {P : Nat → Bool} {n p : Nat} (hp : p < 2 ^ n) (h : ∀ a, a < n → P a = p.testBit a) : sel P n = p := by
  apply Nat.eq_of_testBit_eq
  intro a
  rw [sel_tb]
  by_cases z : a < n
  · simp [z, h a z]
  · have : p.testBit a = false := Nat.testBit_lt_two_pow (Nat.lt_of_lt_of_le hp (Nat.pow_le_pow_right (by decide) (by omega)))
    simp [z, this]
def Rw (s : ST) (bd : Nat → Int) (n k X : Nat) (v : Int) : Prop := ∃ r : Nat → Nat, (∀ a, a < n → X.testBit a = true → r a < k) ∧ (∀ c, c < k → (pcN (sel (fun a => X.testBit a && r a == c) n) : Int) ≤ bd c) ∧ v = sumTo (fun c => pz s n (sel (fun a => X.testBit a && r a == c) n)) k
theorem Wy_Rw {s : ST} {bd : Nat → Int} {n : Nat} : ∀ k X v, X < 2 ^ n → (Wy s bd n k X v ↔ Rw s bd n k X v)
  | 0, X, v, hX => by
    constructor
    · rintro ⟨rfl, rfl⟩
      exact ⟨fun _ => 0, fun a _ h => by simp at h, fun c hc => by omega, rfl⟩
    · rintro ⟨r, h1, -, h3⟩
      refine ⟨?_, h3⟩
      have : sel (fun _ => false) n = X := sel_eq hX (fun a ha => by
        cases h : X.testBit a with
        | false => rfl
        | true => exact absurd (h1 a ha h) (Nat.not_lt_zero _))
      rw [← this]
      generalize n = j
      induction j with
      | zero => rfl
      | succ j ih => unfold sel; simp [ih]
  | k + 1, X, v, hX => by
    constructor
    · rintro ⟨p, u, a1, a2, a3, a4⟩
      have pX : p ≤ X := by rw [← a1]; exact Nat.and_le_right
      obtain ⟨r, r1, r2, r3⟩ := (Wy_Rw k (X - p) u (by omega)).mp a3
      have px : ∀ a, p.testBit a = true → X.testBit a = true := fun a ha => by
        rw [← a1, Nat.testBit_and] at ha
        simp at ha
        exact ha.2
      have ec : ∀ c, c < k → sel (fun a => X.testBit a && (if p.testBit a = true then k else r a) == c) n = sel (fun a => (X - p).testBit a && r a == c) n := fun c hc => sel_c n (fun a _ => by
        rw [sub_tb a X p a1]
        cases h : p.testBit a with
        | true =>
          have : ¬ k = c := by omega
          simp [this]
        | false => simp)
      have ek : sel (fun a => X.testBit a && (if p.testBit a = true then k else r a) == k) n = p := sel_eq (by omega) (fun a ha => by
        cases h : p.testBit a with
        | true => simp [px a h]
        | false =>
          cases h2 : X.testBit a with
          | false => simp
          | true =>
            have := r1 a ha (by rw [sub_tb a X p a1, h, h2]; rfl)
            have : ¬ r a = k := by omega
            simp [this])
      refine ⟨fun a => if p.testBit a = true then k else r a, fun a ha hx => ?_, fun c hc => ?_, ?_⟩
      · show (if p.testBit a = true then k else r a) < k + 1
        split
        · omega
        · rename_i h
          have h' : p.testBit a = false := by simpa using h
          have := r1 a ha (by rw [sub_tb a X p a1, h', hx]; rfl)
          omega
      · rcases Nat.lt_or_ge c k with w | w
        · rw [ec c w]; exact r2 c w
        · have : c = k := by omega
          subst this
          rw [ek]; exact a2
      · rw [a4, r3]
        show _ = sumTo _ k + pz s n (sel _ n)
        rw [ek]
        congr 1
        exact sumTo_congr k (fun c hc => by rw [ec c hc])
    · rintro ⟨r, r1, r2, r3⟩
      have pt : ∀ a, (sel (fun a => X.testBit a && r a == k) n).testBit a = (decide (a < n) && (X.testBit a && r a == k)) := fun a => sel_tb _ n a
      have pX : sel (fun a => X.testBit a && r a == k) n &&& X = sel (fun a => X.testBit a && r a == k) n := by
        apply Nat.eq_of_testBit_eq
        intro a
        rw [Nat.testBit_and, pt]
        cases X.testBit a <;> simp
      have ec : ∀ c, c < k → sel (fun a => (X - sel (fun a => X.testBit a && r a == k) n).testBit a && r a == c) n = sel (fun a => X.testBit a && r a == c) n := fun c hc => sel_c n (fun a ha => by
        show ((X - sel (fun a => X.testBit a && r a == k) n).testBit a && r a == c) = (X.testBit a && r a == c)
        rw [sub_tb a X _ pX, pt]
        by_cases h : r a = c
        · have : ¬ c = k := by omega
          simp [h, this]
        · have h' : (r a == c) = false := by simp [h]
          rw [h', Bool.and_false, Bool.and_false])
      refine ⟨sel (fun a => X.testBit a && r a == k) n, sumTo (fun c => pz s n (sel (fun a => X.testBit a && r a == c) n)) k, pX, r2 k (by omega), ?_, r3⟩
      refine (Wy_Rw k _ _ (Nat.lt_of_le_of_lt (Nat.sub_le _ _) hX)).mpr ⟨r, fun a ha hx => ?_, fun c hc => ?_, ?_⟩
      · rw [sub_tb a X _ pX, pt] at hx
        simp at hx
        have := r1 a ha hx.1
        have h1 := hx.1
        rcases hx.2 with y | y | y
        · omega
        · rw [h1] at y; exact absurd y (by decide)
        · omega
      · rw [ec c hc]; exact r2 c (by omega)
      · exact sumTo_congr k (fun c hc => by rw [ec c hc])
