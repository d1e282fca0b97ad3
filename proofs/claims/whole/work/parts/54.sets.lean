/-! all sets of so many, counted -/
theorem pcF_hi : ∀ j m x, m < j → x < 2 ^ m → pcF j (2 ^ m + x) = pcF j x + 1
  | 0, m, x, h, _ => by omega
  | j + 1, 0, x, h, hx => by
    have : x = 0 := by omega
    subst this
    simp only [pcF]
    have z : ∀ k, pcF k 0 = 0 := fun k => by
      induction k with
      | zero => rfl
      | succ k ih => simp only [pcF, Nat.zero_div, ih]; rfl
    simp [z]
  | j + 1, m + 1, x, h, hx => by
    rw [Nat.pow_succ] at hx
    simp only [pcF]
    rw [show (2 ^ (m + 1) + x) / 2 = 2 ^ m + x / 2 by rw [Nat.pow_succ]; omega, pcF_hi j m (x / 2) (by omega) (by omega), show (2 ^ (m + 1) + x) % 2 = x % 2 by rw [Nat.pow_succ]; omega]
    omega
theorem pc_hi {m x : Nat} (hm : m < 16) (hx : x < 2 ^ m) : pcN (2 ^ m + x) = pcN x + 1 := pcF_hi 16 m x hm hx
theorem pc_pos {x : Nat} (h : 0 < x) (hx : x < 65536) : 0 < pcN x := by
  have := pc_and h hx
  omega
theorem cA_none {P : Nat → Prop} [∀ x, Decidable (P x)] : ∀ n, (∀ x, x < n → ¬ P x) → cA P n = 0
  | 0, _ => rfl
  | n + 1, h => by
    unfold cA
    rw [cA_none n (fun x hx => h x (by omega)), if_neg (h n (by omega))]
theorem el_cnt : ∀ m r, m ≤ 16 → ∀ (P : Nat → Prop) [∀ x, Decidable (P x)], cA (fun x => pcN x = r ∧ P x) (2 ^ m) = cA (fun k => P (el m r k)) (bn m r)
  | 0, 0, _, P, _ => by
    show 0 + _ = 0 + _
    congr 1
    by_cases z : P 0
    · rw [if_pos ⟨rfl, z⟩, if_pos z]
    · rw [if_neg (fun y => z y.2), if_neg z]
  | 0, r + 1, _, P, _ => by
    rw [bn_z 0 (r + 1) (by omega)]
    refine cA_none _ (fun x hx y => ?_)
    have : x = 0 := by omega
    subst this
    have := y.1
    rw [pc_0] at this
    omega
  | m + 1, 0, hm, P, _ => by
    have p16 : 2 ^ (m + 1) ≤ 2 ^ 16 := Nat.pow_le_pow_right (by decide) hm
    have pp : 0 < 2 ^ (m + 1) := Nat.pow_pos (by decide)
    rw [bn_0, show 2 ^ (m + 1) = 1 + (2 ^ (m + 1) - 1) by omega, cA_add, cA_none (2 ^ (m + 1) - 1) (fun x hx y => by have := pc_pos (x := 1 + x) (by omega) (by omega); omega)]
    show 0 + _ + 0 = 0 + _
    rw [Nat.add_zero]
    congr 1
    by_cases z : P 0
    · rw [if_pos ⟨rfl, z⟩, if_pos z]
    · rw [if_neg (fun y => z y.2), if_neg z]
  | m + 1, r + 1, hm, P, _ => by
    rw [Nat.pow_succ, Nat.mul_two, cA_add, el_cnt m (r + 1) (by omega) P, bn_s, cA_add]
    congr 1
    · refine cA_c _ (fun x hx => ?_)
      rw [el_s, if_pos hx]
    · rw [cA_c (Q := fun x => pcN x = r ∧ P (2 ^ m + x)) (2 ^ m) (fun x hx => by rw [pc_hi (by omega) hx]; constructor <;> rintro ⟨a, b⟩ <;> exact ⟨by omega, b⟩), el_cnt m r (by omega) (fun x => P (2 ^ m + x))]
      refine cA_c _ (fun x hx => ?_)
      rw [el_s, if_neg (by omega), show bn m (r + 1) + x - bn m (r + 1) = x by omega]
theorem bn_cnt {m r : Nat} (hm : m ≤ 16) : cA (fun x => pcN x = r) (2 ^ m) = bn m r := by
  have := el_cnt m r hm (fun _ => True)
  rw [cA_c (Q := fun x => pcN x = r ∧ True) _ (fun x _ => by simp), this]
  generalize bn m r = b
  induction b with
  | zero => rfl
  | succ b ih => unfold cA; rw [ih]; rfl
theorem bn_mul : ∀ a, a ≤ 16 → ∀ i, i ≤ 16 - a → 0 < i → bn (a + (i - 1)) (i - 1) * (a + i) / i = bn (a + i) i ∧ bn (a + (i - 1)) (i - 1) * (a + i) ≤ 300000 := by decide +kernel
