/-! the next greater number with as many bits -/
def lb (x : Nat) : Nat := x &&& (2 ^ 32 - x)
def gs (x : Nat) : Nat := ((x + lb x ^^^ x) / lb x / 4) ||| (x + lb x)
theorem two_mul_and (a b : Nat) : (2 * a) &&& (2 * b) = 2 * (a &&& b) := by
  apply Nat.eq_of_testBit_eq
  intro i
  cases i with
  | zero => simp
  | succ i => simp [Nat.testBit_succ, Nat.and_div_two]
theorem lb_gen : ∀ k y, y < 2 ^ k → (2 * y + 1) &&& (2 ^ (k + 1) - (2 * y + 1)) = 1 := by
  intro k y hy
  have e1 : 2 ^ (k + 1) - (2 * y + 1) = 2 * (2 ^ k - (y + 1)) + 1 := by rw [Nat.pow_succ]; omega
  rw [e1]
  apply Nat.eq_of_testBit_eq
  intro i
  cases i with
  | zero => simp
  | succ i =>
    rw [Nat.testBit_and, Nat.testBit_succ, Nat.testBit_succ, show (2 * y + 1) / 2 = y by omega, show (2 * (2 ^ k - (y + 1)) + 1) / 2 = 2 ^ k - (y + 1) by omega, Nat.testBit_two_pow_sub_succ hy]
    cases h : y.testBit i <;> simp [Nat.testBit_succ]
theorem lb_pow : ∀ a k y, a + k = 31 → y < 2 ^ k → lb (2 ^ a * (2 * y + 1)) = 2 ^ a := by
  intro a
  have gen : ∀ a n z, (2 ^ a * z) &&& (2 ^ (a + n) - 2 ^ a * z) = 2 ^ a * (z &&& (2 ^ n - z)) := by
    intro a
    induction a with
    | zero => intro n z; simp
    | succ a ih =>
      intro n z
      have e1 : 2 ^ (a + 1) * z = 2 * (2 ^ a * z) := by rw [Nat.pow_succ]; rw [Nat.mul_comm (2 ^ a) 2, Nat.mul_assoc]
      have e2 : 2 ^ (a + 1 + n) = 2 * 2 ^ (a + n) := by rw [show a + 1 + n = (a + n) + 1 by omega, Nat.pow_succ, Nat.mul_comm]
      rw [e1, e2, ← Nat.mul_sub, two_mul_and, ih, Nat.pow_succ, Nat.mul_comm (2 ^ a) 2, Nat.mul_assoc]
  intro k y hk hy
  unfold lb
  rw [show 32 = a + (k + 1) by omega, gen, lb_gen k y hy, Nat.mul_one]
theorem gs_dec {H a l : Nat} (hl : a + l < 32) (hx : 2 ^ a * (2 ^ (l + 1) * (2 * H) + (2 ^ (l + 1) - 1)) < 2 ^ 31) (hal : a ≤ 31) : gs (2 ^ a * (2 ^ (l + 1) * (2 * H) + (2 ^ (l + 1) - 1))) = 2 ^ (a + l + 1) * (2 * H + 1) + (2 ^ l - 1) := by
  have pl : 0 < 2 ^ l := Nat.pow_pos (by decide)
  have pa : 0 < 2 ^ a := Nat.pow_pos (by decide)
  have pl1 : 2 ^ (l + 1) = 2 * 2 ^ l := by rw [Nat.pow_succ, Nat.mul_comm]
  generalize hL : 2 ^ (l + 1) = L at hx
  have odd : L * (2 * H) + (L - 1) = 2 * (L * H + (2 ^ l - 1)) + 1 := by
    rw [Nat.mul_left_comm]; omega
  have lbx : lb (2 ^ a * (L * (2 * H) + (L - 1))) = 2 ^ a := by
    rw [odd]
    refine lb_pow a (31 - a) _ (by omega) ?_
    have : 2 ^ 31 = 2 ^ a * 2 ^ (31 - a) := by rw [← Nat.pow_add]; congr 1; omega
    rw [this] at hx
    have := Nat.lt_of_mul_lt_mul_left hx
    omega
  have car : 2 ^ a * (L * (2 * H) + (L - 1)) + 2 ^ a = 2 ^ a * (L * (2 * H + 1)) := by
    rw [← Nat.mul_succ]
    congr 1
    rw [Nat.mul_add, Nat.mul_one]
    omega
  have mulx : ∀ p q : Nat, (2 ^ a * p) ^^^ (2 ^ a * q) = 2 ^ a * (p ^^^ q) := fun p q => by
    have := Nat.shiftLeft_xor_distrib (a := p) (b := q) (i := a)
    simp only [Nat.shiftLeft_eq] at this
    rw [Nat.mul_comm _ p, Nat.mul_comm _ q, ← this, Nat.mul_comm]
  have xr : (L * (2 * H + 1)) ^^^ (L * (2 * H) + (L - 1)) = 2 * L - 1 := by
    subst hL
    apply Nat.eq_of_testBit_eq
    intro i
    rw [Nat.testBit_xor, show 2 * 2 ^ (l + 1) - 1 = 2 ^ (l + 2) - 1 by rw [Nat.pow_succ 2 (l + 1), Nat.mul_comm], Nat.testBit_two_pow_sub_one, Nat.testBit_two_pow_mul, Nat.testBit_two_pow_mul_add _ (by omega), Nat.testBit_two_pow_sub_one]
    by_cases z : i < l + 1
    · have : ¬ l + 1 ≤ i := by omega
      have : i < l + 2 := by omega
      simp [*]
    · rcases Nat.eq_or_lt_of_le (show l + 1 ≤ i by omega) with e | e
      · rw [← e]
        simp
      · have z2 : ¬ i < l + 2 := by omega
        have e3 : i - (l + 1) = (i - (l + 2)) + 1 := by omega
        have z4 : l + 1 ≤ i := by omega
        rw [e3, Nat.testBit_succ, Nat.testBit_succ, show (2 * H + 1) / 2 = H by omega, show 2 * H / 2 = H by omega]
        simp [z, z2, z4]
  unfold gs
  rw [lbx, car, mulx, xr, Nat.mul_div_cancel_left _ pa, show (2 * L - 1) / 4 = 2 ^ l - 1 by omega]
  have ec : 2 ^ a * (L * (2 * H + 1)) = 2 ^ (a + l + 1) * (2 * H + 1) := by
    rw [← hL, ← Nat.mul_assoc, ← Nat.pow_add, Nat.add_assoc]
  rw [ec, Nat.or_comm, ← Nat.two_pow_add_eq_or_of_lt]
  have : 2 ^ l ≤ 2 ^ (a + l + 1) := Nat.pow_le_pow_right (by decide) (by omega)
  omega
/-- how many below `n` -/
def cA (P : Nat → Prop) [∀ x, Decidable (P x)] : Nat → Nat
  | 0 => 0
  | n + 1 => cA P n + if P n then 1 else 0
theorem cA_c {P Q : Nat → Prop} [∀ x, Decidable (P x)] [∀ x, Decidable (Q x)] : ∀ n, (∀ x, x < n → (P x ↔ Q x)) → cA P n = cA Q n
  | 0, _ => rfl
  | n + 1, h => by
    unfold cA
    rw [cA_c n (fun x hx => h x (by omega))]
    have := h n (by omega)
    by_cases z : P n
    · rw [if_pos z, if_pos (this.mp z)]
    · rw [if_neg z, if_neg (fun y => z (this.mpr y))]
theorem cA_add {P : Nat → Prop} [∀ x, Decidable (P x)] (m : Nat) : ∀ n, cA P (m + n) = cA P m + cA (fun x => P (m + x)) n
  | 0 => rfl
  | n + 1 => by
    rw [← Nat.add_assoc]
    show cA P (m + n) + _ = cA P m + (cA _ n + _)
    rw [cA_add m n, Nat.add_assoc]
theorem cA_le {P : Nat → Prop} [∀ x, Decidable (P x)] : ∀ n, cA P n ≤ n
  | 0 => Nat.le_refl _
  | n + 1 => by
    unfold cA
    have := cA_le (P := P) n
    split <;> omega
def bn : Nat → Nat → Nat
  | 0, 0 => 1
  | 0, _ + 1 => 0
  | _ + 1, 0 => 1
  | m + 1, r + 1 => bn m (r + 1) + bn m r
def el : Nat → Nat → Nat → Nat
  | 0, _, _ => 0
  | _ + 1, 0, _ => 0
  | m + 1, r + 1, k => if k < bn m (r + 1) then el m (r + 1) k else 2 ^ m + el m r (k - bn m (r + 1))
theorem bn_0 (m : Nat) : bn m 0 = 1 := by cases m <;> rfl
theorem bn_p : ∀ m r, r ≤ m → 0 < bn m r
  | 0, 0, _ => by decide
  | 0, r + 1, h => by omega
  | m + 1, 0, _ => Nat.one_pos
  | m + 1, r + 1, h => by
    have := bn_p m r (by omega)
    show 0 < bn m (r + 1) + bn m r
    omega
theorem bn_z : ∀ m r, m < r → bn m r = 0
  | 0, 0, h => by omega
  | 0, r + 1, h => rfl
  | m + 1, 0, h => by omega
  | m + 1, r + 1, h => by
    show bn m (r + 1) + bn m r = 0
    rw [bn_z m (r + 1) (by omega), bn_z m r (by omega)]
theorem el_0 (m k : Nat) : el m 0 k = 0 := by cases m <;> rfl
theorem el_s (m r k : Nat) : el (m + 1) (r + 1) k = if k < bn m (r + 1) then el m (r + 1) k else 2 ^ m + el m r (k - bn m (r + 1)) := rfl
theorem bn_s (m r : Nat) : bn (m + 1) (r + 1) = bn m (r + 1) + bn m r := rfl
theorem el_lt : ∀ m r k, k < bn m r → el m r k < 2 ^ m ∧ (0 < r → 0 < el m r k)
  | 0, 0, k, h => ⟨Nat.one_pos, fun z => by omega⟩
  | 0, r + 1, k, h => by rw [bn_z 0 (r + 1) (by omega)] at h; omega
  | m + 1, 0, k, h => ⟨Nat.pow_pos (by decide), fun z => by omega⟩
  | m + 1, r + 1, k, h => by
    rw [bn_s] at h
    have p : 2 ^ (m + 1) = 2 ^ m * 2 := Nat.pow_succ 2 m
    have pm : 0 < 2 ^ m := Nat.pow_pos (by decide)
    rw [el_s]
    by_cases z : k < bn m (r + 1)
    · rw [if_pos z]
      have := el_lt m (r + 1) k z
      exact ⟨by omega, this.2⟩
    · rw [if_neg z]
      have := el_lt m r (k - bn m (r + 1)) (by omega)
      exact ⟨by omega, fun _ => by omega⟩
theorem el_first : ∀ m r, r ≤ m → el m r 0 = 2 ^ r - 1
  | 0, 0, _ => rfl
  | 0, r + 1, h => by omega
  | m + 1, 0, _ => rfl
  | m + 1, r + 1, h => by
    rw [el_s]
    rcases Nat.eq_or_lt_of_le h with e | e
    · have e' : r = m := by omega
      subst e'
      rw [bn_z r (r + 1) (by omega), if_neg (by omega), Nat.sub_zero, el_first r r (Nat.le_refl _), Nat.pow_succ]
      have : 0 < 2 ^ r := Nat.pow_pos (by decide)
      omega
    · rw [if_pos (bn_p m (r + 1) (by omega)), el_first m (r + 1) (by omega)]
theorem el_last : ∀ m r, r ≤ m → el m r (bn m r - 1) = (2 ^ r - 1) * 2 ^ (m - r)
  | 0, 0, _ => rfl
  | 0, r + 1, h => by omega
  | m + 1, 0, _ => by simp [el]
  | m + 1, r + 1, h => by
    have b := bn_p m r (by omega)
    rw [el_s, bn_s, if_neg (by omega), show bn m (r + 1) + bn m r - 1 - bn m (r + 1) = bn m r - 1 by omega, el_last m r (by omega), show m + 1 - (r + 1) = m - r by omega]
    have e : 2 ^ m = 2 ^ r * 2 ^ (m - r) := by rw [← Nat.pow_add]; congr 1; omega
    rw [e, ← Nat.add_mul]
    congr 1
    have : 0 < 2 ^ r := Nat.pow_pos (by decide)
    rw [Nat.pow_succ]; omega
/-- each number is such a one -/
theorem dec_ex : ∀ n x, x < 2 ^ n → 0 < x → ∃ H a l, x = 2 ^ a * (2 ^ (l + 1) * (2 * H) + (2 ^ (l + 1) - 1)) := by
  have ones : ∀ n x, x < 2 ^ n → x % 2 = 1 → ∃ H l, x = 2 ^ (l + 1) * (2 * H) + (2 ^ (l + 1) - 1) := by
    intro n
    induction n with
    | zero => intro x h1 h2; omega
    | succ n ih =>
      intro x h1 h2
      rw [Nat.pow_succ] at h1
      rcases Nat.mod_two_eq_zero_or_one (x / 2) with z | z
      · exact ⟨x / 4, 0, by omega⟩
      · obtain ⟨H, l, e⟩ := ih (x / 2) (by omega) z
        refine ⟨H, l + 1, ?_⟩
        have p : 0 < 2 ^ (l + 1) := Nat.pow_pos (by decide)
        rw [Nat.pow_succ 2 (l + 1), Nat.mul_comm (2 ^ (l + 1)) 2, Nat.mul_assoc]
        generalize 2 ^ (l + 1) * (2 * H) = W at e
        omega
  intro n
  induction n with
  | zero => intro x h1 h2; omega
  | succ n ih =>
    intro x h1 h2
    rcases Nat.mod_two_eq_zero_or_one x with z | z
    · rw [Nat.pow_succ] at h1
      obtain ⟨H, a, l, e⟩ := ih (x / 2) (by omega) (by omega)
      refine ⟨H, a + 1, l, ?_⟩
      rw [Nat.pow_succ, Nat.mul_comm (2 ^ a) 2, Nat.mul_assoc, ← e]
      omega
    · obtain ⟨H, l, e⟩ := ones (n + 1) x h1 z
      exact ⟨H, 0, l, by rw [Nat.pow_zero, Nat.one_mul]; exact e⟩
theorem gs_up {m x : Nat} (hm : m ≤ 16) (hx : x < 2 ^ m) (h0 : 0 < x) (hg : gs x < 2 ^ m) : gs (2 ^ m + x) = 2 ^ m + gs x := by
  obtain ⟨H, a, l, e⟩ := dec_ex m x hx h0
  have pm : 2 ^ m ≤ 2 ^ 16 := Nat.pow_le_pow_right (by decide) hm
  have pl : 0 < 2 ^ l := Nat.pow_pos (by decide)
  have pl1 : 2 ^ (l + 1) = 2 ^ l * 2 := Nat.pow_succ 2 l
  have xl : 2 ^ a * 2 ^ l ≤ x := by
    rw [e]
    refine Nat.mul_le_mul_left _ ?_
    omega
  rw [← Nat.pow_add] at xl
  have alm : a + l < m := (Nat.pow_lt_pow_iff_right (by decide)).mp (Nat.lt_of_le_of_lt xl hx)
  have g1 : gs x = 2 ^ (a + l + 1) * (2 * H + 1) + (2 ^ l - 1) := by rw [e]; exact gs_dec (by omega) (by rw [← e]; omega) (by omega)
  have alm2 : a + l + 1 < m := by
    refine (Nat.pow_lt_pow_iff_right (a := 2) (by decide)).mp (Nat.lt_of_le_of_lt ?_ hg)
    rw [g1]
    refine Nat.le_trans ?_ (Nat.le_add_right _ _)
    exact Nat.le_mul_of_pos_right _ (by omega)
  have em : 2 ^ m = 2 ^ a * (2 ^ (l + 1) * (2 * 2 ^ (m - a - l - 2))) := by
    rw [← Nat.mul_assoc, ← Nat.mul_assoc, ← Nat.pow_add, ← Nat.pow_succ, ← Nat.pow_add]
    congr 1
    omega
  have e2 : 2 ^ m + x = 2 ^ a * (2 ^ (l + 1) * (2 * (2 ^ (m - a - l - 2) + H)) + (2 ^ (l + 1) - 1)) := by
    rw [em, e, ← Nat.mul_add, Nat.mul_add 2, Nat.mul_add (2 ^ (l + 1)), Nat.add_assoc]
  have e3 : 2 ^ m = 2 ^ (a + l + 1) * (2 * 2 ^ (m - a - l - 2)) := by
    rw [← Nat.mul_assoc, ← Nat.pow_succ, ← Nat.pow_add]
    congr 1
    omega
  rw [e2, gs_dec (by omega) (by rw [← e2]; omega) (by omega), g1, ← Nat.add_assoc]
  congr 1
  conv => rhs; rw [e3]
  rw [← Nat.mul_add]
  congr 1
  omega
theorem el_gs : ∀ m r k, m ≤ 16 → k + 1 < bn m r → gs (el m r k) = el m r (k + 1)
  | 0, 0, k, _, h => by
    have e : bn 0 0 = 1 := rfl
    omega
  | 0, r + 1, k, _, h => by rw [bn_z 0 (r + 1) (by omega)] at h; omega
  | m + 1, 0, k, _, h => by
    have e : bn (m + 1) 0 = 1 := rfl
    omega
  | m + 1, r + 1, k, hm, h => by
    rw [bn_s] at h
    rw [el_s, el_s]
    by_cases z1 : k + 1 < bn m (r + 1)
    · rw [if_pos (by omega), if_pos z1]
      exact el_gs m (r + 1) k (by omega) z1
    · rw [if_neg z1]
      by_cases z2 : k < bn m (r + 1)
      · rw [if_pos z2]
        have ek : k = bn m (r + 1) - 1 := by omega
        have rm : r + 1 ≤ m := by
          rcases Nat.lt_or_ge m (r + 1) with y | y
          · rw [bn_z m (r + 1) y] at z2; omega
          · exact y
        have b := bn_p m r (by omega)
        rw [show k + 1 - bn m (r + 1) = 0 by omega, el_first m r (by omega), ek, el_last m (r + 1) rm]
        have pr : 0 < 2 ^ r := Nat.pow_pos (by decide)
        have e : (2 ^ (r + 1) - 1) * 2 ^ (m - (r + 1)) = 2 ^ (m - (r + 1)) * (2 ^ (r + 1) * (2 * 0) + (2 ^ (r + 1) - 1)) := by
          rw [Nat.mul_comm]; congr 1; omega
        have bnd : 2 ^ (m - (r + 1)) * (2 ^ (r + 1) * (2 * 0) + (2 ^ (r + 1) - 1)) < 2 ^ 31 := by
          have : 2 ^ (m - (r + 1)) * 2 ^ (r + 1) = 2 ^ m := by rw [← Nat.pow_add]; congr 1; omega
          have pm : 2 ^ m ≤ 2 ^ 16 := Nat.pow_le_pow_right (by decide) (by omega)
          refine Nat.lt_of_le_of_lt (Nat.mul_le_mul_left _ (show _ ≤ 2 ^ (r + 1) by omega)) (by omega)
        rw [e, gs_dec (by omega) bnd (by omega), show m - (r + 1) + r + 1 = m by omega]
        omega
      · rw [if_neg z2]
        have lt := el_lt m r (k - bn m (r + 1)) (by omega)
        have lt2 := el_lt m r (k + 1 - bn m (r + 1)) (by omega)
        have rp : 0 < r := by
          rcases Nat.eq_zero_or_pos r with y | y
          · subst y; rw [bn_0] at h; omega
          · exact y
        have ih := el_gs m r (k - bn m (r + 1)) (by omega) (by omega)
        rw [show k - bn m (r + 1) + 1 = k + 1 - bn m (r + 1) by omega] at ih
        rw [gs_up (by omega) lt.1 (lt.2 rp) (by rw [ih]; exact lt2.1), ih]
