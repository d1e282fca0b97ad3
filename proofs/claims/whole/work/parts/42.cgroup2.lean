/-! groups in the class: the cut and the whole -/
def szW (s : ST) (r : Nat → Nat) (n g : Nat) (x y : Int) (t i : Nat) : Nat := szF (fun k => rcG s r i (g - 1 - t) k + WT s r n g x y t (i + k)) (WT s r n g x y (t + 1) i) 30 x.toNat
def ctP (s : ST) (r : Nat → Nat) (n g : Nat) (x y : Int) : Nat → Nat
  | 0 => 0
  | c + 1 => ctP s r n g x y c + szW s r n g x y (g - 1 - c) (ctP s r n g x y c)
def gpS (ct : Nat → Nat) (m : Nat) : Nat → Nat → Nat
  | 0, c => c
  | k + 1, c => if m < ct (c + 1) then c else gpS ct m k (c + 1)
def asg (r : Nat → Nat) (gp : Nat → Nat) : Nat → ST → ST
  | 0, s => s
  | m + 1, s => us (asg r gp m s) 8 (r m) (gp m)
theorem asg_o {r gp : Nat → Nat} {s : ST} {q p : Nat} (h : q ≠ 8) : ∀ m, asg r gp m s q p = s q p
  | 0 => rfl
  | m + 1 => by
    unfold asg
    simp only [us]
    rw [if_neg (fun z => h z.1)]
    exact asg_o h m
/-- the facts of a size -/
theorem sz_ex {s : ST} {r : Nat → Nat} {n g : Nat} {x y : Int} (hn : n ≤ 24) (hx : 1 ≤ x) (h : lvOk s n) (hr : ∀ q, q < n → r q < n) : ∀ t i, i < n → WT s r n g x y (t + 1) i < 1000000 → ∃ k : Nat, 0 < k ∧ x ≤ k ∧ i + k ≤ n ∧ (k : Int) ≤ y ∧ szW s r n g x y t i = k ∧ rcG s r i (g - 1 - t) k + WT s r n g x y t (i + k) = WT s r n g x y (t + 1) i ∧ ∀ q : Nat, x ≤ q → 0 < q → q < k → rcG s r i (g - 1 - t) q + WT s r n g x y t (i + q) ≠ WT s r n g x y (t + 1) i := by
  intro t i hi hw
  have e1 : WT s r n g x y (t + 1) i = mfG s r x i (g - 1 - t) (WT s r n g x y t) (upG n i y) := rfl
  have key : ∀ k, i + k ≤ n → (k : Int) ≤ y → mfG s r x i (g - 1 - t) (WT s r n g x y t) k < 1000000 → ∃ q : Nat, 0 < q ∧ x ≤ q ∧ q ≤ k ∧ rcG s r i (g - 1 - t) q + WT s r n g x y t (i + q) = mfG s r x i (g - 1 - t) (WT s r n g x y t) k ∧ ∀ q' : Nat, x ≤ q' → 0 < q' → q' < q → mfG s r x i (g - 1 - t) (WT s r n g x y t) k < rcG s r i (g - 1 - t) q' + WT s r n g x y t (i + q') := by
    intro k
    induction k with
    | zero => intro _ _ z; have z' : (1000000 : Int) < 1000000 := z; omega
    | succ k ih =>
      intro hk hy z
      have m4 : mfG s r x i (g - 1 - t) (WT s r n g x y t) (k + 1) = if x ≤ ((k + 1 : Nat) : Int) then min (mfG s r x i (g - 1 - t) (WT s r n g x y t) k) (rcG s r i (g - 1 - t) (k + 1) + WT s r n g x y t (i + (k + 1))) else mfG s r x i (g - 1 - t) (WT s r n g x y t) k := rfl
      have low : ∀ k', k' ≤ k → ∀ q' : Nat, x ≤ q' → 0 < q' → q' ≤ k' → mfG s r x i (g - 1 - t) (WT s r n g x y t) k' ≤ rcG s r i (g - 1 - t) q' + WT s r n g x y t (i + q') := by
        intro k'
        induction k' with
        | zero => intro _ q' _ h0 h1; omega
        | succ k' ih' =>
          intro hk' q' h1 h2 h3
          have m5 : mfG s r x i (g - 1 - t) (WT s r n g x y t) (k' + 1) = if x ≤ ((k' + 1 : Nat) : Int) then min (mfG s r x i (g - 1 - t) (WT s r n g x y t) k') (rcG s r i (g - 1 - t) (k' + 1) + WT s r n g x y t (i + (k' + 1))) else mfG s r x i (g - 1 - t) (WT s r n g x y t) k' := rfl
          rw [m5]
          rcases Nat.lt_or_ge q' (k' + 1) with w | w
          · have := ih' (by omega) q' h1 h2 (by omega)
            split <;> omega
          · have : q' = k' + 1 := by omega
            subst this
            rw [if_pos h1]; omega
      by_cases w : x ≤ ((k + 1 : Nat) : Int) ∧ rcG s r i (g - 1 - t) (k + 1) + WT s r n g x y t (i + (k + 1)) < mfG s r x i (g - 1 - t) (WT s r n g x y t) k
      · rw [if_pos w.1, Int.min_eq_right (by omega)] at m4
        refine ⟨k + 1, by omega, w.1, Nat.le_refl _, m4.symm, fun q' h1 h2 h3 => ?_⟩
        rw [m4]
        have := low k (Nat.le_refl k) q' h1 h2 (by omega)
        omega
      · have m6 : mfG s r x i (g - 1 - t) (WT s r n g x y t) (k + 1) = mfG s r x i (g - 1 - t) (WT s r n g x y t) k := by
          rw [m4]
          split
          · rename_i v
            have : ¬ rcG s r i (g - 1 - t) (k + 1) + WT s r n g x y t (i + (k + 1)) < mfG s r x i (g - 1 - t) (WT s r n g x y t) k := fun u => w ⟨v, u⟩
            omega
          · rfl
        rw [m6] at z ⊢
        obtain ⟨q, a1, a2, a3, a4, a5⟩ := ih (by omega) (by omega) z
        exact ⟨q, a1, a2, by omega, a4, a5⟩
  have hu := up_le (y := y) (show i ≤ n by omega)
  have hu2 : ((upG n i y : Nat) : Int) ≤ y ∨ upG n i y = 0 := by unfold upG; omega
  rcases hu2 with hu2 | hu2
  · obtain ⟨q, a1, a2, a3, a4, a5⟩ := key _ hu hu2 (by rw [e1] at hw; exact hw)
    refine ⟨q, a1, a2, by omega, by omega, ?_, by rw [e1]; exact a4, fun q' h1 h2 h3 => ?_⟩
    · refine szF_eq (by show _ = _; rw [e1]; exact a4) 30 x.toNat (by omega) (by omega) (fun q' h1 h2 => ?_)
      have := a5 q' (by omega) (by omega) h2
      rw [e1]; omega
    · have := a5 q' h1 h2 h3
      rw [e1]; omega
  · rw [e1, hu2] at hw
    have z' : (1000000 : Int) < 1000000 := hw
    omega
theorem WT_n {s : ST} {r : Nat → Nat} {n g t : Nat} {x y : Int} (hy : 1 ≤ y) : WT s r n g x y (t + 1) n = 1000000 := by
  have e1 : WT s r n g x y (t + 1) n = mfG s r x n (g - 1 - t) (WT s r n g x y t) (upG n n y) := rfl
  have e2 : upG n n y = 0 := by unfold upG; omega
  rw [e1, e2]; rfl
/-- the cuts go through to the end -/
theorem ct_ok {s : ST} {r : Nat → Nat} {n g : Nat} {x y : Int} (hn : n ≤ 24) (hx : 1 ≤ x) (hxy : x ≤ y) (h : lvOk s n) (hr : ∀ q, q < n → r q < n) (h0 : WT s r n g x y g 0 < 1000000) : ∀ c, c ≤ g → ctP s r n g x y c ≤ n ∧ WT s r n g x y (g - c) (ctP s r n g x y c) < 1000000
  | 0, _ => ⟨Nat.zero_le _, h0⟩
  | c + 1, hc => by
    obtain ⟨i1, i2⟩ := ct_ok hn hx hxy h hr h0 c (by omega)
    have e : g - c = (g - 1 - c) + 1 := by omega
    rw [e] at i2
    have lt : ctP s r n g x y c < n := by
      rcases Nat.lt_or_ge (ctP s r n g x y c) n with z | z
      · exact z
      · have : ctP s r n g x y c = n := by omega
        rw [this, WT_n (by omega)] at i2
        omega
    obtain ⟨k, a1, a2, a3, a4, a5, a6, -⟩ := sz_ex hn hx h hr (g - 1 - c) (ctP s r n g x y c) lt i2
    have e2 : ctP s r n g x y (c + 1) = ctP s r n g x y c + k := by show _ + szW s r n g x y (g - 1 - c) (ctP s r n g x y c) = _; rw [a5]
    have rb := rc_b (j := g - 1 - (g - 1 - c)) h hn hr a3 a1
    rw [e2]
    refine ⟨a3, ?_⟩
    rw [show g - (c + 1) = g - 1 - c by omega]
    omega
theorem ct_lt {s : ST} {r : Nat → Nat} {n g : Nat} {x y : Int} (hn : n ≤ 24) (hx : 1 ≤ x) (hxy : x ≤ y) (h : lvOk s n) (hr : ∀ q, q < n → r q < n) (h0 : WT s r n g x y g 0 < 1000000) {c : Nat} (hc : c < g) : ctP s r n g x y c < n ∧ ∃ k : Nat, 0 < k ∧ x ≤ k ∧ ctP s r n g x y c + k ≤ n ∧ (k : Int) ≤ y ∧ ctP s r n g x y (c + 1) = ctP s r n g x y c + k ∧ rcG s r (ctP s r n g x y c) c k + WT s r n g x y (g - 1 - c) (ctP s r n g x y c + k) = WT s r n g x y (g - c) (ctP s r n g x y c) ∧ ∀ q : Nat, x ≤ q → 0 < q → q < k → rcG s r (ctP s r n g x y c) c q + WT s r n g x y (g - 1 - c) (ctP s r n g x y c + q) ≠ WT s r n g x y (g - c) (ctP s r n g x y c) := by
  obtain ⟨i1, i2⟩ := ct_ok hn hx hxy h hr h0 c (by omega)
  have e : g - c = (g - 1 - c) + 1 := by omega
  rw [e] at i2 ⊢
  have lt : ctP s r n g x y c < n := by
    rcases Nat.lt_or_ge (ctP s r n g x y c) n with z | z
    · exact z
    · have : ctP s r n g x y c = n := by omega
      rw [this, WT_n (by omega)] at i2
      omega
  obtain ⟨k, a1, a2, a3, a4, a5, a6, a7⟩ := sz_ex hn hx h hr (g - 1 - c) (ctP s r n g x y c) lt i2
  rw [show g - 1 - (g - 1 - c) = c by omega] at a6 a7
  exact ⟨lt, k, a1, a2, a3, a4, by show _ + szW s r n g x y (g - 1 - c) (ctP s r n g x y c) = _; rw [a5], a6, a7⟩
theorem ct_g {s : ST} {r : Nat → Nat} {n g : Nat} {x y : Int} (hn : n ≤ 24) (hx : 1 ≤ x) (hxy : x ≤ y) (h : lvOk s n) (hr : ∀ q, q < n → r q < n) (h0 : WT s r n g x y g 0 < 1000000) : ctP s r n g x y g = n := by
  obtain ⟨i1, i2⟩ := ct_ok hn hx hxy h hr h0 g (Nat.le_refl g)
  rw [Nat.sub_self] at i2
  have e : WT s r n g x y 0 (ctP s r n g x y g) = if ctP s r n g x y g = n then 0 else 1000000 := rfl
  rw [e] at i2
  split at i2
  · assumption
  · omega
theorem gp_eq {ct : Nat → Nat} {g c m : Nat} (mono : ∀ c', c' < g → ct c' ≤ ct (c' + 1)) (hc : c < g) (h1 : ct c ≤ m) (h2 : m < ct (c + 1)) : ∀ k c0, c0 ≤ c → c < c0 + k → gpS ct m k c0 = c
  | 0, c0, a, b => by omega
  | k + 1, c0, a, b => by
    unfold gpS
    by_cases z : c0 = c
    · rw [z, if_pos h2]
    · have le : ∀ c', c' ≤ c → c0 + 1 ≤ c' → ct (c0 + 1) ≤ ct c' := by
        intro c'
        induction c' with
        | zero => intro _ w; omega
        | succ c' ih =>
          intro w1 w2
          by_cases y : c' = c0
          · rw [y]; exact Nat.le_refl _
          · exact Nat.le_trans (ih (by omega) (by omega)) (mono c' (by omega))
      rw [if_neg (by have := le c (Nat.le_refl c) (by omega); omega)]
      exact gp_eq mono hc h1 h2 k (c0 + 1) (by omega) (by omega)
def grp (s : ST) (r : Nat → Nat) (n g : Nat) (x y : Int) (m : Nat) : Nat := gpS (ctP s r n g x y) m g 0
def opGroups (s : ST) (g x y : Int) : Int × ST := if (g < 1 ∨ 6 < g) ∨ (x < 1 ∨ y < x) then (-1, s) else
  if 1000000 ≤ WT s (sortR (mdS2 s) (s 20 0).toNat) (s 20 0).toNat g.toNat x y g.toNat 0 then (-1, s) else
  (WT s (sortR (mdS2 s) (s 20 0).toNat) (s 20 0).toNat g.toNat x y g.toNat 0, asg (sortR (mdS2 s) (s 20 0).toNat) (grp s (sortR (mdS2 s) (s 20 0).toNat) (s 20 0).toNat g.toNat x y) (s 20 0).toNat s)
