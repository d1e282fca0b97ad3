/-! the text of a game: how it is cut into words, numbers and signs -/
def isB (v : Int) : Bool := decide (v = 10 ∨ v = 32)
def isL (v : Int) : Bool := decide (97 ≤ v ∧ v ≤ 122)
def isD (v : Int) : Bool := decide (48 ≤ v ∧ v ≤ 57)
theorem isB_t {v : Int} : isB v = true ↔ (v = 10 ∨ v = 32) := by unfold isB; exact decide_eq_true_iff
theorem isL_t {v : Int} : isL v = true ↔ (97 ≤ v ∧ v ≤ 122) := by unfold isL; exact decide_eq_true_iff
theorem isD_t {v : Int} : isD v = true ↔ (48 ≤ v ∧ v ≤ 57) := by unfold isD; exact decide_eq_true_iff
theorem isB_f {v : Int} : isB v = false ↔ ¬ (v = 10 ∨ v = 32) := by unfold isB; exact decide_eq_false_iff_not
theorem isL_f {v : Int} : isL v = false ↔ ¬ (97 ≤ v ∧ v ≤ 122) := by unfold isL; exact decide_eq_false_iff_not
theorem isD_f {v : Int} : isD v = false ↔ ¬ (48 ≤ v ∧ v ≤ 57) := by unfold isD; exact decide_eq_false_iff_not
def skp (f : Int → Bool) (t : Nat → Int) : Nat → Nat → Nat
  | 0, p => p
  | k + 1, p => if f (t p) = true then skp f t k (p + 1) else p
theorem skp_s {f : Int → Bool} {t : Nat → Int} {k p : Nat} : skp f t (k + 1) p = if f (t p) = true then skp f t k (p + 1) else p := rfl
theorem skp_b {f : Int → Bool} {t : Nat → Int} : ∀ k p : Nat, p ≤ skp f t k p ∧ skp f t k p ≤ p + k
  | 0, p => ⟨Nat.le_refl _, Nat.le_refl _⟩
  | k + 1, p => by
    rw [skp_s]
    have := skp_b (f := f) (t := t) k (p + 1)
    split <;> omega
theorem skp_in {f : Int → Bool} {t : Nat → Int} : ∀ k p j : Nat, p ≤ j → j < skp f t k p → f (t j) = true
  | 0, p, j, h1, h2 => by simp only [skp] at h2; omega
  | k + 1, p, j, h1, h2 => by
    rw [skp_s] at h2
    by_cases z : f (t p) = true
    · rw [if_pos z] at h2
      by_cases y : j = p
      · rw [y]; exact z
      · exact skp_in k (p + 1) j (by omega) h2
    · rw [if_neg z] at h2; omega
theorem skp_p {f : Int → Bool} {t : Nat → Int} {k p : Nat} (hk : 0 < k) (h : f (t p) = true) : p < skp f t k p := by
  obtain ⟨m, rfl⟩ : ∃ m, k = m + 1 := ⟨k - 1, by omega⟩
  rw [skp_s, if_pos h]
  have := (skp_b (f := f) (t := t) m (p + 1)).1
  omega
def dv (t : Nat → Int) (q : Nat) : Nat → Int
  | 0 => 0
  | n + 1 => dv t q n * 10 + t (q + n) - 48
theorem dv_s {t : Nat → Int} {q n : Nat} : dv t q (n + 1) = dv t q n * 10 + t (q + n) - 48 := rfl
theorem dv_b {t : Nat → Int} {q : Nat} : ∀ n : Nat, n ≤ 4 → (∀ i, i < n → isD (t (q + i)) = true) → 0 ≤ dv t q n ∧ dv t q n < 10 ^ n
  | 0, _, _ => ⟨Int.le_refl _, (by decide : (0 : Int) < 10 ^ 0)⟩
  | n + 1, h, k => by
    have i := dv_b n (by omega) (fun i hi => k i (by omega))
    have j := isD_t.mp (k n (by omega))
    rw [dv_s]
    have e : (10 : Int) ^ (n + 1) = 10 ^ n * 10 := Int.pow_succ _ _
    rw [e]
    omega
def wl (w : Nat) : Nat := [2, 3, 3, 4, 4, 3, 4, 3, 6, 3, 6, 5, 4, 3, 3, 3, 3, 3].getD w 0
theorem wl_b : ∀ w, w < 18 → 2 ≤ wl w ∧ wl w < 7 ∧ (∀ i, i < 7 → (spB.getD (7 * w + i) 0 = 32 ↔ wl w ≤ i)) ∧ ∀ i, i < wl w → 97 ≤ spB.getD (7 * w + i) 0 ∧ spB.getD (7 * w + i) 0 ≤ 122 := by decide +kernel
theorem wl_u : ∀ w, w < 18 → ∀ v, v < 18 → wl w = wl v → (∀ i, i < wl w → spB.getD (7 * w + i) 0 = spB.getD (7 * v + i) 0) → w = v := by decide +kernel
def isW (t : Nat → Int) (q n w : Nat) : Bool := decide (n = wl w) && (List.range n).all (fun i => decide (t (q + i) = spB.getD (7 * w + i) 0))
theorem isW_t {t : Nat → Int} {q n w : Nat} : isW t q n w = true ↔ n = wl w ∧ ∀ i, i < n → t (q + i) = spB.getD (7 * w + i) 0 := by
  unfold isW
  rw [Bool.and_eq_true, decide_eq_true_iff, List.all_eq_true]
  refine and_congr_right fun _ => ⟨fun h i hi => of_decide_eq_true (h i (List.mem_range.mpr hi)), fun h i hi => decide_eq_true (h i (List.mem_range.mp hi))⟩
theorem isW_f {t : Nat → Int} {q n w : Nat} : isW t q n w = false ↔ ¬ (n = wl w ∧ ∀ i, i < n → t (q + i) = spB.getD (7 * w + i) 0) := by
  rw [← isW_t]
  exact Bool.not_eq_true _ ▸ Iff.rfl
def wcL (t : Nat → Int) (q n : Nat) : Nat → Nat → Int
  | 0, _ => 25
  | k + 1, w => if isW t q n w = true then (w : Int) else wcL t q n k (w + 1)
theorem wcL_s {t : Nat → Int} {q n k w : Nat} : wcL t q n (k + 1) w = if isW t q n w = true then (w : Int) else wcL t q n k (w + 1) := rfl
def wc (t : Nat → Int) (q n : Nat) : Int := wcL t q n 18 0
theorem wcL_b {t : Nat → Int} {q n : Nat} : ∀ k w : Nat, w + k = 18 → (wcL t q n k w = 25 ∧ ∀ v, w ≤ v → v < 18 → isW t q n v = false) ∨ ∃ v : Nat, v < 18 ∧ wcL t q n k w = v ∧ isW t q n v = true
  | 0, w, h => Or.inl ⟨rfl, fun v a b => by omega⟩
  | k + 1, w, h => by
    rw [wcL_s]
    by_cases z : isW t q n w = true
    · rw [if_pos z]
      exact Or.inr ⟨w, by omega, rfl, z⟩
    · rw [if_neg z]
      rcases wcL_b k (w + 1) (by omega) with ⟨a, b⟩ | c
      · refine Or.inl ⟨a, fun v x y => ?_⟩
        by_cases e : v = w
        · rw [e]; exact Bool.eq_false_iff.mpr z
        · exact b v (by omega) y
      · exact Or.inr c
/-- a word is one of the eighteen, or none -/
theorem wc_i {t : Nat → Int} {q n w : Nat} (hw : w < 18) : wc t q n = w ↔ isW t q n w = true := by
  rcases wcL_b (t := t) (q := q) (n := n) 18 0 rfl with ⟨a, b⟩ | ⟨v, a, b, c⟩
  · constructor
    · intro h
      have : (w : Int) = 25 := h.symm.trans a
      omega
    · intro h
      rw [b w (Nat.zero_le _) hw] at h
      cases h
  · constructor
    · intro h
      have : (w : Int) = v := h.symm.trans b
      have e : w = v := by omega
      rw [e]; exact c
    · intro h
      obtain ⟨h1, h2⟩ := isW_t.mp h
      obtain ⟨h3, h4⟩ := isW_t.mp c
      have : v = w := wl_u v a w hw (h3.symm.trans h1) (fun i hi => (h4 i (by omega)).symm.trans (h2 i (by omega)))
      rw [← this]; exact b
theorem wc_b {t : Nat → Int} {q n : Nat} : wc t q n = 25 ∨ (0 ≤ wc t q n ∧ wc t q n < 18) := by
  rcases wcL_b (t := t) (q := q) (n := n) 18 0 rfl with ⟨a, b⟩ | ⟨v, a, b, c⟩
  · exact Or.inl a
  · refine Or.inr ?_
    rw [show wc t q n = v from b]
    omega
def sgn (c : Int) : Int := if c = 58 then 19 else if c = 59 then 20 else if c = 60 then 21 else if c = 62 then 22 else if c = 61 then 23 else 25
def kwS (t : Nat → Int) (L p : Nat) : Nat := skp isB t (L - p) p
def kwW (f : Int → Bool) (t : Nat → Int) (L p : Nat) : Nat := skp f t (L - kwS t L p) (kwS t L p)
def kwE (t : Nat → Int) (L p : Nat) : Nat := if L ≤ kwS t L p then kwS t L p else if isL (t (kwS t L p)) = true then kwW isL t L p else if isD (t (kwS t L p)) = true then kwW isD t L p else kwS t L p + 1
def kwK (t : Nat → Int) (L p : Nat) : Int := if L ≤ kwS t L p then 24 else if isL (t (kwS t L p)) = true then wc t (kwS t L p) (kwW isL t L p - kwS t L p) else if isD (t (kwS t L p)) = true then (if kwW isD t L p - kwS t L p ≤ 4 then 18 else 25) else sgn (t (kwS t L p))
def kwV (t : Nat → Int) (L p : Nat) : Int := dv t (kwS t L p) (kwW isD t L p - kwS t L p)
theorem kwS_b {t : Nat → Int} {L p : Nat} (hp : p ≤ L) : p ≤ kwS t L p ∧ kwS t L p ≤ L := by
  have := skp_b (f := isB) (t := t) (L - p) p
  unfold kwS
  omega
theorem kwW_b {f : Int → Bool} {t : Nat → Int} {L p : Nat} (hp : p ≤ L) : kwS t L p ≤ kwW f t L p ∧ kwW f t L p ≤ L := by
  have h1 := kwS_b (t := t) hp
  have := skp_b (f := f) (t := t) (L - kwS t L p) (kwS t L p)
  unfold kwW
  omega
theorem sgn_b (c : Int) : 19 ≤ sgn c ∧ sgn c ≤ 25 ∧ sgn c ≠ 24 := by
  unfold sgn
  repeat' split
  all_goals decide
theorem kwE_b {t : Nat → Int} {L p : Nat} (hp : p ≤ L) : kwE t L p ≤ L ∧ (kwK t L p ≠ 24 → p < kwE t L p) := by
  have h1 := kwS_b (t := t) hp
  unfold kwE kwK
  by_cases a : L ≤ kwS t L p
  · rw [if_pos a, if_pos a]; exact ⟨h1.2, fun z => absurd rfl z⟩
  · rw [if_neg a, if_neg a]
    by_cases b : isL (t (kwS t L p)) = true
    · rw [if_pos b, if_pos b]
      have h2 := kwW_b (f := isL) (t := t) hp
      have h3 := skp_p (f := isL) (t := t) (k := L - kwS t L p) (by omega) b
      exact ⟨h2.2, fun _ => by unfold kwW; omega⟩
    · rw [if_neg b, if_neg b]
      by_cases c : isD (t (kwS t L p)) = true
      · rw [if_pos c]
        have h2 := kwW_b (f := isD) (t := t) hp
        have h3 := skp_p (f := isD) (t := t) (k := L - kwS t L p) (by omega) c
        exact ⟨h2.2, fun _ => by unfold kwW; omega⟩
      · rw [if_neg c]; omega
theorem kwK_b {t : Nat → Int} {L p : Nat} : 0 ≤ kwK t L p ∧ kwK t L p ≤ 25 := by
  unfold kwK
  by_cases a : L ≤ kwS t L p
  · rw [if_pos a]; decide
  · rw [if_neg a]
    by_cases b : isL (t (kwS t L p)) = true
    · rw [if_pos b]
      rcases wc_b (t := t) (q := kwS t L p) (n := kwW isL t L p - kwS t L p) with h | h <;> omega
    · rw [if_neg b]
      by_cases c : isD (t (kwS t L p)) = true
      · rw [if_pos c]
        by_cases d : kwW isD t L p - kwS t L p ≤ 4
        · rw [if_pos d]; decide
        · rw [if_neg d]; decide
      · rw [if_neg c]
        have := sgn_b (t (kwS t L p))
        omega
theorem kwK_18 {t : Nat → Int} {L p : Nat} (hp : p ≤ L) (h : kwK t L p = 18) : 0 ≤ kwV t L p ∧ kwV t L p ≤ 9999 := by
  unfold kwK at h
  by_cases a : L ≤ kwS t L p
  · rw [if_pos a] at h; omega
  · rw [if_neg a] at h
    by_cases b : isL (t (kwS t L p)) = true
    · rw [if_pos b] at h
      rcases wc_b (t := t) (q := kwS t L p) (n := kwW isL t L p - kwS t L p) with h' | h' <;> omega
    · rw [if_neg b] at h
      by_cases c : isD (t (kwS t L p)) = true
      · rw [if_pos c] at h
        by_cases d : kwW isD t L p - kwS t L p ≤ 4
        · have h2 := kwW_b (f := isD) (t := t) hp
          have k := dv_b (t := t) (q := kwS t L p) (kwW isD t L p - kwS t L p) d (fun i hi => skp_in (L - kwS t L p) (kwS t L p) _ (by omega) (by have : kwW isD t L p = skp isD t (L - kwS t L p) (kwS t L p) := rfl; omega))
          unfold kwV
          have e : (10 : Int) ^ (kwW isD t L p - kwS t L p) ≤ 10 ^ 4 := by
            have : ∀ n : Nat, n ≤ 4 → (10 : Int) ^ n ≤ 10 ^ 4 := by decide
            exact this _ d
          have e4 : (10 : Int) ^ 4 = 10000 := by decide
          omega
        · rw [if_neg d] at h; omega
      · rw [if_neg c] at h
        have := sgn_b (t (kwS t L p))
        omega
