/-! rows that go on from a beginning -/
def Cp (s : ST) (bd : Nat → Int) (n m : Nat) (r : Nat → Int) (i : Nat) (u : Int) : Prop := ∃ R : Nat → Nat, (∀ a, a < i → (R a : Int) = r a) ∧ (∀ a, a < n → R a < m) ∧ (∀ c : Nat, c < m → lyS (r4 s n (fun a => (R a : Int))) c n ≤ bd c) ∧ u = allC (r4 s n (fun a => (R a : Int))) n m
def up4 (r : Nat → Int) (i : Nat) (c : Int) : Nat → Int := fun a => if a = i then c else r a
theorem Cp_0 {s : ST} {bd : Nat → Int} {n m : Nat} {r : Nat → Int} {u : Int} (hn : n ≤ 7) : Cp s bd n m r 0 u ↔ Wy s bd n m (2 ^ n - 1) u := by
  rw [Wy_row hn]
  constructor
  · rintro ⟨R, _, h2, h3, h4⟩; exact ⟨R, h2, h3, h4⟩
  · rintro ⟨R, h2, h3, h4⟩; exact ⟨R, fun a ha => absurd ha (Nat.not_lt_zero _), h2, h3, h4⟩
theorem r4_c {s : ST} {n : Nat} {r r' : Nat → Int} (h : ∀ a, a < n → r a = r' a) : r4 s n r = r4 s n r' := by
  funext q p
  unfold r4
  by_cases z : q = 4 ∧ p < n
  · rw [if_pos z, if_pos z, h p z.2]
  · rw [if_neg z, if_neg z]
theorem Cp_n {s : ST} {bd : Nat → Int} {n m : Nat} {r : Nat → Int} {u : Int} (h1 : ∀ a, a < n → 0 ≤ r a ∧ r a < m) (h2 : ∀ c : Nat, c < m → lyS (r4 s n r) c n ≤ bd c) : Cp s bd n m r n u ↔ u = allC (r4 s n r) n m := by
  constructor
  · rintro ⟨R, a1, _, _, a4⟩
    rw [a4, r4_c a1]
  · intro e
    have eq : ∀ a, a < n → (((r a).toNat : Nat) : Int) = r a := fun a ha => by have := h1 a ha; omega
    exact ⟨fun a => (r a).toNat, eq, fun a ha => by have := h1 a ha; show (r a).toNat < m; omega, fun c hc => by rw [r4_c eq]; exact h2 c hc, by rw [r4_c eq]; exact e⟩
theorem Cp_s {s : ST} {bd : Nat → Int} {n m : Nat} {r : Nat → Int} {i : Nat} {u : Int} (hi : i < n) : Cp s bd n m r i u ↔ ∃ c : Nat, c < m ∧ Cp s bd n m (up4 r i c) (i + 1) u := by
  constructor
  · rintro ⟨R, a1, a2, a3, a4⟩
    refine ⟨R i, a2 i hi, R, fun a ha => ?_, a2, a3, a4⟩
    unfold up4
    by_cases z : a = i
    · rw [if_pos z, z]
    · rw [if_neg z]; exact a1 a (by omega)
  · rintro ⟨c, hc, R, a1, a2, a3, a4⟩
    refine ⟨R, fun a ha => ?_, a2, a3, a4⟩
    have := a1 a (by omega)
    unfold up4 at this
    rw [if_neg (by omega)] at this
    exact this
theorem Cp_c {s : ST} {bd : Nat → Int} {n m : Nat} {r r' : Nat → Int} {i : Nat} {u : Int} (h : ∀ a, a < i → r a = r' a) : Cp s bd n m r i u ↔ Cp s bd n m r' i u := by
  constructor
  · rintro ⟨R, a1, a2⟩; exact ⟨R, fun a ha => (a1 a ha).trans (h a ha), a2⟩
  · rintro ⟨R, a1, a2⟩; exact ⟨R, fun a ha => (a1 a ha).trans (h a ha).symm, a2⟩
theorem Cp_full {s : ST} {bd : Nat → Int} {n m : Nat} {r : Nat → Int} {i c : Nat} {u : Int} (hi : i < n) (hc : c < m) (h : ∀ a, i ≤ a → a < n → r a < 0) (hf : bd c ≤ lyS (r4 s n r) c n) : ¬ Cp s bd n m (up4 r i c) (i + 1) u := by
  rintro ⟨R, a1, a2, a3, _⟩
  have h3 := a3 c hc
  have ei : (R i : Int) = c := by
    have := a1 i (by omega)
    unfold up4 at this
    rw [if_pos rfl] at this
    exact this
  have lt : lyS (r4 s n r) c n + 1 ≤ lyS (r4 s n (fun a => (R a : Int))) c n := by
    have e : lyS (r4 s n r) c n + 1 = sumTo (fun a => (if r4 s n r 4 a = c then 1 else 0) + if a = i then 1 else 0) n := by
      rw [sumTo_add, sumTo_one, if_pos hi]
      rfl
    rw [e]
    unfold lyS
    refine sumTo_le n (fun a ha => ?_)
    rw [r4_4 ha, r4_4 ha]
    by_cases z : a = i
    · subst z
      have := h a (Nat.le_refl _) ha
      rw [if_neg (by omega), if_pos rfl, if_pos ei]
      omega
    · rw [if_neg z]
      by_cases y : a < i
      · have := a1 a (by omega)
        unfold up4 at this
        rw [if_neg z] at this
        rw [this]
        omega
      · have := h a (by omega) ha
        rw [if_neg (by omega)]
        split <;> omega
  omega
theorem Cp_pd {s : ST} {bd : Nat → Int} {n m : Nat} {r : Nat → Int} {i : Nat} {u : Int} (hg : ageOk s n) (hi : i ≤ n) (h : Cp s bd n m r i u) : pd s r i ≤ u := by
  obtain ⟨R, a1, a2, _, a4⟩ := h
  rw [a4, ← pd_c a1]
  exact pd_all hg a2 hi
theorem LsT.more {P Q : Int → Prop} {v : Int} (h : LsT P v) (k1 : ∀ u, P u → Q u) (k2 : ∀ u, Q u → P u ∨ v ≤ u) : LsT Q v := ⟨h.1.imp (k1 v) id, fun u hu => (k2 u hu).elim (h.2.1 u) id, h.2.2⟩
theorem LsT.one {P Q : Int → Prop} {v w : Int} (h : LsT P v) (k : ∀ u, Q u ↔ P u ∨ u = w) : LsT Q (if w < v then w else v) := by
  have h2 := h.2.2
  split
  · refine ⟨Or.inl ((k w).mpr (Or.inr rfl)), fun u hu => ?_, by omega⟩
    rcases (k u).mp hu with y | y
    · have := h.2.1 u y; omega
    · omega
  · refine ⟨h.1.imp (fun y => (k v).mpr (Or.inl y)) id, fun u hu => ?_, h2⟩
    rcases (k u).mp hu with y | y
    · exact h.2.1 u y
    · omega
