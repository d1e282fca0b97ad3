/-! the least cost in the class: cabin by cabin -/
noncomputable def pz (s : ST) (n x : Nat) : Int := if x = 0 then 0 else costC (s4 s x) n 0
def Wy (s : ST) (bd : Nat → Int) (n : Nat) : Nat → Nat → Int → Prop
  | 0, x, v => x = 0 ∧ v = 0
  | k + 1, x, v => ∃ (p : Nat) (u : Int), p &&& x = p ∧ (pcN p : Int) ≤ bd k ∧ Wy s bd n k (x - p) u ∧ v = u + pz s n p
def LsT (P : Int → Prop) (v : Int) : Prop := (P v ∨ v = 1000000) ∧ (∀ u, P u → v ≤ u) ∧ v ≤ 1000000
theorem LsT.eq {P : Int → Prop} {v w : Int} (h : LsT P v) (k : LsT P w) : v = w := by
  rcases h.1 with a | a
  · have := k.2.1 v a
    rcases k.1 with b | b
    · have := h.2.1 w b; omega
    · have := h.2.2; omega
  · rcases k.1 with b | b
    · have := h.2.1 w b; have := k.2.2; omega
    · omega
theorem LsT.i {P Q : Int → Prop} {v : Int} (h : LsT P v) (k : ∀ u, P u ↔ Q u) : LsT Q v := ⟨h.1.imp (k v).mp id, fun u hu => h.2.1 u ((k u).mpr hu), h.2.2⟩
theorem pz_b {s : ST} {n x : Nat} (h : ageOk s n) (hn : n ≤ 24) : 0 ≤ pz s n x ∧ pz s n x ≤ 216012 := by
  unfold pz
  split
  · omega
  · exact costC_b (s := s4 s x) h hn
theorem Wy_0 {s : ST} {bd : Nat → Int} {n : Nat} (h : ageOk s n) (hn : n ≤ 24) : ∀ k x v, Wy s bd n k x v → 0 ≤ v
  | 0, x, v, w => by have := w.2; omega
  | k + 1, x, v, w => by
    obtain ⟨p, u, _, _, c, e⟩ := w
    have := Wy_0 h hn k _ _ c
    have := pz_b (x := p) h hn
    omega
theorem sub_next : ∀ k p x q, p < 2 ^ k → 0 < p → p &&& x = p → q &&& x = q → q < p → q ≤ (p - 1) &&& x := by
  intro k
  induction k with
  | zero => intro p x q h1 h2; omega
  | succ k ih =>
    intro p x q h1 h2 h3 h4 h5
    rw [Nat.pow_succ] at h1
    have e1 : (p - 1 &&& x) / 2 = (p - 1) / 2 &&& x / 2 := Nat.and_div_two
    have d3 : p / 2 &&& x / 2 = p / 2 := by rw [← Nat.and_div_two, h3]
    have d4 : q / 2 &&& x / 2 = q / 2 := by rw [← Nat.and_div_two, h4]
    have q2 : q % 2 ≤ x % 2 := by
      rcases Nat.mod_two_eq_zero_or_one q with z | z
      · omega
      · have := (Nat.and_mod_two_eq_one (a := q) (b := x)).mp (by rw [h4]; exact z)
        omega
    rcases Nat.mod_two_eq_zero_or_one p with z | z
    · have hp : 0 < p / 2 := by omega
      have := ih (p / 2) (x / 2) (q / 2) (by omega) hp d3 d4 (by omega)
      have e3 : (p - 1) / 2 = p / 2 - 1 := by omega
      rw [e3] at e1
      have e2 : (p - 1 &&& x) % 2 = x % 2 := by
        rcases Nat.mod_two_eq_zero_or_one x with y | y
        · rcases Nat.mod_two_eq_zero_or_one (p - 1 &&& x) with w | w
          · omega
          · have := Nat.and_mod_two_eq_one.mp w; omega
        · rw [y]; exact Nat.and_mod_two_eq_one.mpr ⟨by omega, y⟩
      omega
    · have e3 : (p - 1) / 2 = p / 2 := by omega
      rw [e3, d3] at e1
      omega
section CLEAST2
variable {g : GX} {d : Nat} {I : MI} {f : Nat → Bool}
/-- what has been tried down to a part -/
def Pt (s : ST) (bd : Nat → Int) (n k x p : Nat) (v : Int) : Prop := ∃ (q : Nat) (u : Int), q &&& x = q ∧ (q = 0 ∨ p < q) ∧ (pcN q : Int) ≤ bd k ∧ Wy s bd n k (x - q) u ∧ v = u + pz s n q
theorem Pt_first {s : ST} {bd : Nat → Int} {n k x : Nat} (hb : 0 ≤ bd k) (v : Int) : Wy s bd n k x v ↔ Pt s bd n k x x v := by
  constructor
  · intro w
    exact ⟨0, v, Nat.zero_and x, Or.inl rfl, by rw [pc_0]; exact hb, w, by simp [pz]⟩
  · rintro ⟨q, u, a1, a2, a3, a4, a5⟩
    have ql : q ≤ x := by rw [← a1]; exact Nat.and_le_right
    have q0 : q = 0 := by omega
    subst q0
    have : v = u := by rw [a5]; simp [pz]
    rw [this]; exact a4
theorem Pt_last {s : ST} {bd : Nat → Int} {n k x : Nat} (v : Int) : Pt s bd n k x 0 v ↔ Wy s bd n (k + 1) x v := by
  constructor
  · rintro ⟨q, u, a1, a2, a3, a4, a5⟩; exact ⟨q, u, a1, a3, a4, a5⟩
  · rintro ⟨q, u, a1, a3, a4, a5⟩; exact ⟨q, u, a1, by omega, a3, a4, a5⟩
theorem Pt_step {s : ST} {bd : Nat → Int} {n k x p : Nat} (hp : 0 < p) (hx : p &&& x = p) (hp2 : p < 2 ^ 31) (v : Int) : Pt s bd n k x ((p - 1) &&& x) v ↔ Pt s bd n k x p v ∨ ((pcN p : Int) ≤ bd k ∧ ∃ u, Wy s bd n k (x - p) u ∧ v = u + pz s n p) := by
  have lt : (p - 1) &&& x ≤ p - 1 := Nat.and_le_left
  constructor
  · rintro ⟨q, u, a1, a2, a3, a4, a5⟩
    by_cases z : q = p
    · subst z; exact Or.inr ⟨a3, u, a4, a5⟩
    · refine Or.inl ⟨q, u, a1, ?_, a3, a4, a5⟩
      rcases a2 with y | y
      · exact Or.inl y
      · right
        rcases Nat.lt_or_ge q p with w | w
        · have := sub_next 31 p x q hp2 hp hx a1 w; omega
        · omega
  · rintro (⟨q, u, a1, a2, a3, a4, a5⟩ | ⟨a3, u, a4, a5⟩)
    · exact ⟨q, u, a1, by omega, a3, a4, a5⟩
    · exact ⟨p, u, hx, Or.inr (by omega), a3, a4, a5⟩
end CLEAST2
