/-! the least cost in the reference: the search -/
section MLEAST2
variable {g : GX} {d : Nat} {I : MI} {f : Nat → Bool}
/-- cabins tried at one place, until one goes or none is left -/
theorem m_scan {s : ST} {n m i c0 : Nat} {r : Nat → Int} {B : Int} {Q : Int → Prop} {φ : Int → MI → MR → Prop} {I2 : MI} (hn : n ≤ 7) (hm : m ≤ 6) (h20 : s 20 0 = n) (h22 : s 22 0 = m) (hg : ageOk s n) (hi : i < n) (h1 : Sr I I2 s n i r) (hr : ∀ a, i ≤ a → a < n → r a < 0)
    (hDown : ∀ c : Nat, c0 ≤ c → c < m → lyS (r4 s n r) c n < s 40 c → pd s r i + pdI s r c i i < B → LsT (fun u => Q u ∨ ∃ c' : Nat, c' < c ∧ Cp s (s 40) n m (up4 r i c') (i + 1) u) B → AtP g (d + 6) 157 (fun r I R => ∃ v, r = some (.inl v) ∧ φ v I R) 126 [some (.inr (.inr (some (300)))), some (.inl (n)), some (.inl (B)), some (.inl (i)), some (.inl (c)), some (.inl (1)), none, none] [] (upI I2 343 (i + 1) (pd s r i + pdI s r c i i)) (gW f) [])
    (hUp : LsT (fun u => Q u ∨ ∃ c' : Nat, c' < m ∧ Cp s (s 40) n m (up4 r i c') (i + 1) u) B → AtP g (d + 6) 157 (fun r I R => ∃ v, r = some (.inl v) ∧ φ v I R) 126 [some (.inr (.inr (some (300)))), some (.inl (n)), some (.inl (B)), some (.inl (i)), some (.inl (m)), some (.inl (0)), none, none] [] I2 (gW f) []) : ∀ c, c ≤ m → c0 ≤ c → LsT (fun u => Q u ∨ ∃ c' : Nat, c' < c ∧ Cp s (s 40) n m (up4 r i c') (i + 1) u) B → AtP g (d + 6) 157 (fun r I R => ∃ v, r = some (.inl v) ∧ φ v I R) 126 [some (.inr (.inr (some (300)))), some (.inl (n)), some (.inl (B)), some (.inl (i)), some (.inl (c)), some (.inl (0)), none, none] [] I2 (gW f) [] := by
  refine loop_up (P := fun c : Nat => c0 ≤ c → LsT (fun u => Q u ∨ ∃ c' : Nat, c' < c ∧ Cp s (s 40) n m (up4 r i c') (i + 1) u) B → AtP g (d + 6) 157 (fun r I R => ∃ v, r = some (.inl v) ∧ φ v I R) 126 [some (.inr (.inr (some (300)))), some (.inl (n)), some (.inl (B)), some (.inl (i)), some (.inl (c)), some (.inl (0)), none, none] [] I2 (gW f) []) m ?_ ?_
  · exact fun _ => hUp
  · intro c hc ih h0 hL
    refine m_tryCab hn hm h20 h22 hg hi hc h1 (fun z => ?_) (fun z y => hDown c h0 hc z y hL)
    refine ih (by omega) (hL.more (fun u hu => hu.imp id (fun ⟨c', a, b⟩ => ⟨c', by omega, b⟩)) (fun u hu => ?_))
    rcases hu with hu | ⟨c', a, b⟩
    · exact Or.inl (Or.inl hu)
    · by_cases e : c' = c
      · subst e
        rcases z with z | z
        · exact absurd b (Cp_full hi hc hr z)
        · right
          have := Cp_pd hg (by omega) b
          rw [pd_s, pd_c (r' := r) (fun a ha => by unfold up4; rw [if_neg (by omega)]), pdI_c (r' := r) (fun a ha => by unfold up4; rw [if_neg (by omega)])] at this
          rw [show up4 r i c' i = (c' : Int) from if_pos rfl] at this
          omega
      · exact Or.inl (Or.inr ⟨c', by omega, b⟩)
end MLEAST2
