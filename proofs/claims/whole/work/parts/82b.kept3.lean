/-! what holds always is kept: groups, watches, the game, copies -/
theorem asg_8 {r gp : Nat → Nat} {s : ST} : ∀ m, (∀ i, i < m → gp i ≤ 5) → ∀ p, asg r gp m s 8 p = s 8 p ∨ (0 ≤ asg r gp m s 8 p ∧ asg r gp m s 8 p ≤ 5)
  | 0, _, p => Or.inl rfl
  | m + 1, h, p => by
    have ih := asg_8 (r := r) (gp := gp) (s := s) m (fun i hi => h i (by omega)) p
    unfold asg
    unfold us
    split
    · have := h m (by omega)
      exact Or.inr ⟨by omega, by omega⟩
    · exact ih
theorem opGroups_2 {s : ST} {g x y : Int} (h : Inv2 s) : Inv2 (opGroups s g x y).2 := by
  unfold opGroups
  split
  · exact h
  · rename_i z
    split
    · exact h
    · rename_i z2
      have gd := h.1.1
      obtain ⟨n, hn⟩ : ∃ n : Nat, s 20 0 = n := ⟨(s 20 0).toNat, by have := gd.1; omega⟩
      have n24 : n ≤ 24 := by have := gd.1; omega
      have hl : lvOk s n := fun k hk => (gd.2.2.2.2.2.2.2.2.2.2.1 k (by omega)).2.2.2.2.1
      rw [hn, Int.toNat_natCast] at z2 ⊢
      have hr : ∀ q, q < n → sortR (mdS2 s) n q < n := fun q hq => sortR_lt n q hq
      have gl : ∀ m, m < n → grp s (sortR (mdS2 s) n) n g.toNat x y m ≤ 5 := by
        intro m hm
        have fd : ∀ c, c ≤ g.toNat → m < ctP s (sortR (mdS2 s) n) n g.toNat x y c → ∃ c', c' < c ∧ ctP s (sortR (mdS2 s) n) n g.toNat x y c' ≤ m ∧ m < ctP s (sortR (mdS2 s) n) n g.toNat x y (c' + 1) := by
          intro c
          induction c with
          | zero => intro _ h2; exact absurd h2 (Nat.not_lt_zero _)
          | succ c ih =>
            intro h1 h2
            by_cases y1 : m < ctP s (sortR (mdS2 s) n) n g.toNat x y c
            · obtain ⟨c', a, b⟩ := ih (by omega) y1
              exact ⟨c', by omega, b⟩
            · exact ⟨c, by omega, by omega, h2⟩
        have e := ct_g n24 (by omega) (by omega) hl hr (show WT s (sortR (mdS2 s) n) n g.toNat x y g.toNat 0 < 1000000 by omega)
        obtain ⟨c, a, b1, b2⟩ := fd g.toNat (Nat.le_refl _) (by rw [e]; exact hm)
        rw [grp_eq n24 (by omega) (by omega) hl hr (by omega) a b1 b2]
        omega
      refine h.one (r := 8) (by omega) (fun q p hq => asg_o hq n) (fun _ _ y1 => by omega) (fun k hk _ => ?_) (fun _ _ y1 => by omega) (fun y1 => by omega)
      have kb := (gd.2.2.2.2.2.2.2.2.2.2.1 k hk).2.2.2.2.2.1
      rcases asg_8 (r := sortR (mdS2 s) n) (s := s) n gl k with w | w
      · show -1 ≤ asg _ _ n s 8 k ∧ asg _ _ n s 8 k ≤ 5
        rw [w]; exact kb
      · show -1 ≤ asg _ _ n s 8 k ∧ asg _ _ n s 8 k ≤ 5
        omega
theorem Inv2.kid {s t : ST} (h : Inv2 s) (hk : ∀ q, Kp q → ∀ p, t q p = s q p) (o : ∀ q p, q < 17 ∨ (20 ≤ q ∧ q ≤ 26) ∨ q = 40 ∨ q = 42 → t q p = s q p) (h27 : 0 ≤ t 27 0 ∧ t 27 0 ≤ 500) (h30 : 0 ≤ t 30 0 ∧ t 30 0 ≤ 14) : Inv2 t := by
  have g := h.1.1
  refine h.k (Inv_c h.1 (Gd_c g (fun q hq p => o q p (by omega)) (by rw [o 25 0 (by omega)]; exact g.2.2.2.2.2.1) (by rw [o 26 0 (by omega)]; exact g.2.2.2.2.2.2.1) h27 h30 (by rw [hk 31 (by unfold Kp; omega)]; exact g.2.2.2.2.2.2.2.2.2.1) (fun i hi K => ?_)) (fun q hq p => o q p (by omega))) hk
  unfold Kid at K ⊢
  rw [o 25 0 (by omega), o 0 i (by omega), o 1 i (by omega), o 2 i (by omega), o 4 i (by omega), o 5 i (by omega), o 6 i (by omega), o 8 i (by omega), o 9 i (by omega), o 10 i (by omega), o 12 i (by omega), o 13 i (by omega), o 14 i (by omega), o 15 i (by omega), o 16 i (by omega)]
  exact K
theorem opWatch_2 {s : ST} {n w k : Int} (h : Inv2 s) : Inv2 (opWatch s n w k).2 := by
  have g := h.1.1
  unfold opWatch
  split
  · exact h
  · rename_i z
    split
    · refine h.kid (fun q hq p => ?_) (fun q p hq => ?_) ?_ ?_
      · unfold Kp at hq
        dsimp only
        rw [un_n (by omega), if_neg (by omega)]
      · try dsimp only
        rw [un_n (by omega), if_neg (by omega)]
      · try dsimp only
        rw [un_n (by decide), if_neg (by omega)]; exact g.2.2.2.2.2.2.2.1
      · try dsimp only
        rw [un_y]; omega
    · exact h
theorem opGame_2 {s ρ : ST} (h : Inv2 s) (g1 : Gm (opGame s ρ).2) (g2 : 0 ≤ (opGame s ρ).2 31 0 ∧ (opGame s ρ).2 31 0 ≤ 16) : Inv2 (opGame s ρ).2 := by
  have g := h.1.1
  have o : ∀ q p, q < 27 ∨ (q = 30 ∨ q = 40 ∨ q = 42 ∨ q = 43) → (opGame s ρ).2 q p = s q p := by
    intro q p hq
    unfold opGame
    split
    · dsimp only
      unfold gCp
      rw [if_neg (by omega), if_neg (by omega), un_n (by omega), un_n (by omega), un_n (by omega)]
    · try dsimp only
      rw [un_n (by omega), un_n (by omega), un_n (by omega)]
  have o27 : (opGame s ρ).2 27 0 = 0 := by
    unfold opGame
    split
    · rfl
    · rfl
  generalize (opGame s ρ).2 = t at g1 g2 o o27
  have hG : Gd t := by
    refine Gd_c g (fun q hq p => o q p (by omega)) (by rw [o 25 0 (by omega)]; exact g.2.2.2.2.2.1) (by rw [o 26 0 (by omega)]; exact g.2.2.2.2.2.2.1) (by rw [o27]; omega) (by rw [o 30 0 (by omega)]; exact g.2.2.2.2.2.2.2.2.1) g2 (fun i hi K => ?_)
    unfold Kid at K ⊢
    rw [o 25 0 (by omega), o 0 i (by omega), o 1 i (by omega), o 2 i (by omega), o 4 i (by omega), o 5 i (by omega), o 6 i (by omega), o 8 i (by omega), o 9 i (by omega), o 10 i (by omega), o 12 i (by omega), o 13 i (by omega), o 14 i (by omega), o 15 i (by omega), o 16 i (by omega)]
    exact K
  refine ⟨Inv_c h.1 hG (fun q hq p => o q p (by omega)), g1, fun k hk q hq => by rw [o q k (by omega)]; exact h.2.2.1 k hk q hq, fun k hk => by rw [o 43 k (by omega)]; exact h.2.2.2 k hk⟩
/-- what two states share that differ only outside the rows -/
theorem EQ_2 {s t : ST} (e : EQ t s) (h : Inv2 s) : Inv2 t := by
  obtain ⟨⟨⟨a1, a2, a3, a4, a5, a6, a7, a8, a9, a10, a11, a12, a13, a14⟩, hb, hm⟩, hg, hz, ht⟩ := h
  have e0 : ∀ q, 20 ≤ q → q ≤ 31 → t q 0 = s q 0 := fun q h1 h2 => e q 0 (by
    rcases (show q = 20 ∨ q = 21 ∨ q = 22 ∨ q = 23 ∨ q = 24 ∨ q = 25 ∨ q = 26 ∨ q = 27 ∨ q = 28 ∨ q = 29 ∨ q = 30 ∨ q = 31 by omega) with rfl | rfl | rfl | rfl | rfl | rfl | rfl | rfl | rfl | rfl | rfl | rfl <;> decide)
  have ek : ∀ q, q < 17 → ∀ k, k < 24 → t q k = s q k := fun q h1 k h2 => e q k (by
    have : xsz q = 24 := by
      have : ∀ q, q < 17 → xsz q = 24 := by decide
      exact this q h1
    omega)
  refine ⟨⟨⟨by rw [e0 20 (by decide) (by decide)]; exact a1, by rw [e0 21 (by decide) (by decide)]; exact a2, by rw [e0 22 (by decide) (by decide)]; exact a3, by rw [e0 23 (by decide) (by decide)]; exact a4, by rw [e0 24 (by decide) (by decide)]; exact a5, by rw [e0 25 (by decide) (by decide)]; exact a6, by rw [e0 26 (by decide) (by decide)]; exact a7, by rw [e0 27 (by decide) (by decide)]; exact a8, by rw [e0 30 (by decide) (by decide)]; exact a9, by rw [e0 31 (by decide) (by decide)]; exact a10, fun k hk => ?_, fun k hk => ?_, fun x c y z => ?_, fun k k1 k2 => ?_⟩, fun k hk => ?_, ?_⟩, ?_, fun k hk q hq => by rw [ek q (by omega) k hk]; exact hz k hk q hq, fun k hk => by rw [e 43 k hk]; exact ht k hk⟩
  · rw [e0 20 (by decide) (by decide)] at hk
    have k24 : k < 24 := by omega
    rw [e0 22 (by decide) (by decide), e0 24 (by decide) (by decide), e0 25 (by decide) (by decide), ek 0 (by decide) k k24, ek 1 (by decide) k k24, ek 2 (by decide) k k24, ek 4 (by decide) k k24, ek 5 (by decide) k k24, ek 6 (by decide) k k24, ek 8 (by decide) k k24, ek 9 (by decide) k k24, ek 10 (by decide) k k24, ek 12 (by decide) k k24, ek 13 (by decide) k k24, ek 14 (by decide) k k24, ek 15 (by decide) k k24, ek 16 (by decide) k k24]
    exact a11 k hk
  · rw [e0 22 (by decide) (by decide)] at hk
    rw [e 40 k (show k < 6 by omega)]
    exact a12 k hk
  · rw [e 42 (x * 24 + c) (show x * 24 + c < 192 by omega), e0 24 (by decide) (by decide), e0 20 (by decide) (by decide)]
    exact a13 x c y z
  · rw [e0 20 (by decide) (by decide)] at k1
    rw [ek 15 (by decide) k k2, ek 16 (by decide) k k2]
    exact a14 k k1 k2
  · rw [e0 22 (by decide) (by decide)] at hk
    rw [e0 20 (by decide) (by decide), e 40 k (show k < 6 by omega)]
    have : lyS t k (s 20 0).toNat = lyS s k (s 20 0).toNat := sumTo_congr _ (fun i hi => by rw [ek 4 (by decide) i (by omega)])
    rw [this]
    exact hb k hk
  · unfold Mk mkS
    rw [e0 20 (by decide) (by decide)]
    have : sumTo (fun i => if t 14 i = 0 then 0 else 1) (s 20 0).toNat = sumTo (fun i => if s 14 i = 0 then 0 else 1) (s 20 0).toNat := sumTo_congr _ (fun i hi => by rw [ek 14 (by decide) i (by omega)])
    rw [this]
    exact hm
  · intro l hl
    rw [e0 31 (by decide) (by decide)] at hl
    have l16 : l < 16 := by omega
    rw [e 50 l l16, e 51 l l16, e 52 l l16]
    obtain ⟨b1, b2, b3, b4⟩ := hg l hl
    refine ⟨b1, b2, b3, fun x x1 x2 => ?_⟩
    rw [e 53 x (show x < 64 by omega), e 54 x (show x < 64 by omega)]
    exact b4 x x1 x2
theorem RM_eq {s t : ST} {I : MI} {j : Nat} (e : EQ t s) (h31 : s 31 0 ≤ 16) (h52 : ∀ l : Nat, (l : Int) < s 31 0 → s 52 l ≤ 4) (h : RM j I s) : RM j I t := by
  obtain ⟨h1, h2, h3⟩ := h
  have m : ∀ q, q < 45 → ma q ≠ 0 → msz q ≤ xsz q := by decide +kernel
  have e31 : t 31 0 = s 31 0 := e 31 0 (by decide)
  refine ⟨fun q hq k hk => ?_, fun k hk => ?_, fun l hl => ?_⟩
  · rw [e q k (by have := m q (ma_lt hq) hq; omega)]
    exact h1 q hq k hk
  · rw [e 15 k hk]
    exact h2 k hk
  · rw [e31] at hl
    have l16 : l < 16 := by omega
    have b := h52 l hl
    rw [e 50 l l16, e 51 l l16, e 52 l l16]
    obtain ⟨b1, b2, b3, b4⟩ := h3 l hl
    refine ⟨b1, b2, b3, fun x x1 x2 => ?_⟩
    have x64 : x < 64 := by omega
    rw [e 53 x x64, e 54 x x64, e 55 x x64, e 56 x x64]
    exact b4 x x1 x2
