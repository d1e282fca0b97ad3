/-! what holds always is kept: all of it, by all calls -/
def Zb (s : ST) : Prop := ∀ k, k < 24 → ∀ q, q = 2 ∨ q = 12 ∨ q = 14 → s q k = 0 ∨ s q k = 1
def Inv2 (s : ST) : Prop := Inv s ∧ Gm s ∧ Zb s ∧ Tb (s 43)
def Kp (q : Nat) : Prop := q = 2 ∨ q = 12 ∨ q = 14 ∨ q = 31 ∨ q = 43 ∨ (50 ≤ q ∧ q ≤ 56)
theorem Gm_k {s t : ST} (h : ∀ q, q = 31 ∨ (50 ≤ q ∧ q ≤ 56) → ∀ p, t q p = s q p) (hG : Gm s) : Gm t := by
  intro l hl
  rw [h 31 (Or.inl rfl)] at hl
  rw [h 50 (Or.inr (by decide)), h 51 (Or.inr (by decide)), h 52 (Or.inr (by decide))]
  refine ⟨(hG l hl).1, (hG l hl).2.1, (hG l hl).2.2.1, fun x h1 h2 => ?_⟩
  rw [h 53 (Or.inr (by decide)), h 54 (Or.inr (by decide))]
  exact (hG l hl).2.2.2 x h1 h2
theorem Inv2.z {s t : ST} (h : Inv2 s) (hi : Inv t) (hk : ∀ q, q = 31 ∨ q = 43 ∨ (50 ≤ q ∧ q ≤ 56) → ∀ p, t q p = s q p) (hz : ∀ k q, q = 2 ∨ q = 12 ∨ q = 14 → t q k = s q k ∨ t q k = 0 ∨ t q k = 1) : Inv2 t := by
  obtain ⟨-, b, c, e⟩ := h
  refine ⟨hi, Gm_k (fun q hq p => hk q (by omega) p) b, fun k h1 q hq => ?_, fun k hk2 => by rw [hk 43 (by omega) k]; exact e k hk2⟩
  rcases hz k q hq with z | z
  · rw [z]; exact c k h1 q hq
  · exact z
theorem Inv2.k {s t : ST} (h : Inv2 s) (hi : Inv t) (hk : ∀ q, Kp q → ∀ p, t q p = s q p) : Inv2 t :=
  h.z hi (fun q hq p => hk q (by unfold Kp; omega) p) (fun k q hq => Or.inl (hk q (by unfold Kp; omega) k))
theorem opCabin_2 {s : ST} {b : Int} (h : Inv2 s) : Inv2 (opCabin s b).2 := h.k (opCabin_k h.1) (fun q hq p => by
  unfold Kp at hq
  unfold opCabin
  split
  · rfl
  · try dsimp only
    rw [un_n (by omega), us_n (by omega)])
theorem opEnd_2 {s : ST} {n : Int} (h : Inv2 s) : Inv2 (opEnd s n).2 := h.k (opEnd_k h.1) (fun q hq p => by
  unfold Kp at hq
  unfold opEnd
  split
  · rfl
  · try dsimp only
    rw [un_n (by omega)])
theorem opHost_2 {s : ST} (h : Inv2 s) : Inv2 (opHost s).2 := h.k (opHost_k h.1) (fun q hq p => by
  unfold Kp at hq
  unfold opHost
  split
  · rfl
  · try dsimp only
    rw [un_n (by omega)])
theorem opLike_2 {s : ST} {k c v : Int} (h : Inv2 s) : Inv2 (opLike s k c v).2 := h.k (opLike_k h.1) (fun q hq p => by
  unfold Kp at hq
  unfold opLike
  split
  · rfl
  · try dsimp only
    rw [us_n (by omega)])
theorem opHelper_2 {s : ST} {v : Int} (h : Inv2 s) : Inv2 (opHelper s v).2 := h.k (opHelper_k h.1) (fun q hq p => by
  unfold Kp at hq
  unfold opHelper
  split
  · rfl
  · try dsimp only
    rw [un_n (by omega), us_n (by omega)])
theorem opTask_2 {s : ST} {c x p : Int} (h : Inv2 s) : Inv2 (opTask s c x p).2 := h.k (opTask_k h.1) (fun q hq p => by
  unfold Kp at hq
  unfold opTask
  split
  · rfl
  · show tkS s c.toNat x _ q p = _
    unfold tkS
    split
    · try dsimp only
      rw [us_n (by omega), us_n (by omega), us_n (by omega)]
    · try dsimp only
      rw [us_n (by omega), us_n (by omega)])
theorem opLie_2 {s : ST} {c k : Int} (h : Inv2 s) : Inv2 (opLie s c k).2 := h.k (opLie_k h.1) (fun q hq p => by
  unfold Kp at hq
  unfold opLie
  split
  · rfl
  · try dsimp only
    rw [us_n (by omega)])
theorem opBar_2 {s : ST} {a b : Int} (h : Inv2 s) : Inv2 (opBar s a b).2 := h.k (opBar_k h.1) (fun q hq p => by
  unfold Kp at hq
  unfold opBar
  split
  · rfl
  · try dsimp only
    rw [un_n (by omega), us_n (by omega), us_n (by omega)])
theorem opMark_2 {s : ST} {c b a w : Int} (h : Inv2 s) : Inv2 (opMark s c b a w).2 := by
  refine h.z (opMark_k h.1) (fun q hq p => ?_) (fun k q hq => ?_)
  · unfold opMark
    split
    · rfl
    · try dsimp only
      rw [us_n (by omega), us_n (by omega), us_n (by omega)]
  · unfold opMark
    split
    · exact Or.inl rfl
    · try dsimp only
      rw [us_n (by omega), us_n (by omega)]
      unfold us
      split
      · exact Or.inr (Or.inr rfl)
      · exact Or.inl rfl
theorem opChild_2 {s : ST} {t a y : Int} (hy : y = 0 ∨ y = 1) (h : Inv2 s) : Inv2 (opChild s t a y).2 := by
  refine h.z (opChild_k hy h.1) (fun q hq p => ?_) (fun k q hq => ?_)
  · unfold opChild
    split
    · rfl
    · try dsimp only
      rw [un_n (by omega), us_n (by omega), us_n (by omega), us_n (by omega), us_n (by omega), us_n (by omega), us_n (by omega), us_n (by omega), us_n (by omega), us_n (by omega), us_n (by omega), us_n (by omega), us_n (by omega), us_n (by omega), us_n (by omega), us_n (by omega), us_n (by omega), us_n (by omega)]
  · unfold opChild
    split
    · exact Or.inl rfl
    · rcases hq with rfl | rfl | rfl
      all_goals
        simp +decide only [un, us, true_and, false_and, if_false]
        split
        · first | exact Or.inr (Or.inl rfl) | exact Or.inr hy
        · exact Or.inl rfl
theorem w8_b (x : Int) : -128 ≤ w8 x ∧ w8 x < 128 := by
  rw [w8_eq, Int8.toInt_toInt32]
  have h1 := (Int32.ofInt x).toInt8.le_toInt
  have h2 := (Int32.ofInt x).toInt8.toInt_lt
  omega
theorem opFeed_2 {s : ST} {a b c e x : Int} (h : Inv2 s) : Inv2 (opFeed s a b c e x).2 := by
  have t1 : ∀ (t : ST) y u, (Gm t ∧ Zb t ∧ Tb (t 43)) → Gm (tp1 t y u) ∧ Zb (tp1 t y u) ∧ Tb (tp1 t y u 43) := fun t y u k => by
    have o : ∀ q p, q ≠ 43 → q ≠ 27 → tp1 t y u q p = t q p := fun q p z1 z2 => by unfold tp1; rw [un_n z2, us_n z1]
    refine ⟨Gm_k (fun q hq p => o q p (by omega) (by omega)) k.1, fun i hi q hq => by rw [o q i (by omega) (by omega)]; exact k.2.1 i hi q hq, fun i hi => ?_⟩
    unfold tp1
    rw [un_n (by decide)]
    unfold us
    split
    · exact w8_b _
    · exact k.2.2 i hi
  have t4 : ∀ (t : ST) y, (Gm t ∧ Zb t ∧ Tb (t 43)) → Gm (tp4 t y) ∧ Zb (tp4 t y) ∧ Tb (tp4 t y 43) := fun t y k => by
    unfold tp4
    exact t1 _ _ _ (t1 _ _ _ (t1 _ _ _ (t1 _ _ _ k)))
  refine ⟨opFeed_k h.1, ?_⟩
  unfold opFeed
  split
  · exact h.2
  · exact t4 _ _ (t4 _ _ (t4 _ _ (t4 _ _ (t4 _ _ h.2))))
def Kid (t : ST) (k : Nat) (m H D : Int) : Prop := (0 ≤ t 0 k ∧ t 0 k ≤ 5) ∧ (8 ≤ t 1 k ∧ t 1 k ≤ 17) ∧ (t 2 k = 0 ∨ t 2 k = 1) ∧ (-1 ≤ t 4 k ∧ t 4 k < m) ∧ (0 ≤ t 5 k ∧ t 5 k ≤ t 6 k ∧ t 6 k ≤ 10) ∧ (-1 ≤ t 8 k ∧ t 8 k ≤ 5) ∧ (0 ≤ t 9 k ∧ t 9 k ≤ 9999) ∧ (0 ≤ t 10 k ∧ t 10 k ≤ D) ∧ (t 12 k = 0 ∨ t 12 k = 1) ∧ (-1 ≤ t 13 k ∧ t 13 k < H) ∧ (t 14 k = 0 ∨ t 14 k = 1) ∧ (-100 ≤ t 15 k ∧ t 15 k ≤ 100) ∧ (t 16 k = 0 ∨ t 16 k = 1)
theorem Gd_c {s t : ST} (h : Gd s) (e : ∀ q, q = 20 ∨ q = 21 ∨ q = 22 ∨ q = 23 ∨ q = 24 ∨ q = 40 ∨ q = 42 ∨ q = 15 ∨ q = 16 → ∀ p, t q p = s q p) (h25 : 0 ≤ t 25 0 ∧ t 25 0 ≤ 9999) (h26 : 0 ≤ t 26 0 ∧ t 26 0 ≤ 23) (h27 : 0 ≤ t 27 0 ∧ t 27 0 ≤ 500) (h30 : 0 ≤ t 30 0 ∧ t 30 0 ≤ 14) (h31 : 0 ≤ t 31 0 ∧ t 31 0 ≤ 16) (hk : ∀ k : Nat, (k : Int) < s 20 0 → Kid s k (s 22 0) (s 24 0) (s 25 0) → Kid t k (s 22 0) (s 24 0) (t 25 0)) : Gd t := by
  obtain ⟨a1, a2, a3, a4, a5, a6, a7, a8, a9, a10, a11, a12, a13, a14⟩ := h
  have e20 := e 20 (by omega) 0
  have e22 := e 22 (by omega) 0
  have e24 := e 24 (by omega) 0
  refine ⟨by rw [e20]; exact a1, by rw [e 21 (by omega)]; exact a2, by rw [e22]; exact a3, by rw [e 23 (by omega)]; exact a4, by rw [e24]; exact a5, h25, h26, h27, h30, h31, fun k hk2 => ?_, fun k hk2 => ?_, fun x c y z => ?_, fun k k1 k2 => ?_⟩
  · rw [e20] at hk2
    have := hk k hk2 (a11 k hk2)
    rw [e22, e24]
    exact this
  · rw [e22] at hk2
    rw [e 40 (by omega)]
    exact a12 k hk2
  · rw [e 42 (by omega), e24, e20]
    exact a13 x c y z
  · rw [e20] at k1
    rw [e 15 (by omega), e 16 (by omega)]
    exact a14 k k1 k2
theorem Inv_c {s t : ST} (h : Inv s) (hG : Gd t) (e : ∀ q, q = 4 ∨ q = 14 ∨ q = 20 ∨ q = 22 ∨ q = 40 → ∀ p, t q p = s q p) : Inv t := by
  obtain ⟨-, hb, hm⟩ := h
  have e4 : t 4 = s 4 := funext (e 4 (by omega))
  have e14 : t 14 = s 14 := funext (e 14 (by omega))
  refine ⟨hG, fun k hk => ?_, ?_⟩
  · rw [e 22 (by omega)] at hk
    unfold lyS
    rw [e4, e 20 (by omega), e 40 (by omega)]
    exact hb k hk
  · unfold Mk mkS
    rw [e14, e 20 (by omega)]
    exact hm
theorem plF_b {s : ST} {k : Nat} {mo : Nat → Int} (hG : Gm s) : ∀ n l : Nat, ∀ has : Int, ((l + n : Nat) : Int) ≤ s 31 0 → 0 ≤ has → has ≤ 9999 → 0 ≤ plF s k mo n l has ∧ plF s k mo n l has ≤ 9999
  | 0, l, has, _, h1, h2 => ⟨h1, h2⟩
  | n + 1, l, has, h0, h1, h2 => by
    rw [plF_s]
    split
    · split
      · exact ⟨h1, h2⟩
      · have b := chg_b hG (l := l) (by omega) h1 h2
        exact plF_b hG n (l + 1) _ (by omega) b.1 b.2
    · exact plF_b hG n (l + 1) _ (by omega) h1 h2
theorem play_b {s : ST} {k : Nat} {mo : Nat → Int} (hG : Gm s) (h31 : 0 ≤ s 31 0) (h9 : 0 ≤ s 9 k ∧ s 9 k ≤ 9999) : 0 ≤ play s k mo ∧ play s k mo ≤ 9999 := plF_b hG _ 0 _ (by omega) h9.1 h9.2
theorem opSaid_2 {s : ST} {c x w own hp : Int} (h : Inv2 s) : Inv2 (opSaid s c x w own hp).2 := by
  unfold opSaid
  split
  · exact h
  · rename_i z
    have g := h.1.1
    generalize hk : c.toNat = k
    have so : ∀ q p, q ≠ 26 → q ≠ 12 → q ≠ 11 → q ≠ 10 → sdS s k x w own q p = s q p := fun q p a b c d => sdS_o a b c d
    have s10 : ∀ p, sdS s k x w own 10 p = s 10 p ∨ sdS s k x w own 10 p = s 25 0 := fun p => by
      unfold sdS
      split
      · try dsimp only
        rw [us_n (by decide), us_n (by decide), un_n (by decide)]; exact Or.inl rfl
      · unfold us
        split
        · exact Or.inr rfl
        · exact Or.inl rfl
    have s12 : ∀ p, sdS s k x w own 12 p = s 12 p ∨ sdS s k x w own 12 p = 1 := fun p => by
      unfold sdS
      split
      · try dsimp only
        rw [us_n (by decide)]
        unfold us
        split
        · exact Or.inr rfl
        · exact Or.inl rfl
      · try dsimp only
        rw [us_n (by decide), us_n (by decide)]
        unfold us
        split
        · exact Or.inr rfl
        · exact Or.inl rfl
    have s26 : sdS s k x w own 26 0 = x := by
      unfold sdS
      split
      · try dsimp only
        rw [us_n (by decide), us_n (by decide)]; exact un_y
      · try dsimp only
        rw [us_n (by decide), us_n (by decide), us_n (by decide)]; exact un_y
    have hGm : Gm (sdS s k x w own) := Gm_k (fun q hq p => so q p (by omega) (by omega) (by omega) (by omega)) h.2.1
    have kb := g.2.2.2.2.2.2.2.2.2.2.1 k (by omega)
    have pb := play_b (k := k) (mo := moS (s 25 0) x w own hp 0) hGm (by rw [so 31 0 (by decide) (by decide) (by decide) (by decide)]; exact g.2.2.2.2.2.2.2.2.2.1.1) (by rw [so 9 k (by decide) (by decide) (by decide) (by decide)]; exact kb.2.2.2.2.2.2.1)
    have hi : Inv (us (sdS s k x w own) 9 k (play (sdS s k x w own) k (moS (s 25 0) x w own hp 0))) := by
      refine Inv_c h.1 (Gd_c g (fun q hq p => by rw [us_n (by omega), so q p (by omega) (by omega) (by omega) (by omega)]) (by rw [us_n (by decide), so 25 0 (by decide) (by decide) (by decide) (by decide)]; exact g.2.2.2.2.2.1) (by rw [us_n (by decide), s26]; have := g.2.2.2.2.2.2.1; omega) (by rw [us_n (by decide), so 27 0 (by decide) (by decide) (by decide) (by decide)]; exact g.2.2.2.2.2.2.2.1) (by rw [us_n (by decide), so 30 0 (by decide) (by decide) (by decide) (by decide)]; exact g.2.2.2.2.2.2.2.2.1) (by rw [us_n (by decide), so 31 0 (by decide) (by decide) (by decide) (by decide)]; exact g.2.2.2.2.2.2.2.2.2.1) (fun i hi K => ?_)) (fun q hq p => by rw [us_n (by omega), so q p (by omega) (by omega) (by omega) (by omega)])
      obtain ⟨b0, b1, b2, b4, b5, b8, b9, b10, b12, b13, b14, b15, b16⟩ := K
      have o : ∀ q, q ≠ 9 → us (sdS s k x w own) 9 k (play (sdS s k x w own) k (moS (s 25 0) x w own hp 0)) q i = sdS s k x w own q i := fun q hq => us_n hq
      have o2 : ∀ q, q ≠ 9 → q ≠ 26 → q ≠ 12 → q ≠ 11 → q ≠ 10 → us (sdS s k x w own) 9 k (play (sdS s k x w own) k (moS (s 25 0) x w own hp 0)) q i = s q i := fun q hq a b c d => by rw [o q hq, so q i a b c d]
      have e25 : us (sdS s k x w own) 9 k (play (sdS s k x w own) k (moS (s 25 0) x w own hp 0)) 25 0 = s 25 0 := by rw [us_n (by decide), so 25 0 (by decide) (by decide) (by decide) (by decide)]
      unfold Kid
      rw [e25, o2 0 (by decide) (by decide) (by decide) (by decide) (by decide), o2 1 (by decide) (by decide) (by decide) (by decide) (by decide), o2 2 (by decide) (by decide) (by decide) (by decide) (by decide), o2 4 (by decide) (by decide) (by decide) (by decide) (by decide), o2 5 (by decide) (by decide) (by decide) (by decide) (by decide), o2 6 (by decide) (by decide) (by decide) (by decide) (by decide), o2 8 (by decide) (by decide) (by decide) (by decide) (by decide), o2 13 (by decide) (by decide) (by decide) (by decide) (by decide), o2 14 (by decide) (by decide) (by decide) (by decide) (by decide), o2 15 (by decide) (by decide) (by decide) (by decide) (by decide), o2 16 (by decide) (by decide) (by decide) (by decide) (by decide), o 10 (by decide), o 12 (by decide)]
      refine ⟨b0, b1, b2, b4, b5, b8, ?_, ?_, ?_, b13, b14, b15, b16⟩
      · unfold us
        split
        · exact pb
        · rw [so 9 i (by decide) (by decide) (by decide) (by decide)]; exact b9
      · have d := g.2.2.2.2.2.1
        rcases s10 i with y | y <;> rw [y] <;> omega
      · rcases s12 i with y | y <;> rw [y]
        · exact b12
        · exact Or.inr rfl
    refine h.z hi (fun q hq p => by (try dsimp only); rw [us_n (by omega), so q p (by omega) (by omega) (by omega) (by omega)]) (fun p q hq => ?_)
    try dsimp only
    rw [us_n (by omega)]
    rcases hq with rfl | rfl | rfl
    · exact Or.inl (so 2 p (by decide) (by decide) (by decide) (by decide))
    · rcases s12 p with y | y
      · exact Or.inl y
      · exact Or.inr (Or.inr y)
    · exact Or.inl (so 14 p (by decide) (by decide) (by decide) (by decide))
theorem opNight_2 {s : ST} (h : Inv2 s) : Inv2 (opNight s).2 := by
  unfold opNight
  split
  · exact h
  · rename_i z
    have g := h.1.1
    generalize hn : (s 20 0).toNat = n
    have o : ∀ q p, q ≠ 9 → q ≠ 12 → q ≠ 11 → q ≠ 25 → q ≠ 26 → un (un (ntS s n n) 25 (s 25 0 + 1)) 26 0 q p = s q p := fun q p a b c d e => by rw [un_n e, un_n d, ntS_o a b c]
    have e25 : un (un (ntS s n n) 25 (s 25 0 + 1)) 26 0 25 0 = s 25 0 + 1 := by rw [un_n (by decide), un_y]
    have e26 : un (un (ntS s n n) 25 (s 25 0 + 1)) 26 0 26 0 = 0 := un_y
    have e12 : ∀ p, un (un (ntS s n n) 25 (s 25 0 + 1)) 26 0 12 p = s 12 p ∨ un (un (ntS s n n) 25 (s 25 0 + 1)) 26 0 12 p = 0 := fun p => by
      rw [un_n (by decide), un_n (by decide)]
      unfold ntS
      rw [if_neg (by omega)]
      split
      · exact Or.inr rfl
      · exact Or.inl rfl
    have e9 : ∀ p, un (un (ntS s n n) 25 (s 25 0 + 1)) 26 0 9 p = s 9 p ∨ un (un (ntS s n n) 25 (s 25 0 + 1)) 26 0 9 p = play s p (moS (s 25 0) 23 0 0 0 1) := fun p => by
      rw [un_n (by decide), un_n (by decide)]
      unfold ntS
      split
      · exact Or.inr rfl
      · rw [if_neg (by omega)]; exact Or.inl rfl
    have hi : Inv (un (un (ntS s n n) 25 (s 25 0 + 1)) 26 0) := by
      refine Inv_c h.1 (Gd_c g (fun q hq p => o q p (by omega) (by omega) (by omega) (by omega) (by omega)) (by rw [e25]; have := g.2.2.2.2.2.1; omega) (by rw [e26]; omega) (by rw [o 27 0 (by decide) (by decide) (by decide) (by decide) (by decide)]; exact g.2.2.2.2.2.2.2.1) (by rw [o 30 0 (by decide) (by decide) (by decide) (by decide) (by decide)]; exact g.2.2.2.2.2.2.2.2.1) (by rw [o 31 0 (by decide) (by decide) (by decide) (by decide) (by decide)]; exact g.2.2.2.2.2.2.2.2.2.1) (fun i hi K => ?_)) (fun q hq p => o q p (by omega) (by omega) (by omega) (by omega) (by omega))
      obtain ⟨b0, b1, b2, b4, b5, b8, b9, b10, b12, b13, b14, b15, b16⟩ := K
      unfold Kid
      rw [e25, o 0 i (by decide) (by decide) (by decide) (by decide) (by decide), o 1 i (by decide) (by decide) (by decide) (by decide) (by decide), o 2 i (by decide) (by decide) (by decide) (by decide) (by decide), o 4 i (by decide) (by decide) (by decide) (by decide) (by decide), o 5 i (by decide) (by decide) (by decide) (by decide) (by decide), o 6 i (by decide) (by decide) (by decide) (by decide) (by decide), o 8 i (by decide) (by decide) (by decide) (by decide) (by decide), o 10 i (by decide) (by decide) (by decide) (by decide) (by decide), o 13 i (by decide) (by decide) (by decide) (by decide) (by decide), o 14 i (by decide) (by decide) (by decide) (by decide) (by decide), o 15 i (by decide) (by decide) (by decide) (by decide) (by decide), o 16 i (by decide) (by decide) (by decide) (by decide) (by decide)]
      refine ⟨b0, b1, b2, b4, b5, b8, ?_, by omega, ?_, b13, b14, b15, b16⟩
      · rcases e9 i with y | y <;> rw [y]
        · exact b9
        · exact play_b h.2.1 g.2.2.2.2.2.2.2.2.2.1.1 b9
      · rcases e12 i with y | y <;> rw [y]
        · exact b12
        · exact Or.inl rfl
    refine h.z hi (fun q hq p => o q p (by omega) (by omega) (by omega) (by omega) (by omega)) (fun p q hq => ?_)
    rcases hq with rfl | rfl | rfl
    · exact Or.inl (o 2 p (by decide) (by decide) (by decide) (by decide) (by decide))
    · rcases e12 p with y | y
      · exact Or.inl y
      · exact Or.inr (Or.inl y)
    · exact Or.inl (o 14 p (by decide) (by decide) (by decide) (by decide) (by decide))
/-- only one kind of a child's changes -/
theorem Inv2.one {s t : ST} {r : Nat} (h : Inv2 s) (hr : r = 4 ∨ r = 8 ∨ r = 13) (o : ∀ q p, q ≠ r → t q p = s q p) (h4 : ∀ k : Nat, (k : Int) < s 20 0 → r = 4 → -1 ≤ t 4 k ∧ t 4 k < s 22 0) (h8 : ∀ k : Nat, (k : Int) < s 20 0 → r = 8 → -1 ≤ t 8 k ∧ t 8 k ≤ 5) (h13 : ∀ k : Nat, (k : Int) < s 20 0 → r = 13 → -1 ≤ t 13 k ∧ t 13 k < s 24 0) (hb : r = 4 → ∀ k : Nat, (k : Int) < s 22 0 → lyS t k (s 20 0).toNat ≤ s 40 k) : Inv2 t := by
  have g := h.1.1
  have hG : Gd t := by
    refine Gd_c g (fun q hq p => o q p (by omega)) (by rw [o 25 0 (by omega)]; exact g.2.2.2.2.2.1) (by rw [o 26 0 (by omega)]; exact g.2.2.2.2.2.2.1) (by rw [o 27 0 (by omega)]; exact g.2.2.2.2.2.2.2.1) (by rw [o 30 0 (by omega)]; exact g.2.2.2.2.2.2.2.2.1) (by rw [o 31 0 (by omega)]; exact g.2.2.2.2.2.2.2.2.2.1) (fun i hi K => ?_)
    obtain ⟨b0, b1, b2, b4, b5, b8, b9, b10, b12, b13, b14, b15, b16⟩ := K
    unfold Kid
    rw [o 25 0 (by omega), o 0 i (by omega), o 1 i (by omega), o 2 i (by omega), o 5 i (by omega), o 6 i (by omega), o 9 i (by omega), o 10 i (by omega), o 12 i (by omega), o 14 i (by omega), o 15 i (by omega), o 16 i (by omega)]
    refine ⟨b0, b1, b2, ?_, b5, ?_, b9, b10, b12, ?_, b14, b15, b16⟩
    · by_cases y : r = 4
      · exact h4 i hi y
      · rw [o 4 i (by omega)]; exact b4
    · by_cases y : r = 8
      · exact h8 i hi y
      · rw [o 8 i (by omega)]; exact b8
    · by_cases y : r = 13
      · exact h13 i hi y
      · rw [o 13 i (by omega)]; exact b13
  have hi : Inv t := by
    by_cases y : r = 4
    · obtain ⟨-, -, hm⟩ := h.1
      have e14 : t 14 = s 14 := funext (fun p => o 14 p (by omega))
      refine ⟨hG, fun k hk => ?_, ?_⟩
      · rw [o 22 0 (by omega)] at hk
        rw [o 20 0 (by omega), o 40 k (by omega)]
        exact hb y k hk
      · unfold Mk mkS
        rw [e14, o 20 0 (by omega)]
        exact hm
    · exact Inv_c h.1 hG (fun q hq p => o q p (by omega))
  exact h.k hi (fun q hq p => o q p (by unfold Kp at hq; omega))
theorem gvS_k {s : ST} {n H : Nat} : ∀ (j u : Nat) (t : ST), (∀ q p, q ≠ 13 → t q p = s q p) → (∀ i, (-1 ≤ t 13 i ∧ t 13 i < H) ∨ t 13 i = s 13 i) → (∀ q p, q ≠ 13 → gvS s n H j u t q p = s q p) ∧ ∀ i, (-1 ≤ gvS s n H j u t 13 i ∧ gvS s n H j u t 13 i < H) ∨ gvS s n H j u t 13 i = s 13 i
  | 0, u, t, h1, h2 => ⟨h1, h2⟩
  | j + 1, u, t, h1, h2 => by
    rw [gvS_s]
    split
    · rename_i z
      refine gvS_k j _ _ (fun q p hq => by rw [us_n hq]; exact h1 q p hq) (fun i => ?_)
      unfold us
      split
      · exact Or.inl ⟨by omega, by omega⟩
      · exact h2 i
    · refine gvS_k j _ _ (fun q p hq => by rw [us_n hq]; exact h1 q p hq) (fun i => ?_)
      unfold us
      split
      · exact Or.inl ⟨by omega, by omega⟩
      · exact h2 i
theorem opGive_2 {s : ST} (h : Inv2 s) : Inv2 (opGive s).2 := by
  have g := h.1.1
  have k := gvS_k (s := s) (n := (s 20 0).toNat) (H := (s 24 0).toNat) (s 20 0).toNat 0 s (fun _ _ _ => rfl) (fun _ => Or.inr rfl)
  refine h.one (r := 13) (by omega) (fun q p hq => k.1 q p hq) (fun _ _ y => by omega) (fun _ _ y => by omega) (fun i hi _ => ?_) (fun y => by omega)
  have g5 := g.2.2.2.2.1
  have kb := g.2.2.2.2.2.2.2.2.2.2.1 i hi
  rcases k.2 i with y | y
  · show -1 ≤ gvS s _ _ _ _ _ 13 i ∧ gvS s _ _ _ _ _ 13 i < _
    omega
  · show -1 ≤ gvS s _ _ _ _ _ 13 i ∧ gvS s _ _ _ _ _ 13 i < _
    rw [y]; exact kb.2.2.2.2.2.2.2.2.2.1
theorem stS_2 {s : ST} (h : Inv2 s) : Inv2 (stS s (s 20 0).toNat (s 22 0).toNat) := by
  have g := h.1.1
  have h4 : ∀ i, i < (s 20 0).toNat → -1 ≤ s 4 i ∧ s 4 i < (s 22 0).toNat := fun i hi => by
    have := (g.2.2.2.2.2.2.2.2.2.2.1 i (by omega)).2.2.2.1
    omega
  refine h.one (r := 4) (by omega) (fun q p hq => stS_o hq) (fun k hk _ => ?_) (fun _ _ y => by omega) (fun _ _ y => by omega) (fun _ k hk => ?_)
  · have := stS_4 (s := s) h4 k (by omega)
    have := g.2.2.1
    omega
  · exact stS_bd (fun k hk => h.1.2.1 k (by omega)) k (by omega)
theorem opStep_2 {s : ST} (h : Inv2 s) : Inv2 (opStep s).2 := stS_2 h
theorem btr_2 {n m : Nat} : ∀ (k : Nat) (s : ST), Inv2 s → s 20 0 = n → s 22 0 = m → Inv2 (btr n m k s).2
  | 0, s, h, _, _ => h
  | k + 1, s, h, h1, h2 => by
    rw [btr_s]
    split
    · have := stS_2 h
      rw [h1, h2, Int.toNat_natCast, Int.toNat_natCast] at this
      exact btr_2 k _ this (by rw [stS_o (by decide)]; exact h1) (by rw [stS_o (by decide)]; exact h2)
    · exact h
theorem opBetter_2 {s : ST} (h : Inv2 s) : Inv2 (opBetter s).2 := btr_2 _ s h (by have := h.1.1.1; omega) (by have := h.1.1.2.2.1; omega)
theorem opHouse_2 {s : ST} (h : Inv2 s) : Inv2 (opHouse s).2 := by
  unfold opHouse
  split
  · exact h
  · have g := h.1.1
    obtain ⟨n, hn⟩ : ∃ n : Nat, s 20 0 = n := ⟨(s 20 0).toNat, by have := g.1; omega⟩
    obtain ⟨m, hm⟩ : ∃ m : Nat, s 22 0 = m := ⟨(s 22 0).toNat, by have := g.2.2.1; omega⟩
    have hg := ageOk_g g hn
    have n24 : n ≤ 24 := by have := g.1; omega
    rw [hn, hm, Int.toNat_natCast, Int.toNat_natCast]
    have bd : ∀ c, c ≤ n → ∀ k : Nat, k < m → lyS (hsS n m c s) k n ≤ s 40 k := by
      intro c
      induction c with
      | zero =>
        intro _ k hk
        have b := g.2.2.2.2.2.2.2.2.2.2.2.1 k (by omega)
        have z : ∀ i, i ≤ n → sumTo (fun i => if hsS n m 0 s 4 i = (k : Int) then 1 else 0) i = 0 := by
          intro i
          induction i with
          | zero => intro _; rfl
          | succ i ih =>
            intro hi
            show sumTo _ i + (if hsS n m 0 s 4 i = (k : Int) then (1 : Int) else 0) = 0
            rw [ih (by omega)]
            have e : hsS n m 0 s 4 i = -1 := if_pos ⟨rfl, by omega⟩
            rw [e, if_neg (by omega)]
            rfl
        have z2 : lyS (hsS n m 0 s) k n = 0 := z n (Nat.le_refl _)
        omega
      | succ c ih =>
        intro hc k hk
        have i1 := ih (by omega)
        have e : hsS n m (c + 1) s = us (hsS n m c s) 4 c (hsF (hsS n m c s) n c m).1 := rfl
        have h4 := (hsS_4 (m := m) hg n24 c (by omega)).1 c (Nat.le_refl _) (by omega)
        rw [e, lyS_us (by omega), h4, if_neg (show ¬ (-1 : Int) = k by omega)]
        have hg' : ageOk (hsS n m c s) n := fun i hi => by rw [hsS_o (by decide)]; exact hg i hi
        have v := (hsF_V (s := hsS n m c s) (n := n) (c := c) (fun k => (cm_b hg' n24 (by omega)).1) m).1
        have i2 := i1 k hk
        split
        · rename_i y
          rcases v with v | ⟨k', h3, h5, -, h6⟩
          · rw [v] at y
            have y' : (-1 : Int) = k := y
            omega
          · rw [h5] at y
            have : k' = k := by omega
            subst this
            rw [hsS_o (by decide)] at h6
            omega
        · omega
    refine h.one (r := 4) (by omega) (fun q p hq => hsS_o hq n) (fun k hk _ => ?_) (fun _ _ y => by omega) (fun _ _ y => by omega) (fun _ k hk => ?_)
    · have := (hsS_4 (m := m) hg n24 n (Nat.le_refl _)).2 k (by omega)
      rw [hm]; exact this
    · rw [hn, Int.toNat_natCast]
      exact bd n (Nat.le_refl _) k (by omega)
