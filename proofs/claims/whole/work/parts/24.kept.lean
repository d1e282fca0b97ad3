/-! what holds always is kept -/
def Inv (s : ST) : Prop := Gd s ∧ Bd s ∧ Mk s
theorem opEnd_k {s : ST} {n : Int} (h : Inv s) : Inv (opEnd s n).2 := by
  unfold opEnd
  split
  · exact h
  · rename_i z
    obtain ⟨⟨h1, h2, h3, h4, h5, h6, h7, h8, h9, h10, h11, h12, h13, h14⟩, hb, hm⟩ := h
    exact ⟨⟨h1, h2, h3, h4, h5, h6, h7, ⟨by show 0 ≤ n; omega, by show n ≤ 500; omega⟩, h9, h10, h11, h12, h13, h14⟩, hb, hm⟩
theorem opHost_k {s : ST} (h : Inv s) : Inv (opHost s).2 := by
  unfold opHost
  split
  · exact h
  · rename_i z
    obtain ⟨⟨h1, h2, h3, h4, h5, h6, h7, h8, h9, h10, h11, h12, h13, h14⟩, hb, hm⟩ := h
    refine ⟨⟨h1, h2, h3, h4, ⟨by show 0 ≤ s 24 0 + 1; omega, by show s 24 0 + 1 ≤ 8; omega⟩, h6, h7, h8, h9, h10, fun k hk => ?_, h12, fun a c x y => ⟨(h13 a c x y).1, fun w => (h13 a c x y).2 ?_⟩, h14⟩, hb, hm⟩
    · obtain ⟨a1, a2, a3, a4, a5, a6, a7, a8, a9, a10, a11, a12, a13⟩ := h11 k hk
      exact ⟨a1, a2, a3, a4, a5, a6, a7, a8, a9, ⟨a10.1, by show s 13 k < s 24 0 + 1; omega⟩, a11, a12, a13⟩
    · have w' : s 24 0 + 1 ≤ (a : Int) ∨ s 20 0 ≤ c := w
      omega
theorem opHelper_k {s : ST} {v : Int} (h : Inv s) : Inv (opHelper s v).2 := by
  unfold opHelper
  split
  · exact h
  · rename_i z
    obtain ⟨⟨h1, h2, h3, h4, h5, h6, h7, h8, h9, h10, h11, h12, h13, h14⟩, hb, hm⟩ := h
    exact ⟨⟨h1, h2, h3, ⟨by show 0 ≤ s 23 0 + 1; omega, by show s 23 0 + 1 ≤ 6; omega⟩, h5, h6, h7, h8, h9, h10, h11, h12, h13, h14⟩, hb, hm⟩
theorem opFeed_k {s : ST} {a b c e x : Int} (h : Inv s) : Inv (opFeed s a b c e x).2 := by
  have k1 : ∀ t y u, Inv t → t 27 0 + 1 ≤ 500 → Inv (tp1 t y u) := by
    intro t y u h z
    obtain ⟨⟨h1, h2, h3, h4, h5, h6, h7, h8, h9, h10, h11, h12, h13, h14⟩, hb, hm⟩ := h
    exact ⟨⟨h1, h2, h3, h4, h5, h6, h7, ⟨by show 0 ≤ t 27 0 + 1; omega, by show t 27 0 + 1 ≤ 500; omega⟩, h9, h10, h11, h12, h13, h14⟩, hb, hm⟩
  have k4 : ∀ t y, Inv t → t 27 0 + 4 ≤ 500 → Inv (tp4 t y) := by
    intro t y h z
    unfold tp4
    exact k1 _ _ _ (k1 _ _ _ (k1 _ _ _ (k1 _ _ _ h (by omega)) (by rw [tp1_27]; omega)) (by rw [tp1_27, tp1_27]; omega)) (by rw [tp1_27, tp1_27, tp1_27]; omega)
  unfold opFeed
  split
  · exact h
  · rename_i z
    exact k4 _ _ (k4 _ _ (k4 _ _ (k4 _ _ (k4 _ _ h (by omega)) (by rw [tp4_27]; omega)) (by rw [tp4_27, tp4_27]; omega)) (by rw [tp4_27, tp4_27, tp4_27]; omega)) (by rw [tp4_27, tp4_27, tp4_27, tp4_27]; omega)
theorem opLike_k {s : ST} {k c v : Int} (h : Inv s) : Inv (opLike s k c v).2 := by
  unfold opLike
  split
  · exact h
  · rename_i z
    obtain ⟨⟨h1, h2, h3, h4, h5, h6, h7, h8, h9, h10, h11, h12, h13, h14⟩, hb, hm⟩ := h
    refine ⟨⟨h1, h2, h3, h4, h5, h6, h7, h8, h9, h10, h11, h12, fun a e x y => ?_, h14⟩, hb, hm⟩
    have q := h13 a e x y
    show (-1 ≤ us s 42 (k * 24 + c).toNat v 42 (a * 24 + e) ∧ us s 42 (k * 24 + c).toNat v 42 (a * 24 + e) ≤ 9) ∧ (s 24 0 ≤ a ∨ s 20 0 ≤ e → us s 42 (k * 24 + c).toNat v 42 (a * 24 + e) = 0)
    simp only [us, true_and]
    split
    · omega
    · exact q
theorem task_k {s : ST} {k : Nat} {lo hi : Int} (h : Inv s) (a : 0 ≤ lo) (b : lo ≤ hi) (c : hi ≤ 10) : Inv (us (us s 5 k lo) 6 k hi) := by
  obtain ⟨⟨h1, h2, h3, h4, h5, h6, h7, h8, h9, h10, h11, h12, h13, h14⟩, hb, hm⟩ := h
  refine ⟨⟨h1, h2, h3, h4, h5, h6, h7, h8, h9, h10, fun q hq => ?_, h12, h13, h14⟩, hb, hm⟩
  obtain ⟨a1, a2, a3, a4, a5, a6, a7, a8, a9, a10, a11, a12, a13⟩ := h11 q hq
  refine ⟨a1, a2, a3, a4, ?_, a6, a7, a8, a9, a10, a11, a12, a13⟩
  by_cases e : q = k
  · subst e
    simp [us]
    omega
  · simp [us, e]
    omega
theorem doubt_k {s : ST} {k : Nat} {v : Int} (h : Inv s) : Inv (us s 7 k v) := h
theorem opTask_k {s : ST} {c h p : Int} (H : Inv s) : Inv (opTask s c h p).2 := by
  unfold opTask
  split
  · exact H
  · rename_i z
    have hg := (H.1.2.2.2.2.2.2.2.2.2.2.1 c.toNat (by omega)).2.2.2.2.1
    show Inv (tkS s c.toNat h p)
    unfold tkS
    split
    · exact doubt_k (task_k H (by omega) (by omega) (by omega))
    · rename_i y
      refine task_k H ?_ (by omega) ?_
      · unfold tkLo; split <;> omega
      · unfold tkHi; split <;> omega
theorem opBar_k {s : ST} {a b : Int} (H : Inv s) : Inv (opBar s a b).2 := by
  unfold opBar
  split
  · exact H
  · rename_i z
    obtain ⟨⟨h1, h2, h3, h4, h5, h6, h7, h8, h9, h10, h11, h12, h13, h14⟩, hb, hm⟩ := H
    refine ⟨⟨h1, ⟨by show 0 ≤ s 21 0 + 1; omega, ?_⟩, h3, h4, h5, h6, h7, h8, h9, h10, h11, h12, h13, h14⟩, hb, hm⟩
    show s 21 0 + 1 ≤ 30
    have : ¬ 30 ≤ s 21 0 := fun w => z (Or.inr (Or.inr (Or.inr (Or.inr w))))
    omega
theorem lyS_0 {s : ST} {cab : Int} (n : Nat) (h : ∀ i, i < n → s 4 i ≠ cab) : lyS s cab n = 0 := by
  induction n with
  | zero => rfl
  | succ n ih => rw [lyS_s, ih (fun i hi => h i (by omega)), if_neg (h n (by omega))]; rfl
theorem opCabin_k {s : ST} {b : Int} (H : Inv s) : Inv (opCabin s b).2 := by
  unfold opCabin
  split
  · exact H
  · rename_i z
    obtain ⟨⟨h1, h2, h3, h4, h5, h6, h7, h8, h9, h10, h11, h12, h13, h14⟩, hb, hm⟩ := H
    refine ⟨⟨h1, h2, ⟨by show 0 ≤ s 22 0 + 1; omega, by show s 22 0 + 1 ≤ 6; omega⟩, h4, h5, h6, h7, h8, h9, h10, fun k hk => ?_, fun k hk => ?_, h13, h14⟩, fun k hk => ?_, hm⟩
    · obtain ⟨a1, a2, a3, a4, a5, a6, a7, a8, a9, a10, a11, a12, a13⟩ := h11 k hk
      exact ⟨a1, a2, a3, ⟨a4.1, by show s 4 k < s 22 0 + 1; omega⟩, a5, a6, a7, a8, a9, a10, a11, a12, a13⟩
    · have hk' : (k : Int) < s 22 0 + 1 := hk
      show 1 ≤ us s 40 (s 22 0).toNat b 40 k ∧ us s 40 (s 22 0).toNat b 40 k ≤ 8
      simp only [us, true_and]
      split
      · omega
      · exact h12 k (by omega)
    · have hk' : (k : Int) < s 22 0 + 1 := hk
      show lyS s k (s 20 0).toNat ≤ us s 40 (s 22 0).toNat b 40 k
      simp only [us, true_and]
      split
      · rw [lyS_0 _ (fun i hi => by have := (h11 i (by omega)).2.2.2.1; omega)]; omega
      · exact hb k (by omega)
theorem lyS_u {s : ST} {c : Nat} {v cab : Int} (n : Nat) : lyS (us s 4 c v) cab n ≤ lyS s cab n + (if v = cab ∧ c < n then 1 else 0) := by
  induction n with
  | zero => rw [if_neg (by omega)]; exact Int.le_refl _
  | succ n ih =>
    rw [lyS_s, lyS_s]
    have e : us s 4 c v 4 n = if n = c then v else s 4 n := by simp only [us, true_and]
    rw [e]
    by_cases w : n = c
    · subst w
      rw [if_pos rfl]
      have i2 : lyS (us s 4 n v) cab n ≤ lyS s cab n := by rw [if_neg (by omega)] at ih; omega
      repeat' split
      all_goals omega
    · rw [if_neg w]
      repeat' split
      all_goals (first | omega | (split at ih <;> omega))
theorem opLie_k {s : ST} {c k : Int} (H : Inv s) : Inv (opLie s c k).2 := by
  unfold opLie
  split
  · exact H
  · rename_i z
    obtain ⟨⟨h1, h2, h3, h4, h5, h6, h7, h8, h9, h10, h11, h12, h13, h14⟩, hb, hm⟩ := H
    refine ⟨⟨h1, h2, h3, h4, h5, h6, h7, h8, h9, h10, fun q hq => ?_, h12, h13, h14⟩, fun q hq => ?_, hm⟩
    · obtain ⟨a1, a2, a3, a4, a5, a6, a7, a8, a9, a10, a11, a12, a13⟩ := h11 q hq
      refine ⟨a1, a2, a3, ?_, a5, a6, a7, a8, a9, a10, a11, a12, a13⟩
      show -1 ≤ us s 4 c.toNat k 4 q ∧ us s 4 c.toNat k 4 q < s 22 0
      simp only [us, true_and]
      split
      · omega
      · exact a4
    · have q2 := lyS_u (s := s) (c := c.toNat) (v := k) (cab := q) (s 20 0).toNat
      have q3 := hb q hq
      have hq' : (q : Int) < s 22 0 := hq
      show lyS (us s 4 c.toNat k) q (s 20 0).toNat ≤ s 40 q
      by_cases w : k = q
      · subst w
        rw [Int.toNat_natCast] at z
        have : ¬ (s 40 q ≤ lyS s q (s 20 0).toNat) := fun y => z (Or.inr (Or.inr (Or.inr ⟨by omega, y⟩)))
        split at q2 <;> omega
      · rw [if_neg (by omega)] at q2
        omega
theorem mkS_u {s : ST} {c : Nat} (n : Nat) : mkS (us s 14 c 1) n ≤ mkS s n + (if s 14 c = 0 ∧ c < n then 1 else 0) := by
  induction n with
  | zero => rw [if_neg (by omega)]; exact Int.le_refl _
  | succ n ih =>
    rw [mkS_s, mkS_s]
    have e : us s 14 c 1 14 n = if n = c then 1 else s 14 n := by simp only [us, true_and]
    rw [e]
    by_cases w : n = c
    · subst w
      rw [if_pos rfl]
      have i2 : mkS (us s 14 n 1) n ≤ mkS s n := by rw [if_neg (by omega)] at ih; omega
      repeat' split
      all_goals omega
    · rw [if_neg w]
      repeat' split
      all_goals (first | omega | (split at ih <;> omega))
theorem mkS_c {s t : ST} (n : Nat) (h : ∀ i, i < n → s 14 i = t 14 i) : mkS s n = mkS t n := by
  induction n with
  | zero => rfl
  | succ n ih => rw [mkS_s, mkS_s, ih (fun i hi => h i (by omega)), h n (by omega)]
theorem lyS_c {s t : ST} {cab : Int} (n : Nat) (h : ∀ i, i < n → s 4 i = t 4 i) : lyS s cab n = lyS t cab n := by
  induction n with
  | zero => rfl
  | succ n ih => rw [lyS_s, lyS_s, ih (fun i hi => h i (by omega)), h n (by omega)]
theorem opMark_k {s : ST} {c b a w : Int} (H : Inv s) : Inv (opMark s c b a w).2 := by
  unfold opMark
  split
  · exact H
  · rename_i z
    obtain ⟨⟨h1, h2, h3, h4, h5, h6, h7, h8, h9, h10, h11, h12, h13, h14⟩, hb, hm⟩ := H
    refine ⟨⟨h1, h2, h3, h4, h5, h6, h7, h8, h9, h10, fun q hq => ?_, h12, h13, fun q hq hq2 => ?_⟩, hb, ?_⟩
    · obtain ⟨a1, a2, a3, a4, a5, a6, a7, a8, a9, a10, a11, a12, a13⟩ := h11 q hq
      refine ⟨a1, a2, a3, a4, a5, a6, a7, a8, a9, a10, ?_, ?_, ?_⟩
      · show us s 14 c.toNat 1 14 q = 0 ∨ us s 14 c.toNat 1 14 q = 1
        simp only [us, true_and]
        split
        · exact Or.inr rfl
        · exact a11
      · show -100 ≤ us s 15 c.toNat (a - b) 15 q ∧ us s 15 c.toNat (a - b) 15 q ≤ 100
        simp only [us, true_and]
        split
        · omega
        · exact a12
      · show us s 16 c.toNat w 16 q = 0 ∨ us s 16 c.toNat w 16 q = 1
        simp only [us, true_and]
        split
        · omega
        · exact a13
    · have hq' : s 20 0 ≤ q := hq
      have q2 := h14 q hq' hq2
      show us s 15 c.toNat (a - b) 15 q = 0 ∧ us s 16 c.toNat w 16 q = 0
      simp only [us, true_and]
      rw [if_neg (by omega), if_neg (by omega)]
      exact q2
    · have q2 := mkS_u (s := s) (c := c.toNat) (s 20 0).toNat
      have q3 : mkS s (s 20 0).toNat ≤ 16 := hm
      show mkS (us s 14 c.toNat 1) (s 20 0).toNat ≤ 16
      split at q2 <;> omega
theorem opChild_k {s : ST} {t a y : Int} (hy : y = 0 ∨ y = 1) (H : Inv s) : Inv (opChild s t a y).2 := by
  unfold opChild
  split
  · exact H
  · rename_i z
    obtain ⟨⟨h1, h2, h3, h4, h5, h6, h7, h8, h9, h10, h11, h12, h13, h14⟩, hb, hm⟩ := H
    obtain ⟨n, hn⟩ : ∃ n : Nat, s 20 0 = n := ⟨(s 20 0).toNat, by omega⟩
    have hnt : (s 20 0).toNat = n := by omega
    rw [hnt]
    generalize hT : un (us (us (us (us (us (us (us (us (us (us (us (us (us (us (us (us (us s 0 n t) 1 n a) 2 n y) 3 n 0) 4 n (-1)) 5 n 0) 6 n 10) 7 n 0) 8 n (-1)) 9 n 10) 10 n 0) 11 n 0) 12 n 0) 13 n (-1)) 14 n 0) 15 n 0) 16 n 0) 20 (s 20 0 + 1) = T
    have o : ∀ q p, p ≠ n → q ≠ 20 → T q p = s q p := fun q p x1 x2 => by rw [← hT]; simp [us, un, x1, x2]
    have o2 : ∀ q p, 16 < q → q ≠ 20 → T q p = s q p := fun q p x1 x2 => by
      rw [← hT]; simp only [us, un]; rw [if_neg x2]; repeat' rw [if_neg (by omega)]
    have e20 : T 20 0 = n + 1 := by rw [← hT, hn]; simp [un]
    show Inv T
    refine ⟨⟨by rw [e20]; omega, by rw [o2 21 0 (by decide) (by decide)]; exact h2, by rw [o2 22 0 (by decide) (by decide)]; exact h3, by rw [o2 23 0 (by decide) (by decide)]; exact h4, by rw [o2 24 0 (by decide) (by decide)]; exact h5, by rw [o2 25 0 (by decide) (by decide)]; exact h6, by rw [o2 26 0 (by decide) (by decide)]; exact h7, by rw [o2 27 0 (by decide) (by decide)]; exact h8, by rw [o2 30 0 (by decide) (by decide)]; exact h9, by rw [o2 31 0 (by decide) (by decide)]; exact h10, fun k hk => ?_, fun k hk => ?_, fun x c y1 y2 => ?_, fun k y1 y2 => ?_⟩, fun k hk => ?_, ?_⟩
    · rw [e20] at hk
      rw [o2 22 0 (by decide) (by decide), o2 24 0 (by decide) (by decide), o2 25 0 (by decide) (by decide)]
      by_cases w : k = n
      · subst w
        have v0 : T 0 k = t := by rw [← hT]; simp [us, un]
        have v1 : T 1 k = a := by rw [← hT]; simp [us, un]
        have v2 : T 2 k = y := by rw [← hT]; simp [us, un]
        have v4 : T 4 k = -1 := by rw [← hT]; simp [us, un]
        have v5 : T 5 k = 0 := by rw [← hT]; simp [us, un]
        have v6 : T 6 k = 10 := by rw [← hT]; simp [us, un]
        have v8 : T 8 k = -1 := by rw [← hT]; simp [us, un]
        have v9 : T 9 k = 10 := by rw [← hT]; simp [us, un]
        have v10 : T 10 k = 0 := by rw [← hT]; simp [us, un]
        have v12 : T 12 k = 0 := by rw [← hT]; simp [us, un]
        have v13 : T 13 k = -1 := by rw [← hT]; simp [us, un]
        have v14 : T 14 k = 0 := by rw [← hT]; simp [us, un]
        have v15 : T 15 k = 0 := by rw [← hT]; simp [us, un]
        have v16 : T 16 k = 0 := by rw [← hT]; simp [us, un]
        rw [v0, v1, v2, v4, v5, v6, v8, v9, v10, v12, v13, v14, v15, v16]
        omega
      · rw [o 0 k w (by decide), o 1 k w (by decide), o 2 k w (by decide), o 4 k w (by decide), o 5 k w (by decide), o 6 k w (by decide), o 8 k w (by decide), o 9 k w (by decide), o 10 k w (by decide), o 12 k w (by decide), o 13 k w (by decide), o 14 k w (by decide), o 15 k w (by decide), o 16 k w (by decide)]
        exact h11 k (by omega)
    · rw [o2 22 0 (by decide) (by decide)] at hk
      rw [o2 40 k (by decide) (by decide)]
      exact h12 k hk
    · rw [o2 42 _ (by decide) (by decide), o2 24 0 (by decide) (by decide), e20]
      exact ⟨(h13 x c y1 y2).1, fun w => (h13 x c y1 y2).2 (by omega)⟩
    · rw [e20] at y1
      rw [o 15 k (by omega) (by decide), o 16 k (by omega) (by decide)]
      exact h14 k (by omega) y2
    · rw [o2 22 0 (by decide) (by decide)] at hk
      have q := hb k hk
      have v4 : T 4 n = -1 := by rw [← hT]; simp [us, un]
      rw [hnt] at q
      rw [o2 40 k (by decide) (by decide), e20, show ((n : Int) + 1).toNat = n + 1 by omega, lyS_s, lyS_c (t := s) n (fun i hi => o 4 i (by omega) (by decide)), if_neg (by rw [v4]; omega)]
      omega
    · have q : mkS s (s 20 0).toNat ≤ 16 := hm
      rw [hnt] at q
      show mkS T (T 20 0).toNat ≤ 16
      rw [e20, show ((n : Int) + 1).toNat = n + 1 by omega, mkS_s, mkS_c (t := s) n (fun i hi => o 14 i (by omega) (by decide)), if_pos (by rw [← hT]; simp [us, un])]
      omega
