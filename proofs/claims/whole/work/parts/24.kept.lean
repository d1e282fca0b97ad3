/-! what holds always is kept -/
def Inv (s : ST) : Prop := Gd s ∧ Bd s ∧ Mk s
theorem opEnd_k {s : ST} {n : Int} (h : Inv s) : Inv (opEnd s n).2 := by
  unfold opEnd
  split
  · exact h
  · rename_i z
    obtain ⟨⟨h1, h2, h3, h4, h5, h6, h7, h8, h9, h10, h11, h12, h13, h14⟩, hb, hm⟩ := h
    exact ⟨⟨h1, h2, h3, h4, h5, h6, h7, ⟨by show 0 ≤ n; omega, by show n ≤ 500; omega⟩, h9, h10, h11, h12, h13, h14⟩, hb, hm⟩
theorem opHost_k {s : ST} (h : Inv s) : Inv (opHost s).2 := by
  unfold opHost
  split
  · exact h
  · rename_i z
    obtain ⟨⟨h1, h2, h3, h4, h5, h6, h7, h8, h9, h10, h11, h12, h13, h14⟩, hb, hm⟩ := h
    refine ⟨⟨h1, h2, h3, h4, ⟨by show 0 ≤ s 24 0 + 1; omega, by show s 24 0 + 1 ≤ 8; omega⟩, h6, h7, h8, h9, h10, fun k hk => ?_, h12, fun a c x y => ⟨(h13 a c x y).1, fun w => (h13 a c x y).2 ?_⟩, h14⟩, hb, hm⟩
    · obtain ⟨a1, a2, a3, a4, a5, a6, a7, a8, a9, a10, a11, a12, a13⟩ := h11 k hk
      exact ⟨a1, a2, a3, a4, a5, a6, a7, a8, a9, ⟨a10.1, by show s 13 k < s 24 0 + 1; omega⟩, a11, a12, a13⟩
    · have w' : s 24 0 + 1 ≤ (a : Int) ∨ s 20 0 ≤ c := w
      omega
theorem opHelper_k {s : ST} {v : Int} (h : Inv s) : Inv (opHelper s v).2 := by
  unfold opHelper
  split
  · exact h
  · rename_i z
    obtain ⟨⟨h1, h2, h3, h4, h5, h6, h7, h8, h9, h10, h11, h12, h13, h14⟩, hb, hm⟩ := h
    exact ⟨⟨h1, h2, h3, ⟨by show 0 ≤ s 23 0 + 1; omega, by show s 23 0 + 1 ≤ 6; omega⟩, h5, h6, h7, h8, h9, h10, h11, h12, h13, h14⟩, hb, hm⟩
theorem opFeed_k {s : ST} {a b c e x : Int} (h : Inv s) : Inv (opFeed s a b c e x).2 := by
  have k1 : ∀ t y u, Inv t → t 27 0 + 1 ≤ 500 → Inv (tp1 t y u) := by
    intro t y u h z
    obtain ⟨⟨h1, h2, h3, h4, h5, h6, h7, h8, h9, h10, h11, h12, h13, h14⟩, hb, hm⟩ := h
    exact ⟨⟨h1, h2, h3, h4, h5, h6, h7, ⟨by show 0 ≤ t 27 0 + 1; omega, by show t 27 0 + 1 ≤ 500; omega⟩, h9, h10, h11, h12, h13, h14⟩, hb, hm⟩
  have k4 : ∀ t y, Inv t → t 27 0 + 4 ≤ 500 → Inv (tp4 t y) := by
    intro t y h z
    unfold tp4
    exact k1 _ _ _ (k1 _ _ _ (k1 _ _ _ (k1 _ _ _ h (by omega)) (by rw [tp1_27]; omega)) (by rw [tp1_27, tp1_27]; omega)) (by rw [tp1_27, tp1_27, tp1_27]; omega)
  unfold opFeed
  split
  · exact h
  · rename_i z
    exact k4 _ _ (k4 _ _ (k4 _ _ (k4 _ _ (k4 _ _ h (by omega)) (by rw [tp4_27]; omega)) (by rw [tp4_27, tp4_27]; omega)) (by rw [tp4_27, tp4_27, tp4_27]; omega)) (by rw [tp4_27, tp4_27, tp4_27, tp4_27]; omega)
