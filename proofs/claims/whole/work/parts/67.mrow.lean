/-! the least cost in the reference: one place's row -/
theorem ly_up {s : ST} {n i : Nat} {r : Nat → Int} {c : Int} {c' : Int} (hi : i < n) (hr : r i = -1) (hc' : 0 ≤ c') : lyS (r4 s n (up4 r i c)) c' n = lyS (r4 s n r) c' n + if c = c' then 1 else 0 := by
  have e : lyS (r4 s n r) c' n + (if c = c' then 1 else 0) = sumTo (fun a => (if r4 s n r 4 a = c' then 1 else 0) + if a = i then (if c = c' then 1 else 0) else 0) n := by
    rw [sumTo_add, sumTo_one, if_pos hi]
    rfl
  rw [e]
  unfold lyS
  refine sumTo_congr n (fun a ha => ?_)
  rw [r4_4 ha, r4_4 ha]
  unfold up4
  by_cases z : a = i
  · subst z
    rw [if_pos rfl, if_pos rfl, hr, if_neg (show ¬ (-1 : Int) = c' by omega)]
    omega
  · rw [if_neg z, if_neg z, Int.add_zero]
theorem up4_up {s : ST} {n i : Nat} {r : Nat → Int} {c : Int} (hr : r i = -1) : r4 s n (up4 (up4 r i c) i (-1)) = r4 s n r := r4_c (fun a _ => by
  unfold up4
  by_cases z : a = i
  · rw [if_pos z, z, hr]
  · rw [if_neg z, if_neg z])
theorem Sr.w {I I2 : MI} {s : ST} {n i j : Nat} {r : Nat → Int} {c : Int} (h : Sr I I2 s n i r) (hn : n ≤ 7) (hj : j < n) (hij : i ≤ j) : Sr I (upI I2 309 j c) s n i (up4 r j c) := by
  obtain ⟨k1, k2, k3, k4⟩ := h
  refine ⟨by rw [← r4_u hj]; exact k1.u 4 309 rfl (by decide) (by decide), k2.u (by decide) (by decide) (by show _ < 24; omega), fun p hp => by rw [upI_ne (by decide)]; exact k3 p hp, fun q hq => ?_⟩
  rw [upI_ne (by decide), k4 q hq]
  exact pd_c (fun a ha => by unfold up4; rw [if_neg (by omega)])
theorem Sr.c {I I2 : MI} {s : ST} {n i : Nat} {r r' : Nat → Int} (h : Sr I I2 s n i r) (e : ∀ a, a < n → r a = r' a) (hi : i ≤ n) : Sr I I2 s n i r' := by
  obtain ⟨k1, k2, k3, k4⟩ := h
  exact ⟨by rw [← r4_c e]; exact k1, k2, k3, fun q hq => (k4 q hq).trans (pd_c (fun a ha => e a (by omega)))⟩
