/-! images: what both hold after a copy -/
theorem FJ.fx {j : Nat} {I I' : MI} (h : FJ j I I') (hj : j < 4) : (∀ o, 301 ≤ o → o < 342 → I' o = I o) := fun o h1 h2 => h.1 o (by omega) (by omega)
theorem RM.q {j : Nat} {I I' : MI} {s : ST} (e : ∀ o, 301 ≤ o → o < 342 → I' o = I o) (k : RM j I s) : RM j I' s := by
  obtain ⟨h1, h2, h3⟩ := k
  refine ⟨fun q hq k hk => ?_, fun k hk => ?_, fun l hl => ?_⟩
  · have b := (ma_f q (ma_lt hq) hq).1
    rw [e _ (by omega) (by omega)]; exact h1 q hq k hk
  · rw [e 340 (by decide) (by decide), e 339 (by decide) (by decide)]; exact h2 k hk
  · rw [e 330 (by decide) (by decide), e 331 (by decide) (by decide), e 326 (by decide) (by decide), e 327 (by decide) (by decide), e 328 (by decide) (by decide), e 329 (by decide) (by decide)]; exact h3 l hl
theorem RM.up {I : MI} {s : ST} {j o p : Nat} {v : Int} (h : RM j I s) (ho : o < 301 ∨ 342 ≤ o) : RM j (upI I o p v) s := h.q (fun o' a b => upI_ne (by omega))
/-- what holds at the law's loop: both hold the same camp; images alike where they are made -/
def LI (I : MI) (f : Nat → Bool) : Prop := RM 0 I (xv 0 I) ∧ Inv2 (xv 0 I) ∧ ∀ j, j < 3 → (f j = true → RM (j + 1) I (xv (j + 1) I) ∧ Inv2 (xv (j + 1) I) ∧ I 357 j = 1) ∧ (f j = false → I 357 j = 0)
theorem Inv2.n31 {s : ST} (h : Inv2 s) : s 31 0 ≤ 16 := h.1.1.2.2.2.2.2.2.2.2.2.1.2
theorem Inv2.n52 {s : ST} (h : Inv2 s) : ∀ l : Nat, (l : Int) < s 31 0 → s 52 l ≤ 4 := fun l hl => (h.2.1 l hl).2.2.1.2
section IMG
variable {I I' : MI} {f : Nat → Bool} {K : Nat}
theorem LI.agn (hK : K < 3) (hf : f K = true) (h : LI I f) (e : EQ (xv 0 I') (xv (K + 1) I)) (J : FJ 0 I I') : LI (cpL [341, 340, 339, 338, 337, 336, 335, 334, 333, 332, 331, 330, 329, 328, 327, 326, 325, 324, 323, 322, 321, 320, 319, 318, 317, 316, 315, 314, 313, 312, 311, 310, 309, 308, 307, 306, 305, 304, 303, 302, 301] (upI I' 300 0 0) (K + 1) 0) f := by
  have hC : FC 0 (upI I' 300 0 0) (cpL [341, 340, 339, 338, 337, 336, 335, 334, 333, 332, 331, 330, 329, 328, 327, 326, 325, 324, 323, 322, 321, 320, 319, 318, 317, 316, 315, 314, 313, 312, 311, 310, 309, 308, 307, 306, 305, 304, 303, 302, 301] (upI I' 300 0 0) (K + 1) 0) := FC_cp
  obtain ⟨-, -, hI⟩ := h
  obtain ⟨r1, r2, r3⟩ := (hI K hK).1 hf
  have up : ∀ {j s}, RM j I s → RM j (upI I' 300 0 0) s := fun {j s} k => RM.up (RM.q (FJ.fx J (by decide)) k) (Or.inl (by decide))
  have q1 := RM_cp (b := 0) r2.n31 r2.2.1 (up r1)
  generalize cpL [341, 340, 339, 338, 337, 336, 335, 334, 333, 332, 331, 330, 329, 328, 327, 326, 325, 324, 323, 322, 321, 320, 319, 318, 317, 316, 315, 314, 313, 312, 311, 310, 309, 308, 307, 306, 305, 304, 303, 302, 301] (upI I' 300 0 0) (K + 1) 0 = I2 at hC q1 ⊢
  have lo : ∀ o, o < 300 → I2 o = I' o := fun o ho => (hC.1 o ho).trans (upI_ne (by omega))
  have ci : ∀ a k, I2 (cid a k) = I' (cid a k) := fun a k => (hC.2.1 a k).trans (upI_ne (by unfold cid; omega))
  have e0 : xv 0 I2 = xv 0 I' := xv_same (fun r hr => lo _ (by omega)) (fun k => ci 0 k)
  have ej : ∀ j, j < 3 → xv (j + 1) I2 = xv (j + 1) I := fun j hj => xv_same (fun r hr => (lo _ (by omega)).trans (J.1 _ (by omega) (by omega))) (fun k => (ci _ k).trans (J.2 _ k (by omega) (by omega)))
  have e357 : I2 357 = I 357 := hC.2.2.1.trans ((upI_ne (by decide)).trans (J.1 _ (by decide) (by decide)))
  refine ⟨by rw [e0]; exact RM_eq e r2.n31 r2.n52 q1, by rw [e0]; exact EQ_2 e r2, fun j hj => ?_⟩
  rw [ej j hj, e357]
  obtain ⟨a, b⟩ := hI j hj
  refine ⟨fun z => ?_, b⟩
  obtain ⟨a1, a2, a3⟩ := a z
  exact ⟨hC.rm (Nat.succ_ne_zero j) a2.n31 a2.2.1 (up a1), a2, a3⟩
theorem LI.img (hK : K < 3) (h : LI I f) (e : EQ (xv (K + 1) I') (xv 0 I)) (J : FJ (K + 1) I I') : LI (upI (cpL [341, 340, 339, 338, 337, 336, 335, 334, 333, 332, 331, 330, 329, 328, 327, 326, 325, 324, 323, 322, 321, 320, 319, 318, 317, 316, 315, 314, 313, 312, 311, 310, 309, 308, 307, 306, 305, 304, 303, 302, 301] (upI I' 300 0 0) 0 (K + 1)) 357 K 1) (fS f K) := by
  have hC : FC (K + 1) (upI I' 300 0 0) (cpL [341, 340, 339, 338, 337, 336, 335, 334, 333, 332, 331, 330, 329, 328, 327, 326, 325, 324, 323, 322, 321, 320, 319, 318, 317, 316, 315, 314, 313, 312, 311, 310, 309, 308, 307, 306, 305, 304, 303, 302, 301] (upI I' 300 0 0) 0 (K + 1)) := FC_cp
  obtain ⟨p1, p2, hI⟩ := h
  have up : ∀ {j s}, RM j I s → RM j (upI I' 300 0 0) s := fun {j s} k => RM.up (RM.q (FJ.fx J (by omega)) k) (Or.inl (by decide))
  have q1 := RM_cp (b := K + 1) p2.n31 p2.2.1 (up p1)
  generalize cpL [341, 340, 339, 338, 337, 336, 335, 334, 333, 332, 331, 330, 329, 328, 327, 326, 325, 324, 323, 322, 321, 320, 319, 318, 317, 316, 315, 314, 313, 312, 311, 310, 309, 308, 307, 306, 305, 304, 303, 302, 301] (upI I' 300 0 0) 0 (K + 1) = I2 at hC q1 ⊢
  have lo : ∀ o, o < 300 → upI I2 357 K 1 o = I' o := fun o ho => (upI_ne (by omega)).trans ((hC.1 o ho).trans (upI_ne (by omega)))
  have ci : ∀ a k, upI I2 357 K 1 (cid a k) = I' (cid a k) := fun a k => (upI_ne (by unfold cid; omega)).trans ((hC.2.1 a k).trans (upI_ne (by unfold cid; omega)))
  have e0 : xv 0 (upI I2 357 K 1) = xv 0 I := xv_same (fun r hr => (lo _ (by omega)).trans (J.1 _ (by omega) (by omega))) (fun k => (ci 0 k).trans (J.2 _ k (by omega) (by omega)))
  have eK : xv (K + 1) (upI I2 357 K 1) = xv (K + 1) I' := xv_same (fun r hr => lo _ (by omega)) (fun k => ci _ k)
  have ej : ∀ j, j < 3 → j ≠ K → xv (j + 1) (upI I2 357 K 1) = xv (j + 1) I := fun j hj hn => xv_same (fun r hr => (lo _ (by omega)).trans (J.1 _ (by omega) (by omega))) (fun k => (ci _ k).trans (J.2 _ k (by omega) (by omega)))
  have e357 : I2 357 = I 357 := hC.2.2.1.trans ((upI_ne (by decide)).trans (J.1 _ (by decide) (by omega)))
  refine ⟨by rw [e0]; exact RM.up (hC.rm (by omega) p2.n31 p2.2.1 (up p1)) (Or.inr (by decide)), by rw [e0]; exact p2, fun j hj => ?_⟩
  by_cases z : j = K
  · subst z
    rw [eK]
    refine ⟨fun _ => ⟨RM.up (RM_eq e p2.n31 p2.n52 q1) (Or.inr (by decide)), EQ_2 e p2, by rw [upI_eq, if_pos rfl]⟩, fun y => ?_⟩
    rw [fS_is] at y
    exact absurd y (by decide)
  · rw [ej j hj z, fS_ne z, upI_eq, if_neg z, e357]
    obtain ⟨a, b⟩ := hI j hj
    refine ⟨fun y => ?_, b⟩
    obtain ⟨a1, a2, a3⟩ := a y
    exact ⟨RM.up (hC.rm (by omega) a2.n31 a2.2.1 (up a1)) (Or.inr (by decide)), a2, a3⟩
end IMG
