/-! what a row has paid so far, against its cost -/
noncomputable def pdI (s : ST) (r : Nat → Int) (c : Int) (b : Nat) (k : Nat) : Int := sumTo (fun a => if r a = c then prC s a b else 0) k
noncomputable def pd (s : ST) (r : Nat → Int) (i : Nat) : Int := sumTo (fun b => pdI s r (r b) b b) i
theorem sumTo_le {f f' : Nat → Int} : ∀ n, (∀ i, i < n → f i ≤ f' i) → sumTo f n ≤ sumTo f' n
  | 0, _ => Int.le_refl _
  | n + 1, h => by
    have := sumTo_le n (fun i hi => h i (by omega))
    have := h n (by omega)
    simp only [sumTo]
    omega
theorem sumTo_nn {f : Nat → Int} : ∀ n, (∀ i, i < n → 0 ≤ f i) → 0 ≤ sumTo f n
  | 0, _ => Int.le_refl _
  | n + 1, h => by
    have := sumTo_nn n (fun i hi => h i (by omega))
    have := h n (by omega)
    simp only [sumTo]
    omega
theorem sumTo_pre {f : Nat → Int} (i : Nat) : ∀ n, i ≤ n → (∀ j, j < n → 0 ≤ f j) → sumTo f i ≤ sumTo f n := by
  intro n
  induction n with
  | zero => intro h _; have : i = 0 := by omega
            subst this; exact Int.le_refl _
  | succ n ih =>
    intro h k
    rcases Nat.eq_or_lt_of_le h with e | e
    · rw [e]; exact Int.le_refl _
    · have := ih (by omega) (fun j hj => k j (by omega))
      have := k n (by omega)
      simp only [sumTo]
      omega
theorem sumTo_cut {f : Nat → Int} {b : Nat} : ∀ n, b ≤ n → sumTo (fun a => if a < b then f a else 0) n = sumTo f b := by
  intro n
  induction n with
  | zero => intro h; have : b = 0 := by omega
            subst this; rfl
  | succ n ih =>
    intro h
    rcases Nat.eq_or_lt_of_le h with e | e
    · subst e
      exact sumTo_congr _ (fun i hi => if_pos hi)
    · simp only [sumTo]
      rw [ih (by omega), if_neg (by omega), Int.add_zero]
theorem pdI_c {s : ST} {r r' : Nat → Int} {c : Int} {b k : Nat} (h : ∀ a, a < k → r a = r' a) : pdI s r c b k = pdI s r' c b k := sumTo_congr k (fun a ha => by rw [h a ha])
theorem pd_c {s : ST} {r r' : Nat → Int} {i : Nat} (h : ∀ a, a < i → r a = r' a) : pd s r i = pd s r' i := sumTo_congr i (fun b hb => by rw [h b hb]; exact pdI_c (fun a ha => h a (by omega)))
theorem pd_s {s : ST} {r : Nat → Int} {i : Nat} : pd s r (i + 1) = pd s r i + pdI s r (r i) i i := rfl
theorem pdI_0 {s : ST} {r : Nat → Int} {c : Int} {n b k : Nat} (h : ageOk s n) (hb : b < n) (hk : k ≤ n) : 0 ≤ pdI s r c b k ∧ pdI s r c b k ≤ k * 375 := sumTo_b k (fun a ha => by
  have := prC_b h (show a < n by omega) hb
  split <;> omega)
theorem pd_0 {s : ST} {r : Nat → Int} {n i : Nat} (h : ageOk s n) (hi : i ≤ n) (hn : n ≤ 24) : 0 ≤ pd s r i ∧ pd s r i ≤ i * 9000 := sumTo_b i (fun b hb => by
  have := pdI_0 (r := r) (c := r b) h (show b < n by omega) (show b ≤ n by omega)
  omega)
theorem pd_all {s : ST} {n m i : Nat} {R : Nat → Nat} (h : ageOk s n) (hR : ∀ a, a < n → R a < m) (hi : i ≤ n) : pd s (fun a => (R a : Int)) i ≤ allC (r4 s n (fun a => (R a : Int))) n m := by
  have q : ∀ a b, a < n → b < n → 0 ≤ prC s a b := fun a b ha hb => (prC_b h ha hb).1
  have one : ∀ (a : Nat) (v : Int), a < n → sumTo (fun c => if (R a : Int) = (c : Int) then v else 0) m = v := fun a v ha => by
    have := sumTo_one (v := v) (a := R a) m
    rw [if_pos (hR a ha)] at this
    refine Eq.trans (sumTo_congr m (fun c _ => ?_)) this
    by_cases z : c = R a
    · rw [if_pos (by omega), if_pos z]
    · rw [if_neg (by omega), if_neg z]
  have s1 : sumTo (fun c => sumC (r4 s n (fun a => (R a : Int))) (c : Int) n n) m ≤ allC (r4 s n (fun a => (R a : Int))) n m := by
    unfold allC
    refine sumTo_le m (fun c _ => ?_)
    unfold costC
    split <;> omega
  have s2 : sumTo (fun c => sumC (r4 s n (fun a => (R a : Int))) (c : Int) n n) m = sumTo (fun a => sumTo (fun b => if a < b ∧ (R b : Int) = (R a : Int) then prC s a b else 0) n) n := by
    unfold sumC
    rw [sumTo_swap (f := fun c a => if r4 s n (fun a => (R a : Int)) 4 a = (c : Int) then behC (r4 s n (fun a => (R a : Int))) a (c : Int) n else 0)]
    refine sumTo_congr n (fun a ha => ?_)
    rw [← one a (sumTo (fun b => if a < b ∧ (R b : Int) = (R a : Int) then prC s a b else 0) n) ha]
    refine sumTo_congr m (fun c _ => ?_)
    show (if r4 s n (fun a => (R a : Int)) 4 a = (c : Int) then behC (r4 s n (fun a => (R a : Int))) a (c : Int) n else 0) = _
    rw [r4_4 ha]
    by_cases z : (R a : Int) = (c : Int)
    · rw [if_pos z, if_pos z]
      unfold behC
      refine sumTo_congr n (fun b hb => ?_)
      rw [r4_4 hb, r4_pr, z]
    · rw [if_neg z, if_neg z]
  have s3 : sumTo (fun a => sumTo (fun b => if a < b ∧ (R b : Int) = (R a : Int) then prC s a b else 0) n) n = pd s (fun a => (R a : Int)) n := by
    rw [sumTo_swap (f := fun a b => if a < b ∧ (R b : Int) = (R a : Int) then prC s a b else 0)]
    unfold pd
    refine sumTo_congr n (fun b hb => ?_)
    unfold pdI
    refine Eq.trans (sumTo_congr n (f' := fun a => if a < b then (if (R a : Int) = (R b : Int) then prC s a b else 0) else 0) (fun a _ => ?_)) (sumTo_cut n (by omega))
    show (if a < b ∧ (R b : Int) = (R a : Int) then prC s a b else 0) = if a < b then (if (R a : Int) = (R b : Int) then prC s a b else 0) else 0
    by_cases z : a < b
    · rw [if_pos z]
      by_cases y : (R a : Int) = (R b : Int)
      · rw [if_pos ⟨z, y.symm⟩, if_pos y]
      · rw [if_neg (fun u => y u.2.symm), if_neg y]
    · rw [if_neg z, if_neg (fun u => z u.1)]
  have s4' : pd s (fun a => (R a : Int)) i ≤ pd s (fun a => (R a : Int)) n := sumTo_pre i n hi (fun b hb => (pdI_0 h hb (by omega)).1)
  omega
