/-! the cabins' costs when one child comes or goes -/
noncomputable def wtC (s : ST) (a b : Nat) : Int := if a < b then prC s a b else prC s b a
theorem wtC_s {s : ST} {a b : Nat} (h : a ≠ b) : wtC s a b = wtC s b a := by
  unfold wtC
  rcases Nat.lt_or_gt_of_ne h with z | z
  · rw [if_pos z, if_neg (by omega)]
  · rw [if_neg (by omega), if_pos z]
noncomputable def PS (s : ST) (x : Nat → Bool) : Nat → Int
  | 0 => 0
  | n + 1 => PS s x n + if x n = true then sumTo (fun a => if x a = true then wtC s a n else 0) n else 0
theorem beh_up {s : ST} {cab : Int} {a n : Nat} (h : n ≤ a + 1) : behC s a cab n = 0 := by
  unfold behC
  rw [sumTo_congr (f' := fun _ => 0) n (fun i hi => by rw [if_neg (by omega)]), sumTo_zero]
theorem sumC_PS (s : ST) (cab : Int) (n : Nat) : sumC s cab n n = PS s (fun a => decide (s 4 a = cab)) n := by
  induction n with
  | zero => rfl
  | succ n ih =>
    have e1 : sumC s cab (n + 1) (n + 1) = sumC s cab (n + 1) n + if s 4 n = cab then behC s n cab (n + 1) else 0 := rfl
    have e2 : sumC s cab (n + 1) n = sumC s cab n n + sumTo (fun a => if s 4 n = cab then (if s 4 a = cab then wtC s a n else 0) else 0) n := by
      unfold sumC
      rw [← sumTo_add]
      refine sumTo_congr n (fun a ha => ?_)
      have e3 : behC s a cab (n + 1) = behC s a cab n + if a < n ∧ s 4 n = cab then prC s a n else 0 := rfl
      rw [e3]
      unfold wtC
      rw [if_pos ha]
      by_cases z : s 4 a = cab
      · rw [if_pos z, if_pos z, if_pos z]
        by_cases w : s 4 n = cab
        · rw [if_pos ⟨ha, w⟩, if_pos w]
        · rw [if_neg (fun y => w y.2), if_neg w]
      · rw [if_neg z, if_neg z, if_neg z]
        split <;> rfl
    rw [e1, e2, ih, beh_up (Nat.le_refl _)]
    simp only [PS, decide_eq_true_eq]
    by_cases w : s 4 n = cab
    · simp only [w, if_true]; omega
    · simp only [w, if_false, sumTo_zero]; omega
theorem PS_c {s : ST} {x y : Nat → Bool} (n : Nat) (h : ∀ i, i < n → x i = y i) : PS s x n = PS s y n := by
  induction n with
  | zero => rfl
  | succ n ih =>
    simp only [PS]
    rw [ih (fun i hi => h i (by omega)), h n (by omega), sumTo_congr n (fun a ha => by rw [h a (by omega)])]
theorem PS_ins {s : ST} {x y : Nat → Bool} {c : Nat} (hx : x c = false) (hy : y c = true) (h : ∀ i, i ≠ c → x i = y i) (n : Nat) : PS s y n = PS s x n + if c < n then sumTo (fun b => if b ≠ c ∧ x b = true then wtC s c b else 0) n else 0 := by
  induction n with
  | zero => rw [if_neg (by omega)]; rfl
  | succ n ih =>
    simp only [PS]
    by_cases z : n = c
    · subst z
      have e0 : PS s y n = PS s x n := PS_c n (fun i hi => (h i (by omega)).symm)
      rw [e0, hx, hy, if_pos rfl, if_neg (by decide), if_pos (Nat.lt_succ_self n)]
      simp only [sumTo]
      rw [if_neg (fun w => w.1 rfl), sumTo_congr (f' := fun b => if b ≠ n ∧ x b = true then wtC s n b else 0) n (fun a ha => by
        rw [← h a (by omega), wtC_s (by omega)]
        by_cases w : x a = true
        · rw [if_pos w, if_pos ⟨by omega, w⟩]
        · rw [if_neg w, if_neg (fun q => w q.2)])]
      omega
    · rw [ih, ← h n z]
      by_cases w : c < n
      · rw [if_pos w, if_pos (show c < n + 1 by omega)]
        simp only [sumTo]
        by_cases v : x n = true
        · rw [if_pos v, if_pos v, if_pos ⟨z, v⟩]
          have e1 : sumTo (fun a => if y a = true then wtC s a n else 0) n = sumTo (fun a => if x a = true then wtC s a n else 0) n + wtC s c n := by
            rw [sumTo_congr (f' := fun a => (if x a = true then wtC s a n else 0) + (if a = c then wtC s c n else 0)) n (fun a _ => by
              by_cases q : a = c
              · rw [q, hx, hy]; simp
              · rw [← h a q, if_neg q]; omega), sumTo_add, sumTo_one n, if_pos w]
          rw [e1]; omega
        · rw [if_neg v, if_neg v, if_neg (fun q => v q.2)]; omega
      · rw [if_neg w, if_neg (show ¬ c < n + 1 by omega)]
        have e1 : sumTo (fun a => if y a = true then wtC s a n else 0) n = sumTo (fun a => if x a = true then wtC s a n else 0) n := sumTo_congr n (fun a ha => by rw [← h a (by omega)])
        rw [e1]; omega
noncomputable def nearC (s : ST) (c : Nat) (k : Int) (n : Nat) : Int := sumTo (fun b => if b ≠ c ∧ s 4 b = k then wtC s c b else 0) n
def shI (s : ST) (c : Nat) : Int := if s 2 c = 0 then 0 else 1
def lonV (v : Int) : Int := if v = 1 then 12 else 0
noncomputable def cmC (s : ST) (n c : Nat) (k : Int) : Int := nearC s c k n + lonV (shyC s k n + shI s c) - lonV (shyC s k n)
noncomputable def clC (s : ST) (n c : Nat) (k : Int) : Int := lonV (shyC s k n - shI s c) - lonV (shyC s k n) - nearC s c k n
theorem us4 {s : ST} {c i : Nat} {v : Int} : us s 4 c v 4 i = if i = c then v else s 4 i := by simp only [us, true_and]
theorem shyC_ins {s : ST} {c : Nat} {k : Int} (h : s 4 c ≠ k) (n : Nat) : shyC (us s 4 c k) k n = shyC s k n + if c < n then shI s c else 0 := by
  unfold shyC
  rw [← sumTo_one n, ← sumTo_add]
  refine sumTo_congr n (fun a _ => ?_)
  rw [us4]
  have e : us s 4 c k 2 a = s 2 a := rfl
  rw [e]
  by_cases z : a = c
  · subst z; rw [if_pos rfl, if_pos rfl, if_neg h, if_pos rfl]; unfold shI; omega
  · rw [if_neg z, if_neg z]; omega
theorem shyC_oth {s : ST} {c : Nat} {k cab : Int} (h1 : cab ≠ k) (h2 : s 4 c ≠ cab) (n : Nat) : shyC (us s 4 c k) cab n = shyC s cab n := by
  unfold shyC
  refine sumTo_congr n (fun a _ => ?_)
  rw [us4]
  have e : us s 4 c k 2 a = s 2 a := rfl
  rw [e]
  by_cases z : a = c
  · subst z; rw [if_pos rfl, if_neg (fun q => h1 q.symm), if_neg h2]
  · rw [if_neg z]
theorem wtC_us {s : ST} {c : Nat} {v : Int} {a b : Nat} : wtC (us s 4 c v) a b = wtC s a b := rfl
theorem PS_us {s : ST} {c : Nat} {v : Int} {x : Nat → Bool} (n : Nat) : PS (us s 4 c v) x n = PS s x n := by
  induction n with
  | zero => rfl
  | succ n ih => simp only [PS]; rw [ih]; rfl
theorem cost_come {s : ST} {n c : Nat} {k : Int} (hc : c < n) (h : s 4 c ≠ k) : costC (us s 4 c k) n k = costC s n k + cmC s n c k := by
  have e1 : sumC (us s 4 c k) k n n = sumC s k n n + nearC s c k n := by
    rw [sumC_PS, sumC_PS, PS_us, PS_ins (s := s) (x := fun a => decide (s 4 a = k)) (c := c) (by simpa using h) (by simp [us4]) (fun i hi => by simp [us4, hi]) n, if_pos hc]
    unfold nearC
    simp only [decide_eq_true_eq]
  unfold costC cmC
  rw [e1, shyC_ins h, if_pos hc]
  unfold lonV
  omega
theorem us_back {s : ST} {c : Nat} {k : Int} : us (us s 4 c k) 4 c (s 4 c) = s := by
  funext q p
  simp only [us]
  by_cases z : q = 4 ∧ p = c
  · rw [if_pos z, z.1, z.2]
  · rw [if_neg z, if_neg z]
theorem near_us {s : ST} {c n : Nat} {v k : Int} : nearC (us s 4 c v) c k n = nearC s c k n := by
  unfold nearC
  refine sumTo_congr n (fun b _ => ?_)
  rw [us4, wtC_us]
  by_cases z : b = c
  · rw [if_neg (fun w => w.1 z), if_neg (fun w => w.1 z)]
  · rw [if_neg z]
theorem cost_leave {s : ST} {n c : Nat} {k v : Int} (hc : c < n) (h : s 4 c = k) (hv : v ≠ k) : costC (us s 4 c v) n k = costC s n k + clC s n c k := by
  have e0 : us (us s 4 c v) 4 c k = s := by rw [← h]; exact us_back
  have e4 : us s 4 c v 4 c ≠ k := by rw [us4, if_pos rfl]; exact hv
  have e1 := cost_come (s := us s 4 c v) hc e4
  have e2 := shyC_ins (s := us s 4 c v) (c := c) (k := k) e4 n
  rw [e0] at e1 e2
  rw [if_pos hc] at e2
  have e3 : shI (us s 4 c v) c = shI s c := rfl
  rw [e3] at e2
  unfold cmC at e1
  rw [near_us, e3, ← e2] at e1
  unfold clC
  have e5 : shyC (us s 4 c v) k n = shyC s k n - shI s c := by omega
  rw [e5] at e1
  omega
theorem cost_oth {s : ST} {n c : Nat} {k cab : Int} (h1 : cab ≠ k) (h2 : s 4 c ≠ cab) : costC (us s 4 c k) n cab = costC s n cab := by
  unfold costC
  rw [shyC_oth h1 h2, sumC_PS, sumC_PS, PS_us, PS_c (y := fun a => decide (s 4 a = cab)) n (fun i _ => by
    by_cases z : i = c
    · subst z; simp [us4, h2]; exact fun q => h1 q.symm
    · simp [us4, z])]
theorem sumTo_upd {f f' : Nat → Int} {k : Nat} {v : Int} (m : Nat) (hk : k < m) (h : ∀ i, i ≠ k → f' i = f i) (hv : f' k = f k + v) : sumTo f' m = sumTo f m + v := by
  rw [sumTo_congr (f' := fun i => f i + if i = k then v else 0) m (fun i _ => by
    by_cases z : i = k
    · subst z; rw [if_pos rfl, hv]
    · rw [if_neg z, h i z]; omega), sumTo_add, sumTo_one m, if_pos hk]
theorem all_come {s : ST} {n m c k : Nat} (hc : c < n) (hk : k < m) (h : s 4 c = -1) : allC (us s 4 c k) n m = allC s n m + cmC s n c k := by
  unfold allC
  refine sumTo_upd m hk (fun i hi => cost_oth (by omega) (by omega)) (cost_come hc (by omega))
/-- an exchange: by how much the cost of both cabins changes -/
noncomputable def exC (s : ST) (n a b : Nat) : Int := nearC s a (s 4 b) n + nearC s b (s 4 a) n - nearC s a (s 4 a) n - nearC s b (s 4 b) n - 2 * wtC s a b + lonV (shyC s (s 4 a) n - (shI s a - shI s b)) - lonV (shyC s (s 4 a) n) + lonV (shyC s (s 4 b) n + (shI s a - shI s b)) - lonV (shyC s (s 4 b) n)
theorem near_o {s : ST} {c e n : Nat} {v k : Int} (hn : c ≠ e) (hc : c < n) : nearC (us s 4 c v) e k n = nearC s e k n + (if v = k then wtC s e c else 0) - (if s 4 c = k then wtC s e c else 0) := by
  unfold nearC
  have h1 : sumTo (fun b => if b ≠ e ∧ us s 4 c v 4 b = k then wtC (us s 4 c v) e b else 0) n = sumTo (fun b => (if b ≠ e ∧ s 4 b = k then wtC s e b else 0) + (if b = c then ((if v = k then wtC s e c else 0) - (if s 4 c = k then wtC s e c else 0)) else 0)) n := by
    refine sumTo_congr n (fun b _ => ?_)
    rw [us4, wtC_us]
    by_cases z : b = c
    · subst z
      rw [if_pos rfl, if_pos rfl]
      simp only [hn, ne_eq, not_false_eq_true, true_and]
      omega
    · rw [if_neg z, if_neg z]; omega
  rw [h1, sumTo_add, sumTo_one n, if_pos hc]
  omega
theorem cost_ex {s : ST} {n a b : Nat} (ha : a < n) (hb : b < n) (hab : a ≠ b) (h : s 4 a ≠ s 4 b) (h1 : s 4 a ≠ -1) (h2 : s 4 b ≠ -1) : costC (us (us s 4 a (s 4 b)) 4 b (s 4 a)) n (s 4 a) + costC (us (us s 4 a (s 4 b)) 4 b (s 4 a)) n (s 4 b) = costC s n (s 4 a) + costC s n (s 4 b) + exC s n a b := by
  generalize hx : s 4 a = x at *
  generalize hy : s 4 b = y at *
  have b4 : us s 4 a y 4 b = y := by rw [us4, if_neg (Ne.symm hab)]; exact hy
  -- a leaves x and comes to y, then b leaves y and comes to x
  have e1 := cost_leave (s := s) (v := y) ha hx (Ne.symm h)
  have e2 := cost_come (s := s) (k := y) ha (by rw [hx]; exact h)
  have e3 := cost_leave (s := us s 4 a y) (v := x) hb b4 h
  have e4 := cost_come (s := us s 4 a y) (k := x) hb (by rw [b4]; exact Ne.symm h)
  have s1 : shyC (us s 4 a y) y n = shyC s y n + shI s a := by
    have := shyC_ins (s := s) (c := a) (k := y) (by rw [hx]; exact h) n
    rw [if_pos ha] at this; exact this
  have s2 : shyC s x n = shyC (us s 4 a y) x n + shI s a := by
    have := shyC_ins (s := us s 4 a y) (c := a) (k := x) (by rw [us4, if_pos rfl]; exact Ne.symm h) n
    rw [if_pos ha] at this
    have e0 : us (us s 4 a y) 4 a x = s := by rw [← hx]; exact us_back
    rw [e0] at this
    exact this
  have i1 : shI (us s 4 a y) b = shI s b := rfl
  have n1 := near_o (s := s) (c := a) (e := b) (n := n) (v := y) (k := x) hab ha
  have n2 := near_o (s := s) (c := a) (e := b) (n := n) (v := y) (k := y) hab ha
  rw [hx, if_neg (Ne.symm h), if_pos rfl] at n1
  rw [hx, if_pos rfl, if_neg h] at n2
  have w1 := wtC_s (s := s) hab
  unfold cmC at e2 e4
  unfold clC at e1 e3
  rw [i1, s1, n2] at e3
  rw [i1, n1] at e4
  unfold exC
  rw [hx, hy]
  have t1 : shyC (us s 4 a y) x n = shyC s x n - shI s a := by omega
  rw [t1] at e4
  rw [show shyC s y n + shI s a - shI s b = shyC s y n + (shI s a - shI s b) by omega] at e3
  rw [show shyC s x n - shI s a + shI s b = shyC s x n - (shI s a - shI s b) by omega] at e4
  omega
