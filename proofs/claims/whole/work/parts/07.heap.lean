/-! stores to locals, branches, the heap -/
theorem nth_setl : ∀ (ls : LV) (k i : Nat) (v : Option AV), k < ls.length → nth (setl ls k v) i = if i = k then v else nth ls i
  | [], k, i, v, h => absurd h (Nat.not_lt_zero k)
  | a :: l, 0, 0, v, _ => rfl
  | a :: l, 0, i + 1, v, _ => by simp [setl, nth]
  | a :: l, k + 1, 0, v, _ => by simp [setl, nth]
  | a :: l, k + 1, i + 1, v, h => by
    have := nth_setl l k i v (by simpa using h)
    simp only [setl, nth, this]
    by_cases hik : i = k
    · simp [hik]
    · rw [if_neg hik, if_neg (by omega)]
theorem len_setl : ∀ (ls : LV) (k : Nat) (v : Option AV), (setl ls k v).length = ls.length
  | [], _, _ => rfl
  | _ :: _, 0, _ => rfl
  | _ :: l, k + 1, v => congrArg (· + 1) (len_setl l k v)
theorem nth_lt : ∀ (ls : LV) (i : Nat) (v : AV), nth ls i = some v → i < ls.length
  | [], i, v, h => by simp [nth] at h
  | _ :: _, 0, _, _ => Nat.zero_lt_succ _
  | _ :: l, i + 1, v, h => Nat.succ_lt_succ (nth_lt l i v h)
def lcL (ad : Nat → Nat) (ls : LV) : List (Nat × Value) := (List.range ls.length).filterMap (fun i => (nth ls i).map (fun v => (i, rl ad v)))
theorem lcL_mem {ad ls i v} (h : nth ls i = some v) : (i, rl ad v) ∈ lcL ad ls := List.mem_filterMap.mpr ⟨i, List.mem_range.mpr (nth_lt ls i v h), by rw [h]; rfl⟩
theorem Lc.has {lv ad ls lsC nL} (h : Lc lv ad ls lsC nL) : lv_has lsC nL (lcL ad ls) := by
  refine ⟨h.1, h.2.1, fun q hq => ?_⟩
  obtain ⟨i, -, hi⟩ := List.mem_filterMap.mp hq
  cases hn : nth ls i with
  | none => rw [hn] at hi; cases hi
  | some v => rw [hn] at hi; cases hi; exact (h.2.2.2 i v hn).2
theorem rl_cat {ad v} (h : ∀ z, v ≠ .inr (.inl z)) : (rl ad v).category = 1 := by
  match v, h with
  | .inl _, _ => rfl
  | .inr (.inl z), h => exact absurd rfl (h z)
  | .inr (.inr none), _ => rfl
  | .inr (.inr (some _)), _ => rfl
theorem Lc.st {lv ad ls lsC nL k v ls'} (h : Lc lv ad ls lsC nL) (hk : k < ls.length) (hb : ∀ z, nth ls (k - 1) ≠ some (.inr (.inl z))) (hv : okv lv v) (h2 : lv_has ls' nL ((k, rl ad v) :: (lcL ad ls).filter (fun q => !(q.1 == k) && !(q.1 + 1 == k && q.2.category == 2)))) : Lc lv ad (setl ls k (some v)) ls' nL := by
  refine ⟨h2.1, h2.2.1, by rw [len_setl]; exact h.2.2.1, fun i w hw => ?_⟩
  rw [nth_setl ls k i _ hk] at hw
  by_cases hik : i = k
  · rw [if_pos hik] at hw
    cases hw
    subst hik
    exact ⟨hv, h2.2.2 _ List.mem_cons_self⟩
  · rw [if_neg hik] at hw
    refine ⟨(h.2.2.2 i w hw).1, h2.2.2 (i, rl ad w) (List.mem_cons_of_mem _ (List.mem_filter.mpr ⟨lcL_mem hw, ?_⟩))⟩
    simp only [Bool.and_eq_true, Bool.not_eq_true', beq_eq_false_iff_ne, ne_eq, Bool.and_eq_false_iff]
    refine ⟨hik, ?_⟩
    by_cases hc : i + 1 = k
    · right
      rw [rl_cat (ad := ad) (v := w) (fun z e => hb z (by rw [show k - 1 = i by omega, hw, e]))]
      decide
    · left
      exact hc
theorem w8_r (v : Int) : -128 ≤ w8 v ∧ w8 v < 128 := by
  rw [w8_eq, Int8.toInt_toInt32]
  exact ⟨by have := ((Int32.ofInt v).toInt8).le_toInt; simpa using this, by have := ((Int32.ofInt v).toInt8).toInt_lt; simpa using this⟩
theorem narZ {v : Int} (hv : i32 v) : vp_nar .boolean (Int32.ofInt v) = Int32.ofInt (v % 2) := by
  have h1 : vp_nar .boolean (Int32.ofInt v) = Int32.ofInt v &&& 1 := rfl
  rw [h1, pk_and (Int32.ofInt v) (m := 1) 1 rfl]
  have h2 : (Int32.ofInt v).toBitVec.toNat % 2 ^ 1 = (v % 2).toNat := by
    rw [Int32.toBitVec_ofInt, BitVec.toNat_ofInt]
    omega
  rw [h2]
  show Int32.ofNat (v % 2).toNat = _
  rw [← Int32.ofInt_eq_ofNat]
  congr 1
  omega
section STEPS2
variable {g : GX} {d y : Nat} {Q : Option AV → MI → MR → Prop} {pc : Nat} {ls : LV} {t : List AV} {I : MI} {R : MR} {nx : List Nat}
theorem stl_spec {k v F} (h : stl ls k v F) : k < ls.length ∧ (∀ z, nth ls (k - 1) ≠ some (.inr (.inl z))) ∧ F (setl ls k (some v)) := by
  obtain ⟨h1, h2⟩ := h
  refine ⟨h1, fun z e => ?_, ?_⟩
  · rw [e] at h2; exact h2
  · split at h2
    · exact absurd h2 id
    · exact h2

theorem s_istore_n {v : Int} {k : Fin 4} (hk : (k : Nat) < ls.length) (hb : ∀ z, nth ls ((k : Nat) - 1) ≠ some (.inr (.inl z))) (hd : decode (mB y) pc = .ok (.istore_n k, 1)) (h : AtP g d y Q (pc + 1) (setl ls k (some (.inl v))) t I R nx) : AtP g d y Q pc ls (.inl v :: t) I R nx := by
  intro x lv ad p e Rm s m args below meth c H locs lsC cells slots Z C ret hR hS hL hst hc hs
  refine lv_istore_n C.1 C.2.1 hd rfl hL.has (Nat.lt_of_lt_of_le hk hL.2.2.1) rfl (fun ls' hl => ?_)
  exact h x lv ad p e Rm s m args below meth c H locs ls' cells slots Z C ret hR hS (hL.st hk hb (okh hst) hl) (okt hst) hc hs
theorem s_istore {v : Int} {k : Nat} (hk : (k : Nat) < ls.length) (hb : ∀ z, nth ls ((k : Nat) - 1) ≠ some (.inr (.inl z))) (hd : decode (mB y) pc = .ok (.istore k, 2)) (h : AtP g d y Q (pc + 2) (setl ls k (some (.inl v))) t I R nx) : AtP g d y Q pc ls (.inl v :: t) I R nx := by
  intro x lv ad p e Rm s m args below meth c H locs lsC cells slots Z C ret hR hS hL hst hc hs
  refine lv_istore C.1 C.2.1 hd hL.has (Nat.lt_of_lt_of_le hk hL.2.2.1) rfl (fun ls' hl => ?_)
  exact h x lv ad p e Rm s m args below meth c H locs ls' cells slots Z C ret hR hS (hL.st hk hb (okh hst) hl) (okt hst) hc hs
theorem s_astore_n {v : Option Nat} {k : Fin 4} (hk : (k : Nat) < ls.length) (hb : ∀ z, nth ls ((k : Nat) - 1) ≠ some (.inr (.inl z))) (hd : decode (mB y) pc = .ok (.astore_n k, 1)) (h : AtP g d y Q (pc + 1) (setl ls k (some (.inr (.inr v)))) t I R nx) : AtP g d y Q pc ls (.inr (.inr v) :: t) I R nx := by
  intro x lv ad p e Rm s m args below meth c H locs lsC cells slots Z C ret hR hS hL hst hc hs
  cases v with
  | none =>
    refine lv_astore_nN C.1 C.2.1 hd rfl hL.has (Nat.lt_of_lt_of_le hk hL.2.2.1) rfl (fun ls' hl => ?_)
    exact h x lv ad p e Rm s m args below meth c H locs ls' cells slots Z C ret hR hS (hL.st hk hb (okh hst) hl) (okt hst) hc hs
  | some w =>
    refine lv_astore_n C.1 C.2.1 hd rfl hL.has (Nat.lt_of_lt_of_le hk hL.2.2.1) rfl (fun ls' hl => ?_)
    exact h x lv ad p e Rm s m args below meth c H locs ls' cells slots Z C ret hR hS (hL.st hk hb (okh hst) hl) (okt hst) hc hs
theorem s_astore {v : Option Nat} {k : Nat} (hk : (k : Nat) < ls.length) (hb : ∀ z, nth ls ((k : Nat) - 1) ≠ some (.inr (.inl z))) (hd : decode (mB y) pc = .ok (.astore k, 2)) (h : AtP g d y Q (pc + 2) (setl ls k (some (.inr (.inr v)))) t I R nx) : AtP g d y Q pc ls (.inr (.inr v) :: t) I R nx := by
  intro x lv ad p e Rm s m args below meth c H locs lsC cells slots Z C ret hR hS hL hst hc hs
  cases v with
  | none =>
    refine lv_astoreN C.1 C.2.1 hd hL.has (Nat.lt_of_lt_of_le hk hL.2.2.1) rfl (fun ls' hl => ?_)
    exact h x lv ad p e Rm s m args below meth c H locs ls' cells slots Z C ret hR hS (hL.st hk hb (okh hst) hl) (okt hst) hc hs
  | some w =>
    refine lv_astore C.1 C.2.1 hd hL.has (Nat.lt_of_lt_of_le hk hL.2.2.1) rfl (fun ls' hl => ?_)
    exact h x lv ad p e Rm s m args below meth c H locs ls' cells slots Z C ret hR hS (hL.st hk hb (okh hst) hl) (okt hst) hc hs
theorem s_iinc {v n : Int} {k : Nat} (hn : nth ls k = some (.inl v)) (hk : (k : Nat) < ls.length) (hb : ∀ z, nth ls ((k : Nat) - 1) ≠ some (.inr (.inl z))) (hd : decode (mB y) pc = .ok (.iinc k n, 3)) (h : AtP g d y Q (pc + 3) (setl ls k (some (.inl (w32 (v + n))))) t I R nx) : AtP g d y Q pc ls t I R nx := by
  intro x lv ad p e Rm s m args below meth c H locs lsC cells slots Z C ret hR hS hL hst hc hs
  obtain ⟨j, hj⟩ := List.getElem?_of_mem (lcL_mem (ad := ad) hn)
  refine lv_iinc (v := Int32.ofInt (w32 (v + n))) C.1 C.2.1 hd hL.has hj (by rw [ofw32, Int32.ofInt_add]) (Nat.lt_of_lt_of_le hk hL.2.2.1) rfl (fun ls' hl => ?_)
  exact h x lv ad p e Rm s m args below meth c H locs ls' cells slots Z C ret hR hS (hL.st (v := .inl (w32 (v + n))) hk hb (i32_w32 _) hl) hst hc hs
theorem s_iincW {v n : Int} {k : Nat} (hn : nth ls k = some (.inl v)) (hk : (k : Nat) < ls.length) (hb : ∀ z, nth ls ((k : Nat) - 1) ≠ some (.inr (.inl z))) (hd : decode (mB y) pc = .ok (.iinc k n, 6)) (h : AtP g d y Q (pc + 6) (setl ls k (some (.inl (w32 (v + n))))) t I R nx) : AtP g d y Q pc ls t I R nx := by
  intro x lv ad p e Rm s m args below meth c H locs lsC cells slots Z C ret hR hS hL hst hc hs
  obtain ⟨j, hj⟩ := List.getElem?_of_mem (lcL_mem (ad := ad) hn)
  refine lv_iincW (v := Int32.ofInt (w32 (v + n))) C.1 C.2.1 hd hL.has hj (by rw [ofw32, Int32.ofInt_add]) (Nat.lt_of_lt_of_le hk hL.2.2.1) rfl (fun ls' hl => ?_)
  exact h x lv ad p e Rm s m args below meth c H locs ls' cells slots Z C ret hR hS (hL.st (v := .inl (w32 (v + n))) hk hb (i32_w32 _) hl) hst hc hs
theorem cnd_icmp (cc : ClassFile.Cond) {a b : Int} (ha : i32 a) (hb : i32 b) : (cnd cc a b ∨ ncd cc a b) ∧ True := by
  refine ⟨?_, trivial⟩
  cases cc <;> simp only [cnd, ncd] <;> omega
theorem s_icmp_eq {a b off : Int} {tgt : Nat} (hd : decode (mB y) pc = .ok (.if_icmp .eq off, 3)) (ht : (pc : Int) + off = (tgt : Int)) (h1 : cnd .eq a b → AtP g d y Q tgt ls t I R nx) (h2 : ncd .eq a b → AtP g d y Q (pc + 3) ls t I R nx) : AtP g d y Q pc ls (.inl b :: .inl a :: t) I R nx := by
  intro x lv ad p e Rm s m args below meth c H locs lsC cells slots Z C ret hR hS hL hst hc hs
  have ha : i32 a := okh (okt hst)
  have hb : i32 b := okh hst
  have kt : cnd .eq a b → _ := fun q => h1 q x lv ad p e Rm s m args below meth c H locs lsC cells slots Z C ret hR hS hL (okt (okt hst)) hc hs
  have kf : ncd .eq a b → _ := fun q => h2 q x lv ad p e Rm s m args below meth c H locs lsC cells slots Z C ret hR hS hL (okt (okt hst)) hc hs
  exact lv_icmp_eq C.1 C.2.1 hd ht (fun q => kt ((ofI_inj ha hb).mp q)) (fun q => kf (fun z => q ((ofI_inj ha hb).mpr z)))
theorem s_if_eq {a off : Int} {tgt : Nat} (hd : decode (mB y) pc = .ok (.ifCond .eq off, 3)) (ht : (pc : Int) + off = (tgt : Int)) (h1 : cnd .eq a 0 → AtP g d y Q tgt ls t I R nx) (h2 : ncd .eq a 0 → AtP g d y Q (pc + 3) ls t I R nx) : AtP g d y Q pc ls (.inl a :: t) I R nx := by
  intro x lv ad p e Rm s m args below meth c H locs lsC cells slots Z C ret hR hS hL hst hc hs
  have ha : i32 a := okh hst
  have hb : i32 0 := i32_0
  have kt : cnd .eq a 0 → _ := fun q => h1 q x lv ad p e Rm s m args below meth c H locs lsC cells slots Z C ret hR hS hL (okt hst) hc hs
  have kf : ncd .eq a 0 → _ := fun q => h2 q x lv ad p e Rm s m args below meth c H locs lsC cells slots Z C ret hR hS hL (okt hst) hc hs
  exact lv_if_eq C.1 C.2.1 hd ht (fun q => kt ((ofI_inj ha hb).mp q)) (fun q => kf (fun z => q ((ofI_inj ha hb).mpr z)))
theorem s_icmp_ne {a b off : Int} {tgt : Nat} (hd : decode (mB y) pc = .ok (.if_icmp .ne off, 3)) (ht : (pc : Int) + off = (tgt : Int)) (h1 : cnd .ne a b → AtP g d y Q tgt ls t I R nx) (h2 : ncd .ne a b → AtP g d y Q (pc + 3) ls t I R nx) : AtP g d y Q pc ls (.inl b :: .inl a :: t) I R nx := by
  intro x lv ad p e Rm s m args below meth c H locs lsC cells slots Z C ret hR hS hL hst hc hs
  have ha : i32 a := okh (okt hst)
  have hb : i32 b := okh hst
  have kt : cnd .ne a b → _ := fun q => h1 q x lv ad p e Rm s m args below meth c H locs lsC cells slots Z C ret hR hS hL (okt (okt hst)) hc hs
  have kf : ncd .ne a b → _ := fun q => h2 q x lv ad p e Rm s m args below meth c H locs lsC cells slots Z C ret hR hS hL (okt (okt hst)) hc hs
  exact lv_icmp_ne C.1 C.2.1 hd ht (fun q => kt (fun z => q ((ofI_inj ha hb).mpr z))) (fun q => kf ((ofI_inj ha hb).mp q))
theorem s_if_ne {a off : Int} {tgt : Nat} (hd : decode (mB y) pc = .ok (.ifCond .ne off, 3)) (ht : (pc : Int) + off = (tgt : Int)) (h1 : cnd .ne a 0 → AtP g d y Q tgt ls t I R nx) (h2 : ncd .ne a 0 → AtP g d y Q (pc + 3) ls t I R nx) : AtP g d y Q pc ls (.inl a :: t) I R nx := by
  intro x lv ad p e Rm s m args below meth c H locs lsC cells slots Z C ret hR hS hL hst hc hs
  have ha : i32 a := okh hst
  have hb : i32 0 := i32_0
  have kt : cnd .ne a 0 → _ := fun q => h1 q x lv ad p e Rm s m args below meth c H locs lsC cells slots Z C ret hR hS hL (okt hst) hc hs
  have kf : ncd .ne a 0 → _ := fun q => h2 q x lv ad p e Rm s m args below meth c H locs lsC cells slots Z C ret hR hS hL (okt hst) hc hs
  exact lv_if_ne C.1 C.2.1 hd ht (fun q => kt (fun z => q ((ofI_inj ha hb).mpr z))) (fun q => kf ((ofI_inj ha hb).mp q))
theorem s_icmp_lt {a b off : Int} {tgt : Nat} (hd : decode (mB y) pc = .ok (.if_icmp .lt off, 3)) (ht : (pc : Int) + off = (tgt : Int)) (h1 : cnd .lt a b → AtP g d y Q tgt ls t I R nx) (h2 : ncd .lt a b → AtP g d y Q (pc + 3) ls t I R nx) : AtP g d y Q pc ls (.inl b :: .inl a :: t) I R nx := by
  intro x lv ad p e Rm s m args below meth c H locs lsC cells slots Z C ret hR hS hL hst hc hs
  have ha : i32 a := okh (okt hst)
  have hb : i32 b := okh hst
  have kt : cnd .lt a b → _ := fun q => h1 q x lv ad p e Rm s m args below meth c H locs lsC cells slots Z C ret hR hS hL (okt (okt hst)) hc hs
  have kf : ncd .lt a b → _ := fun q => h2 q x lv ad p e Rm s m args below meth c H locs lsC cells slots Z C ret hR hS hL (okt (okt hst)) hc hs
  exact lv_icmp_lt C.1 C.2.1 hd ht (fun q => kt ((ofI_lt ha hb).mp q)) (fun q => kf (Int.not_lt.mp fun z => q ((ofI_lt ha hb).mpr z)))
theorem s_if_lt {a off : Int} {tgt : Nat} (hd : decode (mB y) pc = .ok (.ifCond .lt off, 3)) (ht : (pc : Int) + off = (tgt : Int)) (h1 : cnd .lt a 0 → AtP g d y Q tgt ls t I R nx) (h2 : ncd .lt a 0 → AtP g d y Q (pc + 3) ls t I R nx) : AtP g d y Q pc ls (.inl a :: t) I R nx := by
  intro x lv ad p e Rm s m args below meth c H locs lsC cells slots Z C ret hR hS hL hst hc hs
  have ha : i32 a := okh hst
  have hb : i32 0 := i32_0
  have kt : cnd .lt a 0 → _ := fun q => h1 q x lv ad p e Rm s m args below meth c H locs lsC cells slots Z C ret hR hS hL (okt hst) hc hs
  have kf : ncd .lt a 0 → _ := fun q => h2 q x lv ad p e Rm s m args below meth c H locs lsC cells slots Z C ret hR hS hL (okt hst) hc hs
  exact lv_if_lt C.1 C.2.1 hd ht (fun q => kt ((ofI_lt ha hb).mp q)) (fun q => kf (Int.not_lt.mp fun z => q ((ofI_lt ha hb).mpr z)))
theorem s_icmp_ge {a b off : Int} {tgt : Nat} (hd : decode (mB y) pc = .ok (.if_icmp .ge off, 3)) (ht : (pc : Int) + off = (tgt : Int)) (h1 : cnd .ge a b → AtP g d y Q tgt ls t I R nx) (h2 : ncd .ge a b → AtP g d y Q (pc + 3) ls t I R nx) : AtP g d y Q pc ls (.inl b :: .inl a :: t) I R nx := by
  intro x lv ad p e Rm s m args below meth c H locs lsC cells slots Z C ret hR hS hL hst hc hs
  have ha : i32 a := okh (okt hst)
  have hb : i32 b := okh hst
  have kt : cnd .ge a b → _ := fun q => h1 q x lv ad p e Rm s m args below meth c H locs lsC cells slots Z C ret hR hS hL (okt (okt hst)) hc hs
  have kf : ncd .ge a b → _ := fun q => h2 q x lv ad p e Rm s m args below meth c H locs lsC cells slots Z C ret hR hS hL (okt (okt hst)) hc hs
  exact lv_icmp_ge C.1 C.2.1 hd ht (fun q => kt ((ofI_le hb ha).mp q)) (fun q => kf (Int.not_le.mp fun z => q ((ofI_le hb ha).mpr z)))
theorem s_if_ge {a off : Int} {tgt : Nat} (hd : decode (mB y) pc = .ok (.ifCond .ge off, 3)) (ht : (pc : Int) + off = (tgt : Int)) (h1 : cnd .ge a 0 → AtP g d y Q tgt ls t I R nx) (h2 : ncd .ge a 0 → AtP g d y Q (pc + 3) ls t I R nx) : AtP g d y Q pc ls (.inl a :: t) I R nx := by
  intro x lv ad p e Rm s m args below meth c H locs lsC cells slots Z C ret hR hS hL hst hc hs
  have ha : i32 a := okh hst
  have hb : i32 0 := i32_0
  have kt : cnd .ge a 0 → _ := fun q => h1 q x lv ad p e Rm s m args below meth c H locs lsC cells slots Z C ret hR hS hL (okt hst) hc hs
  have kf : ncd .ge a 0 → _ := fun q => h2 q x lv ad p e Rm s m args below meth c H locs lsC cells slots Z C ret hR hS hL (okt hst) hc hs
  exact lv_if_ge C.1 C.2.1 hd ht (fun q => kt ((ofI_le hb ha).mp q)) (fun q => kf (Int.not_le.mp fun z => q ((ofI_le hb ha).mpr z)))
theorem s_icmp_gt {a b off : Int} {tgt : Nat} (hd : decode (mB y) pc = .ok (.if_icmp .gt off, 3)) (ht : (pc : Int) + off = (tgt : Int)) (h1 : cnd .gt a b → AtP g d y Q tgt ls t I R nx) (h2 : ncd .gt a b → AtP g d y Q (pc + 3) ls t I R nx) : AtP g d y Q pc ls (.inl b :: .inl a :: t) I R nx := by
  intro x lv ad p e Rm s m args below meth c H locs lsC cells slots Z C ret hR hS hL hst hc hs
  have ha : i32 a := okh (okt hst)
  have hb : i32 b := okh hst
  have kt : cnd .gt a b → _ := fun q => h1 q x lv ad p e Rm s m args below meth c H locs lsC cells slots Z C ret hR hS hL (okt (okt hst)) hc hs
  have kf : ncd .gt a b → _ := fun q => h2 q x lv ad p e Rm s m args below meth c H locs lsC cells slots Z C ret hR hS hL (okt (okt hst)) hc hs
  exact lv_icmp_gt C.1 C.2.1 hd ht (fun q => kt ((ofI_lt hb ha).mp q)) (fun q => kf (Int.not_lt.mp fun z => q ((ofI_lt hb ha).mpr z)))
theorem s_if_gt {a off : Int} {tgt : Nat} (hd : decode (mB y) pc = .ok (.ifCond .gt off, 3)) (ht : (pc : Int) + off = (tgt : Int)) (h1 : cnd .gt a 0 → AtP g d y Q tgt ls t I R nx) (h2 : ncd .gt a 0 → AtP g d y Q (pc + 3) ls t I R nx) : AtP g d y Q pc ls (.inl a :: t) I R nx := by
  intro x lv ad p e Rm s m args below meth c H locs lsC cells slots Z C ret hR hS hL hst hc hs
  have ha : i32 a := okh hst
  have hb : i32 0 := i32_0
  have kt : cnd .gt a 0 → _ := fun q => h1 q x lv ad p e Rm s m args below meth c H locs lsC cells slots Z C ret hR hS hL (okt hst) hc hs
  have kf : ncd .gt a 0 → _ := fun q => h2 q x lv ad p e Rm s m args below meth c H locs lsC cells slots Z C ret hR hS hL (okt hst) hc hs
  exact lv_if_gt C.1 C.2.1 hd ht (fun q => kt ((ofI_lt hb ha).mp q)) (fun q => kf (Int.not_lt.mp fun z => q ((ofI_lt hb ha).mpr z)))
theorem s_icmp_le {a b off : Int} {tgt : Nat} (hd : decode (mB y) pc = .ok (.if_icmp .le off, 3)) (ht : (pc : Int) + off = (tgt : Int)) (h1 : cnd .le a b → AtP g d y Q tgt ls t I R nx) (h2 : ncd .le a b → AtP g d y Q (pc + 3) ls t I R nx) : AtP g d y Q pc ls (.inl b :: .inl a :: t) I R nx := by
  intro x lv ad p e Rm s m args below meth c H locs lsC cells slots Z C ret hR hS hL hst hc hs
  have ha : i32 a := okh (okt hst)
  have hb : i32 b := okh hst
  have kt : cnd .le a b → _ := fun q => h1 q x lv ad p e Rm s m args below meth c H locs lsC cells slots Z C ret hR hS hL (okt (okt hst)) hc hs
  have kf : ncd .le a b → _ := fun q => h2 q x lv ad p e Rm s m args below meth c H locs lsC cells slots Z C ret hR hS hL (okt (okt hst)) hc hs
  exact lv_icmp_le C.1 C.2.1 hd ht (fun q => kt ((ofI_le ha hb).mp q)) (fun q => kf (Int.not_le.mp fun z => q ((ofI_le ha hb).mpr z)))
theorem s_if_le {a off : Int} {tgt : Nat} (hd : decode (mB y) pc = .ok (.ifCond .le off, 3)) (ht : (pc : Int) + off = (tgt : Int)) (h1 : cnd .le a 0 → AtP g d y Q tgt ls t I R nx) (h2 : ncd .le a 0 → AtP g d y Q (pc + 3) ls t I R nx) : AtP g d y Q pc ls (.inl a :: t) I R nx := by
  intro x lv ad p e Rm s m args below meth c H locs lsC cells slots Z C ret hR hS hL hst hc hs
  have ha : i32 a := okh hst
  have hb : i32 0 := i32_0
  have kt : cnd .le a 0 → _ := fun q => h1 q x lv ad p e Rm s m args below meth c H locs lsC cells slots Z C ret hR hS hL (okt hst) hc hs
  have kf : ncd .le a 0 → _ := fun q => h2 q x lv ad p e Rm s m args below meth c H locs lsC cells slots Z C ret hR hS hL (okt hst) hc hs
  exact lv_if_le C.1 C.2.1 hd ht (fun q => kt ((ofI_le ha hb).mp q)) (fun q => kf (Int.not_le.mp fun z => q ((ofI_le ha hb).mpr z)))
theorem s_goto {off : Int} {tgt : Nat} (hd : decode (mB y) pc = .ok (.goto off, 3)) (ht : (pc : Int) + off = (tgt : Int)) (h : AtP g d y Q tgt ls t I R nx) : AtP g d y Q pc ls t I R nx := by
  intro x lv ad p e Rm s m args below meth c H locs lsC cells slots Z C ret hR hS hL hst hc hs
  exact lv_goto C.1 C.2.1 hd ht (h x lv ad p e Rm s m args below meth c H locs lsC cells slots Z C ret hR hS hL hst hc hs)
theorem s_ifnonnull {r : Option Nat} {off : Int} {tgt : Nat} (hd : decode (mB y) pc = .ok (.ifnonnull off, 3)) (ht : (pc : Int) + off = (tgt : Int)) (h1 : r ≠ none → AtP g d y Q tgt ls t I R nx) (h2 : r = none → AtP g d y Q (pc + 3) ls t I R nx) : AtP g d y Q pc ls (.inr (.inr r) :: t) I R nx := by
  intro x lv ad p e Rm s m args below meth c H locs lsC cells slots Z C ret hR hS hL hst hc hs
  cases r with
  | none => exact lv_ifnonnullN C.1 C.2.1 hd (h2 rfl x lv ad p e Rm s m args below meth c H locs lsC cells slots Z C ret hR hS hL (okt hst) hc hs)
  | some o => exact lv_ifnonnull C.1 C.2.1 hd ht (h1 (by simp) x lv ad p e Rm s m args below meth c H locs lsC cells slots Z C ret hR hS hL (okt hst) hc hs)
theorem s_tsO {a dflt lo hi : Int} {offs : Array Int} {len tgt : Nat} (hd : decode (mB y) pc = .ok (.tableswitch dflt lo hi offs, len)) (hx : a < lo ∨ hi < a) (ht : (pc : Int) + dflt = (tgt : Int)) (h : AtP g d y Q tgt ls t I R nx) : AtP g d y Q pc ls (.inl a :: t) I R nx := by
  intro x lv ad p e Rm s m args below meth c H locs lsC cells slots Z C ret hR hS hL hst hc hs
  have ha : i32 a := okh hst
  exact lv_tableOut C.1 C.2.1 hd (by rw [i32_toInt ha]; exact hx) ht (h x lv ad p e Rm s m args below meth c H locs lsC cells slots Z C ret hR hS hL (okt hst) hc hs)
theorem s_tsI {a dflt lo hi off : Int} {offs : Array Int} {len tgt : Nat} (hd : decode (mB y) pc = .ok (.tableswitch dflt lo hi offs, len)) (h1 : ¬ a < lo) (h2 : ¬ hi < a) (ho : offs[(a - lo).toNat]? = some off) (ht : (pc : Int) + off = (tgt : Int)) (h : AtP g d y Q tgt ls t I R nx) : AtP g d y Q pc ls (.inl a :: t) I R nx := by
  intro x lv ad p e Rm s m args below meth c H locs lsC cells slots Z C ret hR hS hL hst hc hs
  have ha : i32 a := okh hst
  exact lv_tableIn C.1 C.2.1 hd (by rw [i32_toInt ha]; exact h1) (by rw [i32_toInt ha]; exact h2) (by rw [i32_toInt ha]; exact ho) ht (h x lv ad p e Rm s m args below meth c H locs lsC cells slots Z C ret hR hS hL (okt hst) hc hs)
theorem s_lcmp {a b : Int} (hd : decode (mB y) pc = .ok (.lcmp, 1)) (k : AtP g d y Q (pc + 1) ls (.inl (if a < b then -1 else if a = b then 0 else 1) :: t) I R nx) : AtP g d y Q pc ls (.inr (.inl b) :: .inr (.inl a) :: t) I R nx := by
  intro x lv ad p e Rm s m args below meth c H locs lsC cells slots Z C ret hR hS hL hst hc hs
  have ha : i64 a := okh (okt hst)
  have hb : i64 b := okh hst
  have h3 : i32 (if a < b then -1 else if a = b then 0 else 1) := by
    split
    · exact ⟨by decide, by decide⟩
    · split <;> exact ⟨by decide, by decide⟩
  have k2 := k x lv ad p e Rm s m args below meth c H locs lsC cells slots Z C ret hR hS hL (okc (v := .inl (if a < b then -1 else if a = b then 0 else 1)) h3 (okt (okt hst))) hc hs
  refine W.lcmp C.1 C.2.1 hd ?_
  have e1 : Int64.ofInt a < Int64.ofInt b ↔ a < b := by rw [Int64.lt_iff_toInt_lt, i64_toInt ha, i64_toInt hb]
  have e2 : Int64.ofInt a = Int64.ofInt b ↔ a = b := ⟨fun h => by rw [← i64_toInt ha, h, i64_toInt hb], fun h => h ▸ rfl⟩
  have e3 : Int64.ofInt b < Int64.ofInt a ↔ b < a := by rw [Int64.lt_iff_toInt_lt, i64_toInt ha, i64_toInt hb]
  have e4 : Int32.ofInt (if a < b then -1 else if a = b then 0 else 1) = lg_cmp (Int64.ofInt a) (Int64.ofInt b) := by
    unfold lg_cmp
    simp only [e1, e2, e3]
    by_cases q1 : a < b
    · have q2 : ¬ b < a := by omega
      have q3 : ¬ a = b := by omega
      simp only [q1, q2, q3, if_true, if_false]
      rfl
    · by_cases q3 : a = b
      · have q2 : ¬ b < a := by omega
        simp only [q1, q2, q3, if_true, if_false, Int.lt_irrefl]
        rfl
      · have q2 : b < a := by omega
        simp only [q1, q2, q3, if_true, if_false]
        rfl
  rw [← e4]
  exact k2
theorem s_dup {v : AV} (hv : ∀ z, v ≠ .inr (.inl z)) (hd : decode (mB y) pc = .ok (.dup, 1)) (k : AtP g d y Q (pc + 1) ls (v :: v :: t) I R nx) : AtP g d y Q pc ls (v :: t) I R nx := by
  intro x lv ad p e Rm s m args below meth c H locs lsC cells slots Z C ret hR hS hL hst hc hs
  exact lv_dup C.1 C.2.1 hd (rl_cat hv) (k x lv ad p e Rm s m args below meth c H locs lsC cells slots Z C ret hR hS hL (okc (okh hst) hst) hc hs)
theorem s_dup2 {v w : AV} (hv : ∀ z, v ≠ .inr (.inl z)) (hw : ∀ z, w ≠ .inr (.inl z)) (hd : decode (mB y) pc = .ok (.dup2, 1)) (k : AtP g d y Q (pc + 1) ls (v :: w :: v :: w :: t) I R nx) : AtP g d y Q pc ls (v :: w :: t) I R nx := by
  intro x lv ad p e Rm s m args below meth c H locs lsC cells slots Z C ret hR hS hL hst hc hs
  exact lv_dup2_11 C.1 C.2.1 hd (rl_cat hv) (rl_cat hw) (k x lv ad p e Rm s m args below meth c H locs lsC cells slots Z C ret hR hS hL (okc (okh hst) (okc (okh (okt hst)) hst)) hc hs)
theorem ofI_cl {j : Int} (h : i32 j) : (Int32.ofInt j).toNatClampNeg = j.toNat := by
  show (Int32.ofInt j).toInt.toNat = j.toNat
  rw [i32_toInt h]
theorem ofI_in {j : Int} {n : Nat} (h : i32 j) (h0 : 0 ≤ j) (h1 : j < n) : vp_in (Int32.ofInt j) n := vp_in_iff.mpr (by rw [i32_toInt h]; exact ⟨h0, h1⟩)
theorem Ent.co {tys ad I R I' R' o e} (hI : I' o = I o) (hR : R' o = R o) (h : Ent tys ad I R o e) : Ent tys ad I' R' o e := by
  unfold Ent at h ⊢
  simp only [flds, fvl, hI, hR] at h ⊢
  exact h
theorem Wld.put {x lv ad I R U H tys ws pos o e' I' R' H1} (h : Wld x lv ad I R U H tys ws pos) (ho : lv o) (hs : (shp o).1 < 7) (hE : Ent tys ad I' R' o e') (hI : ∀ o', o' ≠ o → I' o' = I o' ∧ R' o' = R o') (hP : va_P x.1 vwCl (ws.set (pos o) (ad o, e')) H1) (hD : va_D (fun q => x.2.1 ≤ q) (ws.set (pos o) (ad o, e'))) : Wld x lv ad I' R' U H1 tys (ws.set (pos o) (ad o, e')) pos := by
  obtain ⟨hK, -, -, hEn, hi⟩ := h
  refine ⟨hK, hP, hD, fun o' ho' hs' => ?_, hi⟩
  by_cases e : o' = o
  · subst e
    obtain ⟨e0, he0, -⟩ := hEn _ ho hs
    have hl := (List.getElem?_eq_some_iff.mp he0).1
    exact ⟨e', by rw [List.getElem?_set_self hl], hE⟩
  · obtain ⟨e0, he0, h0⟩ := hEn _ ho' hs'
    exact ⟨e0, by rw [List.getElem?_set_ne (fun z => e (hi o' o ho' ho hs' hs z.symm))]; exact he0, h0.co (hI o' e).1 (hI o' e).2⟩
theorem Rp.put {x lv ad I R nx U H tys ws pos o e' I' R' H1} (hR : Rp x lv ad I R nx U H) (h : Wld x lv ad I R U H tys ws pos) (ho : lv o) (hs : (shp o).1 < 7) (hE : Ent tys ad I' R' o e') (hI : ∀ o', o' ≠ o → I' o' = I o' ∧ R' o' = R o') (hz : x.2.1 ≤ H1.size) (hr : ∀ k, rng o k (I' o k)) (hrf : ∀ k j, k < rsz o → R' o k = some j → lv j) (hP : va_P x.1 vwCl (ws.set (pos o) (ad o, e')) H1) (hD : va_D (fun q => x.2.1 ≤ q) (ws.set (pos o) (ad o, e'))) : Rp x lv ad I' R' nx U H1 := by
  obtain ⟨-, hn, hnx, hrg, hrf0, hsp, -⟩ := hR
  refine ⟨hz, hn, fun i hi => ⟨(hnx i hi).1, fun k => ?_⟩, fun o' k => ?_, fun o' k j ho' hk hj => ?_, hsp, tys, _, pos, h.put ho hs hE hI hP hD⟩
  · have e : i ≠ o := fun z => (hnx i hi).1 (z ▸ ho)
    rw [(hI i e).1, (hI i e).2]
    exact (hnx i hi).2 k
  · by_cases e : o' = o
    · subst e; exact hr k
    · rw [(hI o' e).1]; exact hrg o' k
  · by_cases e : o' = o
    · subst e; exact hrf k j hk hj
    · rw [(hI o' e).2] at hj; exact hrf0 o' k j ho' hk hj
theorem upI_ne {I : MI} {o k v o'} (h : o' ≠ o) : upI I o k v o' = I o' := by simp [upI, h]
theorem upI_eq {I : MI} {o k v k'} : upI I o k v o k' = if k' = k then v else I o k' := by simp [upI]
theorem upR_ne {I : MR} {o k v o'} (h : o' ≠ o) : upR I o k v o' = I o' := by simp [upR, h]
theorem upR_eq {I : MR} {o k v k'} : upR I o k v o k' = if k' = k then v else I o k' := by simp [upR]
theorem Ext.put {lv ad I R nx I' R'} {o : Nat} (ho : lv o) (hI : ∀ o', o' ≠ o → I' o' = I o' ∧ R' o' = R o') : Ext lv ad I R nx lv ad I' R' nx :=
  ⟨fun _ h => ⟨h, rfl⟩, fun _ h => Or.inl h, fun _ h => h, fun i h => ⟨(hI i (fun z => h (z ▸ ho))).1, fun k _ => congrFun (hI i (fun z => h (z ▸ ho))).2 k⟩⟩

theorem s_iald {j : Int} {o n : Nat} (hs7 : shp o = (1, n)) (h0 : 0 ≤ j) (h1 : j < n) (hd : decode (mB y) pc = .ok (.iaload, 1)) (k : AtP g d y Q (pc + 1) ls (.inl (I o j.toNat) :: t) I R nx) : AtP g d y Q pc ls (.inl j :: .inr (.inr (some o)) :: t) I R nx := by
  intro x lv ad p e Rm s m args below meth c H locs lsC cells slots Z C ret hR hS hL hst hc hs
  have hj : i32 j := okh hst
  have ho : lv o := okh (okt hst)
  obtain ⟨tys, ws, pos, hWd⟩ := hR.2.2.2.2.2.2
  obtain ⟨e0, he, hE⟩ := hWd.2.2.2.1 o ho (by rw [hs7]; exact Nat.le_of_ble_eq_true rfl)
  simp only [Ent, hs7] at hE
  obtain ⟨t0, cA, ht, rfl⟩ := hE
  refine va_iald C.1 C.2.1 hWd.1 hWd.2.1 (pos o) t0 he ht (ofI_in hj h0 h1) hd ?_
  rw [ofI_cl hj]
  have hr : i32 (I o j.toNat) := by have := hR.2.2.2.1 o j.toNat; simp only [rng, hs7] at this; exact this
  exact k x lv ad p e Rm s m args below meth c H locs lsC cells slots Z C ret hR hS hL (okc hr (okt (okt hst))) hc hs
theorem s_bald {j : Int} {o n : Nat} (hs7 : shp o = (2, n)) (h0 : 0 ≤ j) (h1 : j < n) (hd : decode (mB y) pc = .ok (.baload, 1)) (k : AtP g d y Q (pc + 1) ls (.inl (I o j.toNat) :: t) I R nx) : AtP g d y Q pc ls (.inl j :: .inr (.inr (some o)) :: t) I R nx := by
  intro x lv ad p e Rm s m args below meth c H locs lsC cells slots Z C ret hR hS hL hst hc hs
  have hj : i32 j := okh hst
  have ho : lv o := okh (okt hst)
  obtain ⟨tys, ws, pos, hWd⟩ := hR.2.2.2.2.2.2
  obtain ⟨e0, he, hE⟩ := hWd.2.2.2.1 o ho (by rw [hs7]; exact Nat.le_of_ble_eq_true rfl)
  simp only [Ent, hs7] at hE
  obtain ⟨t0, cA, ht, rfl⟩ := hE
  refine va_bald C.1 C.2.1 hWd.1 hWd.2.1 (pos o) t0 he ht (ofI_in hj h0 h1) hd ?_
  rw [ofI_cl hj]
  have hr : i32 (I o j.toNat) := by have := hR.2.2.2.1 o j.toNat; simp only [rng, hs7] at this; exact ⟨by omega, by omega⟩
  exact k x lv ad p e Rm s m args below meth c H locs lsC cells slots Z C ret hR hS hL (okc hr (okt (okt hst))) hc hs
theorem s_zald {j : Int} {o n : Nat} (hs7 : shp o = (3, n)) (h0 : 0 ≤ j) (h1 : j < n) (hd : decode (mB y) pc = .ok (.baload, 1)) (k : AtP g d y Q (pc + 1) ls (.inl (I o j.toNat) :: t) I R nx) : AtP g d y Q pc ls (.inl j :: .inr (.inr (some o)) :: t) I R nx := by
  intro x lv ad p e Rm s m args below meth c H locs lsC cells slots Z C ret hR hS hL hst hc hs
  have hj : i32 j := okh hst
  have ho : lv o := okh (okt hst)
  obtain ⟨tys, ws, pos, hWd⟩ := hR.2.2.2.2.2.2
  obtain ⟨e0, he, hE⟩ := hWd.2.2.2.1 o ho (by rw [hs7]; exact Nat.le_of_ble_eq_true rfl)
  simp only [Ent, hs7] at hE
  obtain ⟨t0, cA, ht, rfl⟩ := hE
  refine va_zald C.1 C.2.1 hWd.1 hWd.2.1 (pos o) t0 he ht (ofI_in hj h0 h1) hd ?_
  rw [ofI_cl hj]
  have hr : i32 (I o j.toNat) := by have := hR.2.2.2.1 o j.toNat; simp only [rng, hs7] at this; exact ⟨by omega, by omega⟩
  exact k x lv ad p e Rm s m args below meth c H locs lsC cells slots Z C ret hR hS hL (okc hr (okt (okt hst))) hc hs
theorem s_iast {v j : Int} {o n : Nat} (hs7 : shp o = (1, n)) (h0 : 0 ≤ j) (h1 : j < n) (hd : decode (mB y) pc = .ok (.iastore, 1)) (k : AtP g d y Q (pc + 1) ls t (upI I o j.toNat v) R nx) : AtP g d y Q pc ls (.inl v :: .inl j :: .inr (.inr (some o)) :: t) I R nx := by
  intro x lv ad p e Rm s m args below meth c H locs lsC cells slots Z C ret hR hS hL hst hc hs
  have hv : i32 v := okh hst
  have hj : i32 j := okh (okt hst)
  have ho : lv o := okh (okt (okt hst))
  obtain ⟨tys, ws, pos, hWd⟩ := hR.2.2.2.2.2.2
  obtain ⟨e0, he, hE⟩ := hWd.2.2.2.1 o ho (by rw [hs7]; exact Nat.le_of_ble_eq_true rfl)
  simp only [Ent, hs7] at hE
  obtain ⟨t0, cA, ht, rfl⟩ := hE
  have hI : ∀ o', o' ≠ o → upI I o j.toNat v o' = I o' ∧ R o' = R o' := fun o' q => ⟨upI_ne q, rfl⟩
  have hvv : Int32.ofInt v = Int32.ofInt v := rfl
  refine va_iast C.1 C.2.1 hWd.1 hWd.2.1 hWd.2.2.1 hS (pos o) t0 he ht (ofI_in hj h0 h1) hd (fun H1 locs1 hP1 hD1 hS1 => ?_)
  rw [ofI_cl hj] at hP1 hD1
  have hE1 : Ent tys ad (upI I o j.toNat v) R o (.inl (cA, n, .inl (upd (fun k => Int32.ofInt (I o k)) j.toNat (Int32.ofInt v)))) := by
    simp only [Ent, hs7]
    refine ⟨t0, cA, ht, ?_⟩
    congr 4
    funext k'
    rw [upI_eq]
    by_cases q : k' = j.toNat
    · subst q; rw [pk_us, if_pos rfl]
    · rw [pk_un q, if_neg q]
  have hr : ∀ k', rng o k' (upI I o j.toNat v o k') := by
    intro k'
    have h9 := hR.2.2.2.1 o k'
    simp only [rng, hs7] at h9 ⊢
    rw [upI_eq]
    split
    · exact hv
    · exact h9
  have hR1 := hR.put (I' := upI I o j.toNat v) (R' := R) hWd ho (by rw [hs7]; exact Nat.le_of_ble_eq_true rfl) hE1 hI (Nat.le_trans C.2.2.2.2.2.2.2.2 hS1.1) hr (fun k' q hk hq => hR.2.2.2.2.1 o k' q ho hk hq) hP1 hD1
  exact k x lv ad p e Rm s m args below meth c H1 locs1 lsC cells slots Z C (ret.step (Ext.put ho hI)) hR1 hS1 hL (okt (okt (okt hst))) hc hs
theorem s_bast {v j : Int} {o n : Nat} (hs7 : shp o = (2, n)) (h0 : 0 ≤ j) (h1 : j < n) (hd : decode (mB y) pc = .ok (.bastore, 1)) (k : AtP g d y Q (pc + 1) ls t (upI I o j.toNat (w8 v)) R nx) : AtP g d y Q pc ls (.inl v :: .inl j :: .inr (.inr (some o)) :: t) I R nx := by
  intro x lv ad p e Rm s m args below meth c H locs lsC cells slots Z C ret hR hS hL hst hc hs
  have hv : i32 v := okh hst
  have hj : i32 j := okh (okt hst)
  have ho : lv o := okh (okt (okt hst))
  obtain ⟨tys, ws, pos, hWd⟩ := hR.2.2.2.2.2.2
  obtain ⟨e0, he, hE⟩ := hWd.2.2.2.1 o ho (by rw [hs7]; exact Nat.le_of_ble_eq_true rfl)
  simp only [Ent, hs7] at hE
  obtain ⟨t0, cA, ht, rfl⟩ := hE
  have hI : ∀ o', o' ≠ o → upI I o j.toNat (w8 v) o' = I o' ∧ R o' = R o' := fun o' q => ⟨upI_ne q, rfl⟩
  have hvv : vp_nar .byte (Int32.ofInt v) = Int32.ofInt (w8 v) := by rw [vp_nar_byte, w8_eq, Int32.ofInt_toInt]
  refine va_bast C.1 C.2.1 hWd.1 hWd.2.1 hWd.2.2.1 hS (pos o) t0 he ht (ofI_in hj h0 h1) hd (fun H1 locs1 hP1 hD1 hS1 => ?_)
  rw [ofI_cl hj, hvv] at hP1 hD1
  have hE1 : Ent tys ad (upI I o j.toNat (w8 v)) R o (.inl (cA, n, .inl (upd (fun k => Int32.ofInt (I o k)) j.toNat (Int32.ofInt (w8 v))))) := by
    simp only [Ent, hs7]
    refine ⟨t0, cA, ht, ?_⟩
    congr 4
    funext k'
    rw [upI_eq]
    by_cases q : k' = j.toNat
    · subst q; rw [pk_us, if_pos rfl]
    · rw [pk_un q, if_neg q]
  have hr : ∀ k', rng o k' (upI I o j.toNat (w8 v) o k') := by
    intro k'
    have h9 := hR.2.2.2.1 o k'
    simp only [rng, hs7] at h9 ⊢
    rw [upI_eq]
    split
    · exact w8_r v
    · exact h9
  have hR1 := hR.put (I' := upI I o j.toNat (w8 v)) (R' := R) hWd ho (by rw [hs7]; exact Nat.le_of_ble_eq_true rfl) hE1 hI (Nat.le_trans C.2.2.2.2.2.2.2.2 hS1.1) hr (fun k' q hk hq => hR.2.2.2.2.1 o k' q ho hk hq) hP1 hD1
  exact k x lv ad p e Rm s m args below meth c H1 locs1 lsC cells slots Z C (ret.step (Ext.put ho hI)) hR1 hS1 hL (okt (okt (okt hst))) hc hs
theorem s_zast {v j : Int} {o n : Nat} (hs7 : shp o = (3, n)) (h0 : 0 ≤ j) (h1 : j < n) (hd : decode (mB y) pc = .ok (.bastore, 1)) (k : AtP g d y Q (pc + 1) ls t (upI I o j.toNat (v % 2)) R nx) : AtP g d y Q pc ls (.inl v :: .inl j :: .inr (.inr (some o)) :: t) I R nx := by
  intro x lv ad p e Rm s m args below meth c H locs lsC cells slots Z C ret hR hS hL hst hc hs
  have hv : i32 v := okh hst
  have hj : i32 j := okh (okt hst)
  have ho : lv o := okh (okt (okt hst))
  obtain ⟨tys, ws, pos, hWd⟩ := hR.2.2.2.2.2.2
  obtain ⟨e0, he, hE⟩ := hWd.2.2.2.1 o ho (by rw [hs7]; exact Nat.le_of_ble_eq_true rfl)
  simp only [Ent, hs7] at hE
  obtain ⟨t0, cA, ht, rfl⟩ := hE
  have hI : ∀ o', o' ≠ o → upI I o j.toNat (v % 2) o' = I o' ∧ R o' = R o' := fun o' q => ⟨upI_ne q, rfl⟩
  have hvv : vp_nar .boolean (Int32.ofInt v) = Int32.ofInt (v % 2) := narZ hv
  refine va_zast C.1 C.2.1 hWd.1 hWd.2.1 hWd.2.2.1 hS (pos o) t0 he ht (ofI_in hj h0 h1) hd (fun H1 locs1 hP1 hD1 hS1 => ?_)
  rw [ofI_cl hj, hvv] at hP1 hD1
  have hE1 : Ent tys ad (upI I o j.toNat (v % 2)) R o (.inl (cA, n, .inl (upd (fun k => Int32.ofInt (I o k)) j.toNat (Int32.ofInt (v % 2))))) := by
    simp only [Ent, hs7]
    refine ⟨t0, cA, ht, ?_⟩
    congr 4
    funext k'
    rw [upI_eq]
    by_cases q : k' = j.toNat
    · subst q; rw [pk_us, if_pos rfl]
    · rw [pk_un q, if_neg q]
  have hr : ∀ k', rng o k' (upI I o j.toNat (v % 2) o k') := by
    intro k'
    have h9 := hR.2.2.2.1 o k'
    simp only [rng, hs7] at h9 ⊢
    rw [upI_eq]
    split
    · exact ⟨by omega, by omega⟩
    · exact h9
  have hR1 := hR.put (I' := upI I o j.toNat (v % 2)) (R' := R) hWd ho (by rw [hs7]; exact Nat.le_of_ble_eq_true rfl) hE1 hI (Nat.le_trans C.2.2.2.2.2.2.2.2 hS1.1) hr (fun k' q hk hq => hR.2.2.2.2.1 o k' q ho hk hq) hP1 hD1
  exact k x lv ad p e Rm s m args below meth c H1 locs1 lsC cells slots Z C (ret.step (Ext.put ho hI)) hR1 hS1 hL (okt (okt (okt hst))) hc hs
theorem s_lald {j : Int} {o n : Nat} (hs7 : shp o = (4, n)) (h0 : 0 ≤ j) (h1 : j < n) (hd : decode (mB y) pc = .ok (.laload, 1)) (k : AtP g d y Q (pc + 1) ls (.inr (.inl (I o j.toNat)) :: t) I R nx) : AtP g d y Q pc ls (.inl j :: .inr (.inr (some o)) :: t) I R nx := by
  intro x lv ad p e Rm s m args below meth c H locs lsC cells slots Z C ret hR hS hL hst hc hs
  have hj : i32 j := okh hst
  have ho : lv o := okh (okt hst)
  obtain ⟨tys, ws, pos, hWd⟩ := hR.2.2.2.2.2.2
  obtain ⟨e0, he, hE⟩ := hWd.2.2.2.1 o ho (by rw [hs7]; exact Nat.le_of_ble_eq_true rfl)
  simp only [Ent, hs7] at hE
  obtain ⟨t0, cA, ht, rfl⟩ := hE
  refine va_lald C.1 C.2.1 hWd.1 hWd.2.1 (pos o) t0 he ht (ofI_in hj h0 h1) hd ?_
  rw [ofI_cl hj]
  have hr : i64 (I o j.toNat) := by have := hR.2.2.2.1 o j.toNat; simp only [rng, hs7] at this; exact this
  exact k x lv ad p e Rm s m args below meth c H locs lsC cells slots Z C ret hR hS hL (okc hr (okt (okt hst))) hc hs
theorem s_last {v j : Int} {o n : Nat} (hs7 : shp o = (4, n)) (h0 : 0 ≤ j) (h1 : j < n) (hd : decode (mB y) pc = .ok (.lastore, 1)) (k : AtP g d y Q (pc + 1) ls t (upI I o j.toNat v) R nx) : AtP g d y Q pc ls (.inr (.inl v) :: .inl j :: .inr (.inr (some o)) :: t) I R nx := by
  intro x lv ad p e Rm s m args below meth c H locs lsC cells slots Z C ret hR hS hL hst hc hs
  have hv : i64 v := okh hst
  have hj : i32 j := okh (okt hst)
  have ho : lv o := okh (okt (okt hst))
  obtain ⟨tys, ws, pos, hWd⟩ := hR.2.2.2.2.2.2
  obtain ⟨e0, he, hE⟩ := hWd.2.2.2.1 o ho (by rw [hs7]; exact Nat.le_of_ble_eq_true rfl)
  simp only [Ent, hs7] at hE
  obtain ⟨t0, cA, ht, rfl⟩ := hE
  have hI : ∀ o', o' ≠ o → upI I o j.toNat v o' = I o' ∧ R o' = R o' := fun o' q => ⟨upI_ne q, rfl⟩
  refine va_last C.1 C.2.1 hWd.1 hWd.2.1 hWd.2.2.1 hS (pos o) t0 he ht (ofI_in hj h0 h1) hd (fun H1 locs1 hP1 hD1 hS1 => ?_)
  rw [ofI_cl hj] at hP1 hD1
  have hE1 : Ent tys ad (upI I o j.toNat v) R o (.inl (cA, n, .inr (.inl (vp_updL (fun k => Int64.ofInt (I o k)) j.toNat (Int64.ofInt v))))) := by
    simp only [Ent, hs7]
    refine ⟨t0, cA, ht, ?_⟩
    congr 5
    funext k'
    rw [upI_eq]
    by_cases q : k' = j.toNat
    · subst q; rw [pk_uLs, if_pos rfl]
    · rw [pk_uLn q, if_neg q]
  have hr : ∀ k', rng o k' (upI I o j.toNat v o k') := by
    intro k'
    have h9 := hR.2.2.2.1 o k'
    simp only [rng, hs7] at h9 ⊢
    rw [upI_eq]
    split
    · exact hv
    · exact h9
  have hR1 := hR.put (I' := upI I o j.toNat v) (R' := R) hWd ho (by rw [hs7]; exact Nat.le_of_ble_eq_true rfl) hE1 hI (Nat.le_trans C.2.2.2.2.2.2.2.2 hS1.1) hr (fun k' q hk hq => hR.2.2.2.2.1 o k' q ho hk hq) hP1 hD1
  exact k x lv ad p e Rm s m args below meth c H1 locs1 lsC cells slots Z C (ret.step (Ext.put ho hI)) hR1 hS1 hL (okt (okt (okt hst))) hc hs
end STEPS2
