/-! fields, references in rows, the library's own -/
theorem flds_get {ad I R o ci k} (h : k < (clE ci).2.2) : (flds ad I R o ci)[k]? = some (fvl ad I R o (ci * 100 + k)) := by
  rw [flds, List.getElem?_map, List.getElem?_range h]; rfl
theorem flds_set {ad I R o ci k v I' R'} (hk : k < (clE ci).2.2) (h0 : fvl ad I' R' o (ci * 100 + k) = v) (h1 : ∀ k', k' < (clE ci).2.2 → k' ≠ k → fvl ad I' R' o (ci * 100 + k') = fvl ad I R o (ci * 100 + k')) : (flds ad I R o ci).set k v = flds ad I' R' o ci := by
  apply List.ext_getElem?
  intro i
  by_cases hi : i < (clE ci).2.2
  · rw [flds_get hi]
    by_cases q : i = k
    · subst q
      rw [List.getElem?_set_self (by rw [flds, List.length_map, List.length_range]; exact hi), h0]
    · rw [List.getElem?_set_ne (Ne.symm q), flds_get hi, h1 i hi q]
  · rw [List.getElem?_eq_none (by rw [List.length_set, flds, List.length_map, List.length_range]; omega), List.getElem?_eq_none (by rw [flds, List.length_map, List.length_range]; omega)]
theorem lkF_mem {q} (h : q ∈ lkF) : lkF_c q ∈ lwG ∧ q.2.2.1 / 100 < 12 ∧ q.2.2.1 % 100 < (clE (q.2.2.1 / 100)).2.2 := by
  have h1 := List.all_eq_true.mp lkF_r q h
  simp only [Bool.and_eq_true, decide_eq_true_eq] at h1
  exact ⟨inG_mem (List.all_eq_true.mp lkF_b q h), h1.1, h1.2⟩
theorem c100 (c : Nat) : c / 100 * 100 + c % 100 = c := by omega
theorem rl_rf (ad : Nat → Nat) (r : Option Nat) : rl ad (.inr (.inr r)) = va_rf (r.map ad) := by cases r <;> rfl
section STEPS3
variable {g : GX} {d y : Nat} {Q : Option AV → MI → MR → Prop} {pc : Nat} {ls : LV} {t : List AV} {I : MI} {R : MR} {nx : List Nat}
theorem s_getI {q : Nat × Nat × Nat × Nat} {o : Nat} (hq : q ∈ lkF) (hq1 : q.1 = mO y) (hk : fkd q.2.2.1 < 2) (hs7 : shp o = (0, q.2.2.1 / 100)) (hd : decode (mB y) pc = .ok (.getfield q.2.1, 3)) (k : AtP g d y Q (pc + 3) ls (.inl (I o (q.2.2.1 % 100)) :: t) I R nx) : AtP g d y Q pc ls (.inr (.inr (some o)) :: t) I R nx := by
  intro x lv ad p e Rm s m args below meth c H locs lsC cells slots Z C ret hR hS hL hst hc hs
  obtain ⟨hl, h12, hN⟩ := lkF_mem hq
  obtain ⟨x1, -, -, x4⟩ := inX _ h12
  have ho : lv o := okh hst
  obtain ⟨tys, ws, pos, hWd⟩ := hR.2.2.2.2.2.2
  obtain ⟨e0, he, hE⟩ := hWd.2.2.2.1 o ho (by rw [hs7]; exact Nat.le_of_ble_eq_true rfl)
  simp only [Ent, hs7] at hE
  obtain ⟨-, rfl⟩ := hE
  have hv : (flds ad I R o (q.2.2.1 / 100))[q.2.2.1 % 100]? = some (rl ad (.inl (I o (q.2.2.1 % 100)))) := by
    rw [flds_get hN, c100, fvl]
    rw [if_neg (by omega), if_neg (by omega)]; rfl
  have hv2 : okv lv (.inl (I o (q.2.2.1 % 100))) := by
    have h9 := hR.2.2.2.1 o (q.2.2.1 % 100)
    simp only [rng, hs7, c100] at h9
    rw [if_neg (by omega)] at h9
    exact h9
  refine va_get (N := (clE (q.2.2.1 / 100)).2.2) (C := (clE (q.2.2.1 / 100)).1) (T := (clE (q.2.2.1 / 100)).2.1) (own := cN (mO y)) (ref := (fT q.2.2.1).1) C.1 C.2.1 C.2.2.2.2.1 x1 C.2.2.2.1 hWd.1 hWd.2.1 (pos o) he x4 (q.2.2.1 % 100) hN ?_ (fun _ h => h) hv hd ?_
  · have h := C.2.2.2.2.1 _ hl
    rw [lkF_c, hq1] at h
    exact h
  · exact k x lv ad p e Rm s m args below meth c H locs lsC cells slots Z C ret hR hS hL (okc hv2 (okt hst)) hc hs
theorem s_getR {q : Nat × Nat × Nat × Nat} {o : Nat} (hq : q ∈ lkF) (hq1 : q.1 = mO y) (hk : fkd q.2.2.1 = 2) (hs7 : shp o = (0, q.2.2.1 / 100)) (hd : decode (mB y) pc = .ok (.getfield q.2.1, 3)) (k : AtP g d y Q (pc + 3) ls (.inr (.inr (R o (q.2.2.1 % 100))) :: t) I R nx) : AtP g d y Q pc ls (.inr (.inr (some o)) :: t) I R nx := by
  intro x lv ad p e Rm s m args below meth c H locs lsC cells slots Z C ret hR hS hL hst hc hs
  obtain ⟨hl, h12, hN⟩ := lkF_mem hq
  obtain ⟨x1, -, -, x4⟩ := inX _ h12
  have ho : lv o := okh hst
  obtain ⟨tys, ws, pos, hWd⟩ := hR.2.2.2.2.2.2
  obtain ⟨e0, he, hE⟩ := hWd.2.2.2.1 o ho (by rw [hs7]; exact Nat.le_of_ble_eq_true rfl)
  simp only [Ent, hs7] at hE
  obtain ⟨-, rfl⟩ := hE
  have hv : (flds ad I R o (q.2.2.1 / 100))[q.2.2.1 % 100]? = some (rl ad (.inr (.inr (R o (q.2.2.1 % 100))))) := by
    rw [flds_get hN, c100, fvl]
    rw [if_pos hk, rl_rf]
  have hv2 : okv lv (.inr (.inr (R o (q.2.2.1 % 100)))) := by
    match hz : R o (q.2.2.1 % 100) with
    | none => trivial
    | some j => exact hR.2.2.2.2.1 o (q.2.2.1 % 100) j ho (by rw [rsz, if_pos (by rw [hs7])]; omega) hz
  refine va_get (N := (clE (q.2.2.1 / 100)).2.2) (C := (clE (q.2.2.1 / 100)).1) (T := (clE (q.2.2.1 / 100)).2.1) (own := cN (mO y)) (ref := (fT q.2.2.1).1) C.1 C.2.1 C.2.2.2.2.1 x1 C.2.2.2.1 hWd.1 hWd.2.1 (pos o) he x4 (q.2.2.1 % 100) hN ?_ (fun _ h => h) hv hd ?_
  · have h := C.2.2.2.2.1 _ hl
    rw [lkF_c, hq1] at h
    exact h
  · exact k x lv ad p e Rm s m args below meth c H locs lsC cells slots Z C ret hR hS hL (okc hv2 (okt hst)) hc hs
theorem s_getL {q : Nat × Nat × Nat × Nat} {o : Nat} (hq : q ∈ lkF) (hq1 : q.1 = mO y) (hk : fkd q.2.2.1 = 3) (hs7 : shp o = (0, q.2.2.1 / 100)) (hd : decode (mB y) pc = .ok (.getfield q.2.1, 3)) (k : AtP g d y Q (pc + 3) ls (.inr (.inl (I o (q.2.2.1 % 100))) :: t) I R nx) : AtP g d y Q pc ls (.inr (.inr (some o)) :: t) I R nx := by
  intro x lv ad p e Rm s m args below meth c H locs lsC cells slots Z C ret hR hS hL hst hc hs
  obtain ⟨hl, h12, hN⟩ := lkF_mem hq
  obtain ⟨x1, -, -, x4⟩ := inX _ h12
  have ho : lv o := okh hst
  obtain ⟨tys, ws, pos, hWd⟩ := hR.2.2.2.2.2.2
  obtain ⟨e0, he, hE⟩ := hWd.2.2.2.1 o ho (by rw [hs7]; exact Nat.le_of_ble_eq_true rfl)
  simp only [Ent, hs7] at hE
  obtain ⟨-, rfl⟩ := hE
  have hv : (flds ad I R o (q.2.2.1 / 100))[q.2.2.1 % 100]? = some (rl ad (.inr (.inl (I o (q.2.2.1 % 100))))) := by
    rw [flds_get hN, c100, fvl]
    rw [if_neg (by omega), if_pos hk]; rfl
  have hv2 : okv lv (.inr (.inl (I o (q.2.2.1 % 100)))) := by
    have h9 := hR.2.2.2.1 o (q.2.2.1 % 100)
    simp only [rng, hs7, c100] at h9
    rw [if_pos hk] at h9
    exact h9
  refine va_get (N := (clE (q.2.2.1 / 100)).2.2) (C := (clE (q.2.2.1 / 100)).1) (T := (clE (q.2.2.1 / 100)).2.1) (own := cN (mO y)) (ref := (fT q.2.2.1).1) C.1 C.2.1 C.2.2.2.2.1 x1 C.2.2.2.1 hWd.1 hWd.2.1 (pos o) he x4 (q.2.2.1 % 100) hN ?_ (fun _ h => h) hv hd ?_
  · have h := C.2.2.2.2.1 _ hl
    rw [lkF_c, hq1] at h
    exact h
  · exact k x lv ad p e Rm s m args below meth c H locs lsC cells slots Z C ret hR hS hL (okc hv2 (okt hst)) hc hs
theorem s_putI {q : Nat × Nat × Nat × Nat} {o : Nat} {v : Int} (hq : q ∈ lkF) (hq1 : q.1 = mO y) (hk : fkd q.2.2.1 = 0) (hf : (fT q.2.2.1).2.2.2 = false ∨ ((mY y).name = "<init>" ∧ cN (mO y) = (fT q.2.2.1).1)) (hs7 : shp o = (0, q.2.2.1 / 100)) (hd : decode (mB y) pc = .ok (.putfield q.2.1, 3)) (k : AtP g d y Q (pc + 3) ls t (upI I o (q.2.2.1 % 100) v) (R) nx) : AtP g d y Q pc ls (.inl v :: .inr (.inr (some o)) :: t) I R nx := by
  intro x lv ad p e Rm s m args below meth c H locs lsC cells slots Z C ret hR hS hL hst hc hs
  obtain ⟨hl, h12, hN⟩ := lkF_mem hq
  obtain ⟨x1, x2, x3, x4⟩ := inX _ h12
  have hty := (clTy_k _ h12 _ hN).1
  have h100 := (clTy_k _ h12 _ hN).2
  rw [c100] at hty
  have k100 : ∀ {k' : Nat}, k' < (clE (q.2.2.1 / 100)).2.2 → (q.2.2.1 / 100 * 100 + k') % 100 = k' := fun h => by omega
  have ho : lv o := okh (okt hst)
  obtain ⟨tys, ws, pos, hWd⟩ := hR.2.2.2.2.2.2
  obtain ⟨e0, he, hE⟩ := hWd.2.2.2.1 o ho (by rw [hs7]; exact Nat.le_of_ble_eq_true rfl)
  simp only [Ent, hs7] at hE
  obtain ⟨-, rfl⟩ := hE
  have hI : ∀ o', o' ≠ o → (upI I o (q.2.2.1 % 100) v) o' = I o' ∧ (R) o' = R o' := fun o' q => ⟨upI_ne q, rfl⟩
  have hfit : narrow (clTy (q.2.2.1 / 100) (q.2.2.1 % 100)) (rl ad (.inl v)) = rl ad (.inl v) ∧ fits (clTy (q.2.2.1 / 100) (q.2.2.1 % 100)) (rl ad (.inl v)) = true := by
    have ht : clTy (q.2.2.1 / 100) (q.2.2.1 % 100) = .int := by
      cases hh : clTy (q.2.2.1 / 100) (q.2.2.1 % 100) <;> simp_all [tyK]
    rw [ht]; exact ⟨rfl, rfl⟩
  have hlk := C.2.2.2.2.1 _ hl
  rw [lkF_c, hq1] at hlk
  have hfl : (flds ad I R o (q.2.2.1 / 100)).set (q.2.2.1 % 100) (rl ad (.inl v)) = flds ad (upI I o (q.2.2.1 % 100) v) (R) o (q.2.2.1 / 100) := by
    refine flds_set hN ?_ (fun k' h9 h8 => ?_)
    · rw [c100, fvl]
      rw [if_neg (by omega), if_neg (by omega), upI_eq, if_pos rfl]; rfl
    · simp only [fvl, upI_eq, k100 h9, if_neg h8]
  have fin : ∀ (H1 : Heap) (locs1 : List Loc), va_P x.1 vwCl (ws.set (pos o) (ad o, .inr (q.2.2.1 / 100, (flds ad I R o (q.2.2.1 / 100)).set (q.2.2.1 % 100) (rl ad (.inl v))))) H1 → va_D (fun q => x.2.1 ≤ q) (ws.set (pos o) (ad o, .inr (q.2.2.1 / 100, (flds ad I R o (q.2.2.1 / 100)).set (q.2.2.1 % 100) (rl ad (.inl v))))) → va_S (fun q => x.2.1 ≤ q) s.heap H1 locs1 → W p g.1 e Rm s m args below meth c H1 locs1 cells slots Z (F0 m (pc + 3) lsC (t.map (rl ad))) := by
    intro H1 locs1 hP1 hD1 hS1
    rw [hfl] at hP1 hD1
    have hE1 : Ent tys ad (upI I o (q.2.2.1 % 100) v) (R) o (.inr (q.2.2.1 / 100, flds ad (upI I o (q.2.2.1 % 100) v) (R) o (q.2.2.1 / 100))) := by
      simp only [Ent, hs7]
      exact ⟨h12, trivial⟩
    have hR1 := hR.put (I' := upI I o (q.2.2.1 % 100) v) (R' := R) hWd ho (by rw [hs7]; exact Nat.le_of_ble_eq_true rfl) hE1 hI (Nat.le_trans C.2.2.2.2.2.2.2.2 hS1.1) (by
    intro k'
    have h9 := hR.2.2.2.1 o k'
    simp only [rng, hs7] at h9 ⊢
    rw [upI_eq]
    by_cases z : k' = q.2.2.1 % 100
    · rw [if_pos z]
      subst z
      rw [c100] at h9 ⊢
      rw [if_neg (by omega)]
      exact okh hst
    · rw [if_neg z]; exact h9) (fun k' j hk' hj => hR.2.2.2.2.1 o k' j ho hk' hj) hP1 hD1
    exact k x lv ad p e Rm s m args below meth c H1 locs1 lsC cells slots Z C (ret.step (Ext.put ho hI)) hR1 hS1 hL (okt (okt hst)) hc hs
  rcases hff : (fT q.2.2.1).2.2.2 with _ | _
  · skip
    refine va_put (N := (clE (q.2.2.1 / 100)).2.2) (C := (clE (q.2.2.1 / 100)).1) (T := (clE (q.2.2.1 / 100)).2.1) (own := cN (mO y)) (ref := (fT q.2.2.1).1) (v := rl ad (.inl v)) C.1 C.2.1 C.2.2.2.2.1 x1 _ x2 x3 C.2.2.2.1 hWd.1 hWd.2.1 hWd.2.2.1 hS (pos o) he x4 (q.2.2.1 % 100) hN hlk (fun _ h => h) hff (x2 _ hN) hfit.1 hfit.2 (by rw [flds, List.length_map, List.length_range]; exact hN) hd (fun H1 locs1 hP1 hD1 hS1 => ?_)
    exact fin H1 locs1 hP1 hD1 hS1
  · rcases hf with hf | ⟨hf1, hf2⟩
    · rw [hff] at hf; cases hf
    refine va_putF (N := (clE (q.2.2.1 / 100)).2.2) (C := (clE (q.2.2.1 / 100)).1) (T := (clE (q.2.2.1 / 100)).2.1) (own := cN (mO y)) (ref := (fT q.2.2.1).1) (v := rl ad (.inl v)) C.1 C.2.1 C.2.2.2.2.1 x1 _ x2 x3 C.2.2.2.1 hWd.1 hWd.2.1 hWd.2.2.1 hS (pos o) he x4 (q.2.2.1 % 100) hN hlk (fun _ h => h) hff (C.2.2.2.2.2.1 hf1) hf2.symm (x2 _ hN) hfit.1 hfit.2 (by rw [flds, List.length_map, List.length_range]; exact hN) hd (fun H1 locs1 hP1 hD1 hS1 => ?_)
    exact fin H1 locs1 hP1 hD1 hS1
theorem s_putZ {q : Nat × Nat × Nat × Nat} {o : Nat} {v : Int} (hq : q ∈ lkF) (hq1 : q.1 = mO y) (hk : fkd q.2.2.1 = 1) (hf : (fT q.2.2.1).2.2.2 = false ∨ ((mY y).name = "<init>" ∧ cN (mO y) = (fT q.2.2.1).1)) (hs7 : shp o = (0, q.2.2.1 / 100)) (hz : v = 0 ∨ v = 1) (hd : decode (mB y) pc = .ok (.putfield q.2.1, 3)) (k : AtP g d y Q (pc + 3) ls t (upI I o (q.2.2.1 % 100) v) (R) nx) : AtP g d y Q pc ls (.inl v :: .inr (.inr (some o)) :: t) I R nx := by
  intro x lv ad p e Rm s m args below meth c H locs lsC cells slots Z C ret hR hS hL hst hc hs
  obtain ⟨hl, h12, hN⟩ := lkF_mem hq
  obtain ⟨x1, x2, x3, x4⟩ := inX _ h12
  have hty := (clTy_k _ h12 _ hN).1
  have h100 := (clTy_k _ h12 _ hN).2
  rw [c100] at hty
  have k100 : ∀ {k' : Nat}, k' < (clE (q.2.2.1 / 100)).2.2 → (q.2.2.1 / 100 * 100 + k') % 100 = k' := fun h => by omega
  have ho : lv o := okh (okt hst)
  obtain ⟨tys, ws, pos, hWd⟩ := hR.2.2.2.2.2.2
  obtain ⟨e0, he, hE⟩ := hWd.2.2.2.1 o ho (by rw [hs7]; exact Nat.le_of_ble_eq_true rfl)
  simp only [Ent, hs7] at hE
  obtain ⟨-, rfl⟩ := hE
  have hI : ∀ o', o' ≠ o → (upI I o (q.2.2.1 % 100) v) o' = I o' ∧ (R) o' = R o' := fun o' q => ⟨upI_ne q, rfl⟩
  have hfit : narrow (clTy (q.2.2.1 / 100) (q.2.2.1 % 100)) (rl ad (.inl v)) = rl ad (.inl v) ∧ fits (clTy (q.2.2.1 / 100) (q.2.2.1 % 100)) (rl ad (.inl v)) = true := by
    have ht : clTy (q.2.2.1 / 100) (q.2.2.1 % 100) = .boolean := by
      cases hh : clTy (q.2.2.1 / 100) (q.2.2.1 % 100) <;> simp_all [tyK]
    rw [ht]; rcases hz with rfl | rfl <;> exact ⟨rfl, rfl⟩
  have hlk := C.2.2.2.2.1 _ hl
  rw [lkF_c, hq1] at hlk
  have hfl : (flds ad I R o (q.2.2.1 / 100)).set (q.2.2.1 % 100) (rl ad (.inl v)) = flds ad (upI I o (q.2.2.1 % 100) v) (R) o (q.2.2.1 / 100) := by
    refine flds_set hN ?_ (fun k' h9 h8 => ?_)
    · rw [c100, fvl]
      rw [if_neg (by omega), if_neg (by omega), upI_eq, if_pos rfl]; rfl
    · simp only [fvl, upI_eq, k100 h9, if_neg h8]
  have fin : ∀ (H1 : Heap) (locs1 : List Loc), va_P x.1 vwCl (ws.set (pos o) (ad o, .inr (q.2.2.1 / 100, (flds ad I R o (q.2.2.1 / 100)).set (q.2.2.1 % 100) (rl ad (.inl v))))) H1 → va_D (fun q => x.2.1 ≤ q) (ws.set (pos o) (ad o, .inr (q.2.2.1 / 100, (flds ad I R o (q.2.2.1 / 100)).set (q.2.2.1 % 100) (rl ad (.inl v))))) → va_S (fun q => x.2.1 ≤ q) s.heap H1 locs1 → W p g.1 e Rm s m args below meth c H1 locs1 cells slots Z (F0 m (pc + 3) lsC (t.map (rl ad))) := by
    intro H1 locs1 hP1 hD1 hS1
    rw [hfl] at hP1 hD1
    have hE1 : Ent tys ad (upI I o (q.2.2.1 % 100) v) (R) o (.inr (q.2.2.1 / 100, flds ad (upI I o (q.2.2.1 % 100) v) (R) o (q.2.2.1 / 100))) := by
      simp only [Ent, hs7]
      exact ⟨h12, trivial⟩
    have hR1 := hR.put (I' := upI I o (q.2.2.1 % 100) v) (R' := R) hWd ho (by rw [hs7]; exact Nat.le_of_ble_eq_true rfl) hE1 hI (Nat.le_trans C.2.2.2.2.2.2.2.2 hS1.1) (by
    intro k'
    have h9 := hR.2.2.2.1 o k'
    simp only [rng, hs7] at h9 ⊢
    rw [upI_eq]
    by_cases z : k' = q.2.2.1 % 100
    · rw [if_pos z]
      subst z
      rw [c100] at h9 ⊢
      rw [if_neg (by omega)]
      exact okh hst
    · rw [if_neg z]; exact h9) (fun k' j hk' hj => hR.2.2.2.2.1 o k' j ho hk' hj) hP1 hD1
    exact k x lv ad p e Rm s m args below meth c H1 locs1 lsC cells slots Z C (ret.step (Ext.put ho hI)) hR1 hS1 hL (okt (okt hst)) hc hs
  rcases hff : (fT q.2.2.1).2.2.2 with _ | _
  · skip
    refine va_put (N := (clE (q.2.2.1 / 100)).2.2) (C := (clE (q.2.2.1 / 100)).1) (T := (clE (q.2.2.1 / 100)).2.1) (own := cN (mO y)) (ref := (fT q.2.2.1).1) (v := rl ad (.inl v)) C.1 C.2.1 C.2.2.2.2.1 x1 _ x2 x3 C.2.2.2.1 hWd.1 hWd.2.1 hWd.2.2.1 hS (pos o) he x4 (q.2.2.1 % 100) hN hlk (fun _ h => h) hff (x2 _ hN) hfit.1 hfit.2 (by rw [flds, List.length_map, List.length_range]; exact hN) hd (fun H1 locs1 hP1 hD1 hS1 => ?_)
    exact fin H1 locs1 hP1 hD1 hS1
  · rcases hf with hf | ⟨hf1, hf2⟩
    · rw [hff] at hf; cases hf
    refine va_putF (N := (clE (q.2.2.1 / 100)).2.2) (C := (clE (q.2.2.1 / 100)).1) (T := (clE (q.2.2.1 / 100)).2.1) (own := cN (mO y)) (ref := (fT q.2.2.1).1) (v := rl ad (.inl v)) C.1 C.2.1 C.2.2.2.2.1 x1 _ x2 x3 C.2.2.2.1 hWd.1 hWd.2.1 hWd.2.2.1 hS (pos o) he x4 (q.2.2.1 % 100) hN hlk (fun _ h => h) hff (C.2.2.2.2.2.1 hf1) hf2.symm (x2 _ hN) hfit.1 hfit.2 (by rw [flds, List.length_map, List.length_range]; exact hN) hd (fun H1 locs1 hP1 hD1 hS1 => ?_)
    exact fin H1 locs1 hP1 hD1 hS1
theorem s_putL {q : Nat × Nat × Nat × Nat} {o : Nat} {v : Int} (hq : q ∈ lkF) (hq1 : q.1 = mO y) (hk : fkd q.2.2.1 = 3) (hf : (fT q.2.2.1).2.2.2 = false ∨ ((mY y).name = "<init>" ∧ cN (mO y) = (fT q.2.2.1).1)) (hs7 : shp o = (0, q.2.2.1 / 100)) (hd : decode (mB y) pc = .ok (.putfield q.2.1, 3)) (k : AtP g d y Q (pc + 3) ls t (upI I o (q.2.2.1 % 100) v) (R) nx) : AtP g d y Q pc ls (.inr (.inl v) :: .inr (.inr (some o)) :: t) I R nx := by
  intro x lv ad p e Rm s m args below meth c H locs lsC cells slots Z C ret hR hS hL hst hc hs
  obtain ⟨hl, h12, hN⟩ := lkF_mem hq
  obtain ⟨x1, x2, x3, x4⟩ := inX _ h12
  have hty := (clTy_k _ h12 _ hN).1
  have h100 := (clTy_k _ h12 _ hN).2
  rw [c100] at hty
  have k100 : ∀ {k' : Nat}, k' < (clE (q.2.2.1 / 100)).2.2 → (q.2.2.1 / 100 * 100 + k') % 100 = k' := fun h => by omega
  have ho : lv o := okh (okt hst)
  obtain ⟨tys, ws, pos, hWd⟩ := hR.2.2.2.2.2.2
  obtain ⟨e0, he, hE⟩ := hWd.2.2.2.1 o ho (by rw [hs7]; exact Nat.le_of_ble_eq_true rfl)
  simp only [Ent, hs7] at hE
  obtain ⟨-, rfl⟩ := hE
  have hI : ∀ o', o' ≠ o → (upI I o (q.2.2.1 % 100) v) o' = I o' ∧ (R) o' = R o' := fun o' q => ⟨upI_ne q, rfl⟩
  have hfit : narrow (clTy (q.2.2.1 / 100) (q.2.2.1 % 100)) (rl ad (.inr (.inl v))) = rl ad (.inr (.inl v)) ∧ fits (clTy (q.2.2.1 / 100) (q.2.2.1 % 100)) (rl ad (.inr (.inl v))) = true := by
    have ht : clTy (q.2.2.1 / 100) (q.2.2.1 % 100) = .long := by
      cases hh : clTy (q.2.2.1 / 100) (q.2.2.1 % 100) <;> simp_all [tyK]
    rw [ht]; exact ⟨rfl, rfl⟩
  have hlk := C.2.2.2.2.1 _ hl
  rw [lkF_c, hq1] at hlk
  have hfl : (flds ad I R o (q.2.2.1 / 100)).set (q.2.2.1 % 100) (rl ad (.inr (.inl v))) = flds ad (upI I o (q.2.2.1 % 100) v) (R) o (q.2.2.1 / 100) := by
    refine flds_set hN ?_ (fun k' h9 h8 => ?_)
    · rw [c100, fvl]
      rw [if_neg (by omega), if_pos hk, upI_eq, if_pos rfl]; rfl
    · simp only [fvl, upI_eq, k100 h9, if_neg h8]
  have fin : ∀ (H1 : Heap) (locs1 : List Loc), va_P x.1 vwCl (ws.set (pos o) (ad o, .inr (q.2.2.1 / 100, (flds ad I R o (q.2.2.1 / 100)).set (q.2.2.1 % 100) (rl ad (.inr (.inl v)))))) H1 → va_D (fun q => x.2.1 ≤ q) (ws.set (pos o) (ad o, .inr (q.2.2.1 / 100, (flds ad I R o (q.2.2.1 / 100)).set (q.2.2.1 % 100) (rl ad (.inr (.inl v)))))) → va_S (fun q => x.2.1 ≤ q) s.heap H1 locs1 → W p g.1 e Rm s m args below meth c H1 locs1 cells slots Z (F0 m (pc + 3) lsC (t.map (rl ad))) := by
    intro H1 locs1 hP1 hD1 hS1
    rw [hfl] at hP1 hD1
    have hE1 : Ent tys ad (upI I o (q.2.2.1 % 100) v) (R) o (.inr (q.2.2.1 / 100, flds ad (upI I o (q.2.2.1 % 100) v) (R) o (q.2.2.1 / 100))) := by
      simp only [Ent, hs7]
      exact ⟨h12, trivial⟩
    have hR1 := hR.put (I' := upI I o (q.2.2.1 % 100) v) (R' := R) hWd ho (by rw [hs7]; exact Nat.le_of_ble_eq_true rfl) hE1 hI (Nat.le_trans C.2.2.2.2.2.2.2.2 hS1.1) (by
    intro k'
    have h9 := hR.2.2.2.1 o k'
    simp only [rng, hs7] at h9 ⊢
    rw [upI_eq]
    by_cases z : k' = q.2.2.1 % 100
    · rw [if_pos z]
      subst z
      rw [c100] at h9 ⊢
      rw [if_pos hk]
      exact okh hst
    · rw [if_neg z]; exact h9) (fun k' j hk' hj => hR.2.2.2.2.1 o k' j ho hk' hj) hP1 hD1
    exact k x lv ad p e Rm s m args below meth c H1 locs1 lsC cells slots Z C (ret.step (Ext.put ho hI)) hR1 hS1 hL (okt (okt hst)) hc hs
  rcases hff : (fT q.2.2.1).2.2.2 with _ | _
  · skip
    refine va_put (N := (clE (q.2.2.1 / 100)).2.2) (C := (clE (q.2.2.1 / 100)).1) (T := (clE (q.2.2.1 / 100)).2.1) (own := cN (mO y)) (ref := (fT q.2.2.1).1) (v := rl ad (.inr (.inl v))) C.1 C.2.1 C.2.2.2.2.1 x1 _ x2 x3 C.2.2.2.1 hWd.1 hWd.2.1 hWd.2.2.1 hS (pos o) he x4 (q.2.2.1 % 100) hN hlk (fun _ h => h) hff (x2 _ hN) hfit.1 hfit.2 (by rw [flds, List.length_map, List.length_range]; exact hN) hd (fun H1 locs1 hP1 hD1 hS1 => ?_)
    exact fin H1 locs1 hP1 hD1 hS1
  · rcases hf with hf | ⟨hf1, hf2⟩
    · rw [hff] at hf; cases hf
    refine va_putF (N := (clE (q.2.2.1 / 100)).2.2) (C := (clE (q.2.2.1 / 100)).1) (T := (clE (q.2.2.1 / 100)).2.1) (own := cN (mO y)) (ref := (fT q.2.2.1).1) (v := rl ad (.inr (.inl v))) C.1 C.2.1 C.2.2.2.2.1 x1 _ x2 x3 C.2.2.2.1 hWd.1 hWd.2.1 hWd.2.2.1 hS (pos o) he x4 (q.2.2.1 % 100) hN hlk (fun _ h => h) hff (C.2.2.2.2.2.1 hf1) hf2.symm (x2 _ hN) hfit.1 hfit.2 (by rw [flds, List.length_map, List.length_range]; exact hN) hd (fun H1 locs1 hP1 hD1 hS1 => ?_)
    exact fin H1 locs1 hP1 hD1 hS1
theorem s_putR {q : Nat × Nat × Nat × Nat} {o : Nat} {v : Option Nat} (hq : q ∈ lkF) (hq1 : q.1 = mO y) (hk : fkd q.2.2.1 = 2) (hf : (fT q.2.2.1).2.2.2 = false ∨ ((mY y).name = "<init>" ∧ cN (mO y) = (fT q.2.2.1).1)) (hs7 : shp o = (0, q.2.2.1 / 100)) (hd : decode (mB y) pc = .ok (.putfield q.2.1, 3)) (k : AtP g d y Q (pc + 3) ls t (I) (upR R o (q.2.2.1 % 100) v) nx) : AtP g d y Q pc ls (.inr (.inr v) :: .inr (.inr (some o)) :: t) I R nx := by
  intro x lv ad p e Rm s m args below meth c H locs lsC cells slots Z C ret hR hS hL hst hc hs
  obtain ⟨hl, h12, hN⟩ := lkF_mem hq
  obtain ⟨x1, x2, x3, x4⟩ := inX _ h12
  have hty := (clTy_k _ h12 _ hN).1
  have h100 := (clTy_k _ h12 _ hN).2
  rw [c100] at hty
  have k100 : ∀ {k' : Nat}, k' < (clE (q.2.2.1 / 100)).2.2 → (q.2.2.1 / 100 * 100 + k') % 100 = k' := fun h => by omega
  have ho : lv o := okh (okt hst)
  obtain ⟨tys, ws, pos, hWd⟩ := hR.2.2.2.2.2.2
  obtain ⟨e0, he, hE⟩ := hWd.2.2.2.1 o ho (by rw [hs7]; exact Nat.le_of_ble_eq_true rfl)
  simp only [Ent, hs7] at hE
  obtain ⟨-, rfl⟩ := hE
  have hI : ∀ o', o' ≠ o → (I) o' = I o' ∧ (upR R o (q.2.2.1 % 100) v) o' = R o' := fun o' q => ⟨rfl, upR_ne q⟩
  have hfit : narrow (clTy (q.2.2.1 / 100) (q.2.2.1 % 100)) (rl ad (.inr (.inr v))) = rl ad (.inr (.inr v)) ∧ fits (clTy (q.2.2.1 / 100) (q.2.2.1 % 100)) (rl ad (.inr (.inr v))) = true := by
    cases hh : clTy (q.2.2.1 / 100) (q.2.2.1 % 100) <;> first
      | (cases v <;> exact ⟨rfl, rfl⟩)
      | (exfalso; rw [hh, hk] at hty; exact absurd hty (by decide))
  have hlk := C.2.2.2.2.1 _ hl
  rw [lkF_c, hq1] at hlk
  have hfl : (flds ad I R o (q.2.2.1 / 100)).set (q.2.2.1 % 100) (rl ad (.inr (.inr v))) = flds ad (I) (upR R o (q.2.2.1 % 100) v) o (q.2.2.1 / 100) := by
    refine flds_set hN ?_ (fun k' h9 h8 => ?_)
    · rw [c100, fvl]
      rw [if_pos hk, upR_eq, if_pos rfl, rl_rf]
    · simp only [fvl, upR_eq, k100 h9, if_neg h8]
  have fin : ∀ (H1 : Heap) (locs1 : List Loc), va_P x.1 vwCl (ws.set (pos o) (ad o, .inr (q.2.2.1 / 100, (flds ad I R o (q.2.2.1 / 100)).set (q.2.2.1 % 100) (rl ad (.inr (.inr v)))))) H1 → va_D (fun q => x.2.1 ≤ q) (ws.set (pos o) (ad o, .inr (q.2.2.1 / 100, (flds ad I R o (q.2.2.1 / 100)).set (q.2.2.1 % 100) (rl ad (.inr (.inr v)))))) → va_S (fun q => x.2.1 ≤ q) s.heap H1 locs1 → W p g.1 e Rm s m args below meth c H1 locs1 cells slots Z (F0 m (pc + 3) lsC (t.map (rl ad))) := by
    intro H1 locs1 hP1 hD1 hS1
    rw [hfl] at hP1 hD1
    have hE1 : Ent tys ad (I) (upR R o (q.2.2.1 % 100) v) o (.inr (q.2.2.1 / 100, flds ad (I) (upR R o (q.2.2.1 % 100) v) o (q.2.2.1 / 100))) := by
      simp only [Ent, hs7]
      exact ⟨h12, trivial⟩
    have hR1 := hR.put (I' := I) (R' := upR R o (q.2.2.1 % 100) v) hWd ho (by rw [hs7]; exact Nat.le_of_ble_eq_true rfl) hE1 hI (Nat.le_trans C.2.2.2.2.2.2.2.2 hS1.1) (fun k' => hR.2.2.2.1 o k') (by
    intro k' j hk' hj
    rw [upR_eq] at hj
    by_cases z : k' = q.2.2.1 % 100
    · rw [if_pos z] at hj
      have h6 : okv lv (.inr (.inr v)) := okh hst
      rw [hj] at h6
      exact h6
    · rw [if_neg z] at hj
      exact hR.2.2.2.2.1 o k' j ho hk' hj) hP1 hD1
    exact k x lv ad p e Rm s m args below meth c H1 locs1 lsC cells slots Z C (ret.step (Ext.put ho hI)) hR1 hS1 hL (okt (okt hst)) hc hs
  rcases hff : (fT q.2.2.1).2.2.2 with _ | _
  · skip
    refine va_put (N := (clE (q.2.2.1 / 100)).2.2) (C := (clE (q.2.2.1 / 100)).1) (T := (clE (q.2.2.1 / 100)).2.1) (own := cN (mO y)) (ref := (fT q.2.2.1).1) (v := rl ad (.inr (.inr v))) C.1 C.2.1 C.2.2.2.2.1 x1 _ x2 x3 C.2.2.2.1 hWd.1 hWd.2.1 hWd.2.2.1 hS (pos o) he x4 (q.2.2.1 % 100) hN hlk (fun _ h => h) hff (x2 _ hN) hfit.1 hfit.2 (by rw [flds, List.length_map, List.length_range]; exact hN) hd (fun H1 locs1 hP1 hD1 hS1 => ?_)
    exact fin H1 locs1 hP1 hD1 hS1
  · rcases hf with hf | ⟨hf1, hf2⟩
    · rw [hff] at hf; cases hf
    refine va_putF (N := (clE (q.2.2.1 / 100)).2.2) (C := (clE (q.2.2.1 / 100)).1) (T := (clE (q.2.2.1 / 100)).2.1) (own := cN (mO y)) (ref := (fT q.2.2.1).1) (v := rl ad (.inr (.inr v))) C.1 C.2.1 C.2.2.2.2.1 x1 _ x2 x3 C.2.2.2.1 hWd.1 hWd.2.1 hWd.2.2.1 hS (pos o) he x4 (q.2.2.1 % 100) hN hlk (fun _ h => h) hff (C.2.2.2.2.2.1 hf1) hf2.symm (x2 _ hN) hfit.1 hfit.2 (by rw [flds, List.length_map, List.length_range]; exact hN) hd (fun H1 locs1 hP1 hD1 hS1 => ?_)
    exact fin H1 locs1 hP1 hD1 hS1
theorem s_aald5 {j : Int} {o n : Nat} (hs7 : shp o = (5, n)) (h0 : 0 ≤ j) (h1 : j < n) (hd : decode (mB y) pc = .ok (.aaload, 1)) (k : AtP g d y Q (pc + 1) ls (.inr (.inr (R o j.toNat)) :: t) I R nx) : AtP g d y Q pc ls (.inl j :: .inr (.inr (some o)) :: t) I R nx := by
  intro x lv ad p e Rm s m args below meth c H locs lsC cells slots Z C ret hR hS hL hst hc hs
  have hj : i32 j := okh hst
  have ho : lv o := okh (okt hst)
  obtain ⟨tys, ws, pos, hWd⟩ := hR.2.2.2.2.2.2
  obtain ⟨e0, he, hE⟩ := hWd.2.2.2.1 o ho (by rw [hs7]; exact Nat.le_of_ble_eq_true rfl)
  simp only [Ent, hs7] at hE
  obtain ⟨t0, cA, f, ht, hf, rfl⟩ := hE
  have hr : okv lv (.inr (.inr (R o j.toNat))) := by
    match hz : R o j.toNat with
    | none => trivial
    | some q => exact hR.2.2.2.2.1 o j.toNat q ho (by rw [rsz, hs7]; simp; omega) hz
  refine va_aldq C.1 C.2.1 hWd.1 hWd.2.1 (pos o) t0 he ht (ofI_in hj h0 h1) hd ?_
  rw [ofI_cl hj, hf _ (by omega), ← rl_rf]
  exact k x lv ad p e Rm s m args below meth c H locs lsC cells slots Z C ret hR hS hL (okc hr (okt (okt hst))) hc hs
theorem s_aast5 {j : Int} {o n q : Nat} (hs7 : shp o = (5, n)) (hq7 : shp q = (0, 1)) (h0 : 0 ≤ j) (h1 : j < n) (hd : decode (mB y) pc = .ok (.aastore, 1)) (k : AtP g d y Q (pc + 1) ls t I (upR R o j.toNat (some q)) nx) : AtP g d y Q pc ls (.inr (.inr (some q)) :: .inl j :: .inr (.inr (some o)) :: t) I R nx := by
  intro x lv ad p e Rm s m args below meth c H locs lsC cells slots Z C ret hR hS hL hst hc hs
  have hq : lv q := okh hst
  have hj : i32 j := okh (okt hst)
  have ho : lv o := okh (okt (okt hst))
  obtain ⟨tys, ws, pos, hWd⟩ := hR.2.2.2.2.2.2
  obtain ⟨e0, he, hE⟩ := hWd.2.2.2.1 o ho (by rw [hs7]; exact Nat.le_of_ble_eq_true rfl)
  obtain ⟨eq, heq, hEq⟩ := hWd.2.2.2.1 q hq (by rw [hq7]; exact Nat.le_of_ble_eq_true rfl)
  simp only [Ent, hs7] at hE
  simp only [Ent, hq7] at hEq
  obtain ⟨t0, cA, f, ht, hf, rfl⟩ := hE
  obtain ⟨-, rfl⟩ := hEq
  have hI : ∀ o', o' ≠ o → I o' = I o' ∧ upR R o j.toNat (some q) o' = R o' := fun o' q => ⟨rfl, upR_ne q⟩
  refine va_astq (r := clE 1) C.1 C.2.1 hWd.1 hWd.2.1 hWd.2.2.1 hS (pos o) t0 (pos q) 1 he ht heq rfl (ofI_in hj h0 h1) hd (fun H1 locs1 hP1 hD1 hS1 => ?_)
  rw [ofI_cl hj] at hP1 hD1
  have hE1 : Ent tys ad I (upR R o j.toNat (some q)) o (.inl (cA, n, .inr (.inr (.inr (.inr (va_up f j.toNat (some (ad q)))))))) := by
    simp only [Ent, hs7]
    refine ⟨t0, cA, _, ht, fun k' hk' => ?_, rfl⟩
    rw [upR_eq, va_up]
    by_cases z : k' = j.toNat
    · rw [if_pos z, if_pos z]; rfl
    · rw [if_neg z, if_neg z]; exact hf k' hk'
  have hR1 := hR.put (I' := I) (R' := upR R o j.toNat (some q)) hWd ho (by rw [hs7]; exact Nat.le_of_ble_eq_true rfl) hE1 hI (Nat.le_trans C.2.2.2.2.2.2.2.2 hS1.1) (fun k' => hR.2.2.2.1 o k') (fun k' j' hk' hj' => by
    rw [upR_eq] at hj'
    by_cases z : k' = j.toNat
    · rw [if_pos z] at hj'; cases hj'; exact hq
    · rw [if_neg z] at hj'; exact hR.2.2.2.2.1 o k' j' ho hk' hj') hP1 hD1
  exact k x lv ad p e Rm s m args below meth c H1 locs1 lsC cells slots Z C (ret.step (Ext.put ho hI)) hR1 hS1 hL (okt (okt (okt hst))) hc hs
theorem s_aald6 {j : Int} {o n : Nat} (hs7 : shp o = (6, n)) (h0 : 0 ≤ j) (h1 : j < n) (hd : decode (mB y) pc = .ok (.aaload, 1)) (k : AtP g d y Q (pc + 1) ls (.inr (.inr (R o j.toNat)) :: t) I R nx) : AtP g d y Q pc ls (.inl j :: .inr (.inr (some o)) :: t) I R nx := by
  intro x lv ad p e Rm s m args below meth c H locs lsC cells slots Z C ret hR hS hL hst hc hs
  have hj : i32 j := okh hst
  have ho : lv o := okh (okt hst)
  obtain ⟨tys, ws, pos, hWd⟩ := hR.2.2.2.2.2.2
  obtain ⟨e0, he, hE⟩ := hWd.2.2.2.1 o ho (by rw [hs7]; exact Nat.le_of_ble_eq_true rfl)
  simp only [Ent, hs7] at hE
  obtain ⟨t0, cA, f, ht, hf, rfl⟩ := hE
  have hr : okv lv (.inr (.inr (R o j.toNat))) := by
    match hz : R o j.toNat with
    | none => trivial
    | some q => exact hR.2.2.2.2.1 o j.toNat q ho (by rw [rsz, hs7]; simp; omega) hz
  refine va_aldq C.1 C.2.1 hWd.1 hWd.2.1 (pos o) t0 he ht (ofI_in hj h0 h1) hd ?_
  rw [ofI_cl hj, hf _ (by omega), ← rl_rf]
  exact k x lv ad p e Rm s m args below meth c H locs lsC cells slots Z C ret hR hS hL (okc hr (okt (okt hst))) hc hs
theorem s_aast6 {j : Int} {o n q : Nat} (hs7 : shp o = (6, n)) (hq7 : shp q = (0, 0)) (h0 : 0 ≤ j) (h1 : j < n) (hd : decode (mB y) pc = .ok (.aastore, 1)) (k : AtP g d y Q (pc + 1) ls t I (upR R o j.toNat (some q)) nx) : AtP g d y Q pc ls (.inr (.inr (some q)) :: .inl j :: .inr (.inr (some o)) :: t) I R nx := by
  intro x lv ad p e Rm s m args below meth c H locs lsC cells slots Z C ret hR hS hL hst hc hs
  have hq : lv q := okh hst
  have hj : i32 j := okh (okt hst)
  have ho : lv o := okh (okt (okt hst))
  obtain ⟨tys, ws, pos, hWd⟩ := hR.2.2.2.2.2.2
  obtain ⟨e0, he, hE⟩ := hWd.2.2.2.1 o ho (by rw [hs7]; exact Nat.le_of_ble_eq_true rfl)
  obtain ⟨eq, heq, hEq⟩ := hWd.2.2.2.1 q hq (by rw [hq7]; exact Nat.le_of_ble_eq_true rfl)
  simp only [Ent, hs7] at hE
  simp only [Ent, hq7] at hEq
  obtain ⟨t0, cA, f, ht, hf, rfl⟩ := hE
  obtain ⟨-, rfl⟩ := hEq
  have hI : ∀ o', o' ≠ o → I o' = I o' ∧ upR R o j.toNat (some q) o' = R o' := fun o' q => ⟨rfl, upR_ne q⟩
  refine va_astq (r := clE 0) C.1 C.2.1 hWd.1 hWd.2.1 hWd.2.2.1 hS (pos o) t0 (pos q) 0 he ht heq rfl (ofI_in hj h0 h1) hd (fun H1 locs1 hP1 hD1 hS1 => ?_)
  rw [ofI_cl hj] at hP1 hD1
  have hE1 : Ent tys ad I (upR R o j.toNat (some q)) o (.inl (cA, n, .inr (.inr (.inr (.inr (va_up f j.toNat (some (ad q)))))))) := by
    simp only [Ent, hs7]
    refine ⟨t0, cA, _, ht, fun k' hk' => ?_, rfl⟩
    rw [upR_eq, va_up]
    by_cases z : k' = j.toNat
    · rw [if_pos z, if_pos z]; rfl
    · rw [if_neg z, if_neg z]; exact hf k' hk'
  have hR1 := hR.put (I' := I) (R' := upR R o j.toNat (some q)) hWd ho (by rw [hs7]; exact Nat.le_of_ble_eq_true rfl) hE1 hI (Nat.le_trans C.2.2.2.2.2.2.2.2 hS1.1) (fun k' => hR.2.2.2.1 o k') (fun k' j' hk' hj' => by
    rw [upR_eq] at hj'
    by_cases z : k' = j.toNat
    · rw [if_pos z] at hj'; cases hj'; exact hq
    · rw [if_neg z] at hj'; exact hR.2.2.2.2.1 o k' j' ho hk' hj') hP1 hD1
  exact k x lv ad p e Rm s m args below meth c H1 locs1 lsC cells slots Z C (ret.step (Ext.put ho hI)) hR1 hS1 hL (okt (okt (okt hst))) hc hs
theorem s_sld {j : Int} (h0 : 0 ≤ j) (h1 : j < g.2.1) (hd : decode (mB y) pc = .ok (.iaload, 1)) (k : AtP g d y Q (pc + 1) ls (.inl (g.2.2 j.toNat) :: t) I R nx) : AtP g d y Q pc ls (.inl j :: .inr (.inr (some 999)) :: t) I R nx := by
  intro x lv ad p e Rm s m args below meth c H locs lsC cells slots Z C ret hR hS hL hst hc hs
  have hj : i32 j := okh hst
  obtain ⟨r1, r2, r3, -, -, -, r7, -⟩ := C.2.2.2.2.2.2.2.1
  have e9 : ad 999 = x.2.2.2 := hR.2.2.2.2.2.1.2.2.2
  show W p g.1 e Rm s m args below meth c H locs cells slots Z (F0 m pc lsC (.int (Int32.ofInt j) :: .ref (ad 999) :: t.map (rl ad)))
  rw [e9]
  refine va_sld C.1 C.2.1 r1 r3 (by omega) hS (ofI_in hj h0 h1) hd ?_
  rw [ofI_cl hj]
  exact k x lv ad p e Rm s m args below meth c H locs lsC cells slots Z C ret hR hS hL (okc (r7 _) (okt (okt hst))) hc hs
theorem s_slen (hd : decode (mB y) pc = .ok (.arraylength, 1)) (k : AtP g d y Q (pc + 1) ls (.inl g.2.1 :: t) I R nx) : AtP g d y Q pc ls (.inr (.inr (some 999)) :: t) I R nx := by
  intro x lv ad p e Rm s m args below meth c H locs lsC cells slots Z C ret hR hS hL hst hc hs
  obtain ⟨r1, r2, r3, -, -, -, -, r8⟩ := C.2.2.2.2.2.2.2.1
  have e9 : ad 999 = x.2.2.2 := hR.2.2.2.2.2.1.2.2.2
  show W p g.1 e Rm s m args below meth c H locs cells slots Z (F0 m pc lsC (.ref (ad 999) :: t.map (rl ad)))
  rw [e9]
  refine va_slen C.1 C.2.1 r1 r3 (by omega) hS hd ?_
  exact k x lv ad p e Rm s m args below meth c H locs lsC cells slots Z C ret hR hS hL (okc (show i32 (g.2.1 : Int) from ⟨by omega, by omega⟩) (okt hst)) hc hs
theorem s_alen {o k0 n : Nat} (hs7 : shp o = (k0, n)) (h1 : 1 ≤ k0) (h2 : k0 < 7) (hn : n < 2147483648) (hd : decode (mB y) pc = .ok (.arraylength, 1)) (k : AtP g d y Q (pc + 1) ls (.inl n :: t) I R nx) : AtP g d y Q pc ls (.inr (.inr (some o)) :: t) I R nx := by
  intro x lv ad p e Rm s m args below meth c H locs lsC cells slots Z C ret hR hS hL hst hc hs
  have ho : lv o := okh hst
  obtain ⟨tys, ws, pos, hWd⟩ := hR.2.2.2.2.2.2
  obtain ⟨e0, he, hE⟩ := hWd.2.2.2.1 o ho (by rw [hs7]; exact h2)
  have h3 : ∃ (t0 : Nat) (cA : ClassId) (ty : FieldType) (b : _), tys[t0]? = some (cA, ty) ∧ e0 = .inl (cA, (n, b)) := by
    rcases (show k0 = 1 ∨ k0 = 2 ∨ k0 = 3 ∨ k0 = 4 ∨ k0 = 5 ∨ k0 = 6 by omega) with rfl | rfl | rfl | rfl | rfl | rfl
    all_goals simp only [Ent, hs7] at hE
    · obtain ⟨t0, cA, ht, rfl⟩ := hE; exact ⟨t0, cA, _, _, ht, rfl⟩
    · obtain ⟨t0, cA, ht, rfl⟩ := hE; exact ⟨t0, cA, _, _, ht, rfl⟩
    · obtain ⟨t0, cA, ht, rfl⟩ := hE; exact ⟨t0, cA, _, _, ht, rfl⟩
    · obtain ⟨t0, cA, ht, rfl⟩ := hE; exact ⟨t0, cA, _, _, ht, rfl⟩
    · obtain ⟨t0, cA, f, ht, -, rfl⟩ := hE; exact ⟨t0, cA, _, _, ht, rfl⟩
    · obtain ⟨t0, cA, f, ht, -, rfl⟩ := hE; exact ⟨t0, cA, _, _, ht, rfl⟩
  obtain ⟨t0, cA, ty, b, ht, rfl⟩ := h3
  refine va_alen (v := Int32.ofInt n) C.1 C.2.1 hWd.1 hWd.2.1 (pos o) t0 he ht rfl hd ?_
  exact k x lv ad p e Rm s m args below meth c H locs lsC cells slots Z C ret hR hS hL (okc (show i32 (n : Int) from ⟨by omega, by omega⟩) (okt hst)) hc hs
theorem sh4_spec {t : List AV} {F : Prop} (h : sh4 t F) : t.length ≤ 4 ∧ F := by
  unfold sh4 at h
  split at h
  · exact absurd h id
  · rename_i h0
    refine ⟨?_, h⟩
    match t, h0 with
    | [], _ => exact Nat.zero_le _
    | [_], _ => simp
    | [_, _], _ => simp
    | [_, _, _], _ => simp
    | [_, _, _, _], _ => simp
    | a :: b :: c :: d :: e :: f, h0 => exact absurd rfl (h0 a b c d e f)
theorem cat2 (v : Value) : v.category ≤ 2 := by cases v <;> simp [Value.category]
theorem sum4 {ad} {t : List AV} (h : t.length ≤ 4) : ((t.map (rl ad)).map fun v => v.category).sum ≤ 8 := by
  have : ∀ l : List Value, (l.map fun v => v.category).sum ≤ 2 * l.length := by
    intro l
    induction l with
    | nil => simp
    | cons a l ih => simp only [List.map_cons, List.sum_cons, List.length_cons]; have := cat2 a; omega
  have := this (t.map (rl ad))
  rw [List.length_map] at this
  omega
theorem lkX_mem {q} (h : q ∈ lkX) : Cond.methodLink (cN q.1) q.2.1 (mMt q.2.2.1) ∈ lwG := inG_mem (List.all_eq_true.mp lkX_b q h)
theorem s_max {a b : Int} {q : Nat × Nat × Nat × Nat} (hq : q ∈ lkX) (hq1 : q.1 = mO y) (hq2 : q.2.2.1 = 0) (hl4 : t.length ≤ 4) (hd : decode (mB y) pc = .ok (.invokestatic q.2.1, 3)) (k : AtP g (d + 1) y Q (pc + 3) ls (.inl (max a b) :: t) I R nx) : AtP g (d + 1) y Q pc ls (.inl b :: .inl a :: t) I R nx := by
  intro x lv ad p e Rm s m args below meth c H locs lsC cells slots Z C ret hR hS hL hst hc hs
  have hlk := C.2.2.2.2.1 _ (lkX_mem hq)
  rw [hq1, hq2] at hlk
  have hsum := sum4 (ad := ad) hl4
  have hst1 := List.all_eq_true.mp mtS
  have hcd := mtC
  simp only [List.map_cons, List.map_nil, List.cons.injEq, and_true] at hcd
  have hw := C.2.2.2.2.1
  have ha : i32 a := okh (okt hst)
  have hb : i32 b := okh hst
  have hval : Int32.ofInt (max a b) = if Int32.ofInt a < Int32.ofInt b then Int32.ofInt b else Int32.ofInt a := by
    simp only [ofI_lt ha hb]; by_cases z : a < b
    · rw [if_pos z, Int.max_eq_right (by omega)]
    · rw [if_neg z, Int.max_eq_left (by omega)]
    
    
  have hvi : i32 (max a b) := by
    rw [Int.max_def]; split <;> assumption
  refine va_mmax C.1 C.2.1 (by rw [C.2.2.1, hL.1]) C.2.2.2.1 hlk (hw _ (inG_mem (hst1 _ (List.mem_of_getElem? (i := 0) rfl)))) (hw _ (inG_mem mtI)) (hw _ (List.mem_filter.mpr ⟨List.mem_of_getElem? hcd.1, by decide +kernel⟩)) (Nat.le_trans (Nat.le_add_left 1 d) C.2.2.2.2.2.2.1.1) ?_ (by omega) (by omega) hd ?_
  · have := C.2.2.2.2.2.2.1.2
    omega
  · rw [← hval]
    exact k x lv ad p e Rm s m args below meth c H locs lsC cells slots Z C ret hR hS hL (okc hvi (okt (okt hst))) hc hs
theorem s_min {a b : Int} {q : Nat × Nat × Nat × Nat} (hq : q ∈ lkX) (hq1 : q.1 = mO y) (hq2 : q.2.2.1 = 1) (hl4 : t.length ≤ 4) (hd : decode (mB y) pc = .ok (.invokestatic q.2.1, 3)) (k : AtP g (d + 1) y Q (pc + 3) ls (.inl (min a b) :: t) I R nx) : AtP g (d + 1) y Q pc ls (.inl b :: .inl a :: t) I R nx := by
  intro x lv ad p e Rm s m args below meth c H locs lsC cells slots Z C ret hR hS hL hst hc hs
  have hlk := C.2.2.2.2.1 _ (lkX_mem hq)
  rw [hq1, hq2] at hlk
  have hsum := sum4 (ad := ad) hl4
  have hst1 := List.all_eq_true.mp mtS
  have hcd := mtC
  simp only [List.map_cons, List.map_nil, List.cons.injEq, and_true] at hcd
  have hw := C.2.2.2.2.1
  have ha : i32 a := okh (okt hst)
  have hb : i32 b := okh hst
  have hval : Int32.ofInt (min a b) = if Int32.ofInt b < Int32.ofInt a then Int32.ofInt b else Int32.ofInt a := by
    simp only [ofI_lt hb ha]; by_cases z : b < a
    · rw [if_pos z, Int.min_eq_right (by omega)]
    · rw [if_neg z, Int.min_eq_left (by omega)]
    
    
  have hvi : i32 (min a b) := by
    rw [Int.min_def]; split <;> assumption
  refine va_mmin C.1 C.2.1 (by rw [C.2.2.1, hL.1]) C.2.2.2.1 hlk (hw _ (inG_mem (hst1 _ (List.mem_of_getElem? (i := 1) rfl)))) (hw _ (inG_mem mtI)) (hw _ (List.mem_filter.mpr ⟨List.mem_of_getElem? hcd.2.1, by decide +kernel⟩)) (Nat.le_trans (Nat.le_add_left 1 d) C.2.2.2.2.2.2.1.1) ?_ (by omega) (by omega) hd ?_
  · have := C.2.2.2.2.2.2.1.2
    omega
  · rw [← hval]
    exact k x lv ad p e Rm s m args below meth c H locs lsC cells slots Z C ret hR hS hL (okc hvi (okt (okt hst))) hc hs
theorem s_abs {a : Int} {q : Nat × Nat × Nat × Nat} (hq : q ∈ lkX) (hq1 : q.1 = mO y) (hq2 : q.2.2.1 = 2) (hl4 : t.length ≤ 4) (hd : decode (mB y) pc = .ok (.invokestatic q.2.1, 3)) (k : AtP g (d + 1) y Q (pc + 3) ls (.inl (if 0 ≤ a then a else w32 (0 - a)) :: t) I R nx) : AtP g (d + 1) y Q pc ls (.inl a :: t) I R nx := by
  intro x lv ad p e Rm s m args below meth c H locs lsC cells slots Z C ret hR hS hL hst hc hs
  have hlk := C.2.2.2.2.1 _ (lkX_mem hq)
  rw [hq1, hq2] at hlk
  have hsum := sum4 (ad := ad) hl4
  have hst1 := List.all_eq_true.mp mtS
  have hcd := mtC
  simp only [List.map_cons, List.map_nil, List.cons.injEq, and_true] at hcd
  have hw := C.2.2.2.2.1
  have ha : i32 a := okh hst
  skip
  have hval : Int32.ofInt (if 0 ≤ a then a else w32 (0 - a)) = if 0 ≤ Int32.ofInt a then Int32.ofInt a else 0 - Int32.ofInt a := by
    have e0 : (0 ≤ Int32.ofInt a) ↔ 0 ≤ a := ofI_le i32_0 ha
    simp only [e0]
    by_cases z : 0 ≤ a
    · rw [if_pos z, if_pos z]
    · rw [if_neg z, if_neg z, ofw32, Int32.ofInt_sub]; rfl
  have hvi : i32 (if 0 ≤ a then a else w32 (0 - a)) := by
    split; assumption; exact i32_w32 _
  refine va_mabs C.1 C.2.1 (by rw [C.2.2.1, hL.1]) C.2.2.2.1 hlk (hw _ (inG_mem (hst1 _ (List.mem_of_getElem? (i := 2) rfl)))) (hw _ (inG_mem mtI)) (hw _ (List.mem_filter.mpr ⟨List.mem_of_getElem? hcd.2.2, by decide +kernel⟩)) (Nat.le_trans (Nat.le_add_left 1 d) C.2.2.2.2.2.2.1.1) ?_ (by omega) (by omega) hd ?_
  · have := C.2.2.2.2.2.2.1.2
    omega
  · rw [← hval]
    exact k x lv ad p e Rm s m args below meth c H locs lsC cells slots Z C ret hR hS hL (okc hvi (okt hst)) hc hs
theorem s_objInit {q : Nat × Nat × Nat} {o : Nat} (hq : q ∈ lkO) (hq1 : q.1 = mO y) (hl4 : t.length ≤ 4) (hd : decode (mB y) pc = .ok (.invokespecial q.2.1, 3)) (k : AtP g (d + 1) y Q (pc + 3) ls t I R nx) : AtP g (d + 1) y Q pc ls (.inr (.inr (some o)) :: t) I R nx := by
  intro x lv ad p e Rm s m args below meth c H locs lsC cells slots Z C ret hR hS hL hst hc hs
  have hlk := C.2.2.2.2.1 _ (inG_mem (List.all_eq_true.mp lkO_b q hq))
  rw [hq1] at hlk
  have hsum := sum4 (ad := ad) hl4
  have hw := C.2.2.2.2.1
  refine W.objInit C.1 C.2.1 C.2.2.2.1 hlk (hw _ (inG_mem obI)) (hw _ (List.mem_filter.mpr ⟨List.mem_of_getElem? obC, by decide +kernel⟩)) rfl (by rw [C.2.2.1]; exact hL.1) rfl hd (Nat.le_trans (Nat.le_add_left 1 d) C.2.2.2.2.2.2.1.1) ?_ ?_
  · have := C.2.2.2.2.2.2.1.2
    simp only [List.map_map] at hsum ⊢
    show 2 * 0 + _ + 12 ≤ _
    omega
  · exact k x lv ad p e Rm s m args below meth c H locs lsC cells slots Z C ret hR hS hL (okt hst) hc hs
end STEPS3
