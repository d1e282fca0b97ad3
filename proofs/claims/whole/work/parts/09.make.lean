/-! making cells, copying, calls -/
def lvN (lv : Nat → Prop) (id : Nat) : Nat → Prop := fun i => lv i ∨ i = id
def adN (ad : Nat → Nat) (id q : Nat) : Nat → Nat := fun i => if i = id then q else ad i
theorem adN_old {ad id q i} (h : i ≠ id) : adN ad id q i = ad i := if_neg h
theorem adN_new {ad id q} : adN ad id q id = q := if_pos rfl
theorem map_ad {lv : Nat → Prop} {ad ad' : Nat → Nat} (h : ∀ i, lv i → ad' i = ad i) {r : Option Nat} (hr : ∀ j, r = some j → lv j) : r.map ad' = r.map ad := by
  cases r with
  | none => rfl
  | some j => simp only [Option.map_some]; rw [h j (hr j rfl)]
theorem rl_ad {lv : Nat → Prop} {ad ad' : Nat → Nat} (h : ∀ i, lv i → ad' i = ad i) {v : AV} (hv : okv lv v) : rl ad' v = rl ad v := by
  match v, hv with
  | .inl _, _ => rfl
  | .inr (.inl _), _ => rfl
  | .inr (.inr none), _ => rfl
  | .inr (.inr (some o)), hv => simp only [rl]; rw [h o hv]
theorem map_rl {lv : Nat → Prop} {ad ad' : Nat → Nat} (h : ∀ i, lv i → ad' i = ad i) {st : List AV} (hv : ∀ v ∈ st, okv lv v) : st.map (rl ad') = st.map (rl ad) := List.map_congr_left (fun v q => rl_ad h (hv v q))
theorem okv_mono {lv lv' : Nat → Prop} (h : ∀ i, lv i → lv' i) {v : AV} (hv : okv lv v) : okv lv' v := by
  match v, hv with
  | .inl _, hv => exact hv
  | .inr (.inl _), hv => exact hv
  | .inr (.inr none), _ => trivial
  | .inr (.inr (some o)), hv => exact h o hv
theorem Lc.grow {lv lv' : Nat → Prop} {ad ad' ls lsC nL} (h : Lc lv ad ls lsC nL) (h1 : ∀ i, lv i → lv' i) (h2 : ∀ i, lv i → ad' i = ad i) : Lc lv' ad' ls lsC nL :=
  ⟨h.1, h.2.1, h.2.2.1, fun i v q => ⟨okv_mono h1 (h.2.2.2 i v q).1, by rw [rl_ad h2 (h.2.2.2 i v q).1]; exact (h.2.2.2 i v q).2⟩⟩
theorem get_app {α : Type} {l ex : List α} {i : Nat} {a : α} (h : l[i]? = some a) : (l ++ ex)[i]? = some a := by
  rw [List.getElem?_append_left (List.getElem?_eq_some_iff.mp h).1]; exact h
theorem Ent.grow {lv : Nat → Prop} {tys ex ad ad' I R o e} (h : Ent tys ad I R o e) (h2 : ∀ i, lv i → ad' i = ad i) (hr : ∀ k j, k < rsz o → R o k = some j → lv j) : Ent (tys ++ ex) ad' I R o e := by
  unfold Ent at h ⊢
  unfold rsz at hr
  generalize hsh : shp o = sh at h hr ⊢
  obtain ⟨a, b⟩ := sh
  match a, h with
  | 0, h =>
    refine ⟨h.1, h.2.trans ?_⟩
    congr 2
    unfold flds
    apply List.map_congr_left
    intro k hk
    have hk2 : k < (clE b).2.2 := List.mem_range.mp hk
    have h100 := (clTy_k b h.1 k hk2).2
    unfold fvl
    rw [show (b * 100 + k) % 100 = k by omega]
    split
    · rw [map_ad h2 (fun j q => hr k j (by rw [if_pos rfl]; omega) q)]
    · rfl
  | 1, h => obtain ⟨t0, cA, ht, he⟩ := h; exact ⟨t0, cA, get_app ht, he⟩
  | 2, h => obtain ⟨t0, cA, ht, he⟩ := h; exact ⟨t0, cA, get_app ht, he⟩
  | 3, h => obtain ⟨t0, cA, ht, he⟩ := h; exact ⟨t0, cA, get_app ht, he⟩
  | 4, h => obtain ⟨t0, cA, ht, he⟩ := h; exact ⟨t0, cA, get_app ht, he⟩
  | 5, h => obtain ⟨t0, cA, f, ht, hf, he⟩ := h; exact ⟨t0, cA, f, get_app ht, fun k hk => by rw [hf k hk, map_ad h2 (fun j q => hr k j (by rw [if_neg (show ¬ (5 : Nat) = 0 by decide)]; exact hk) q)], he⟩
  | 6, h => obtain ⟨t0, cA, f, ht, hf, he⟩ := h; exact ⟨t0, cA, f, get_app ht, fun k hk => by rw [hf k hk, map_ad h2 (fun j q => hr k j (by rw [if_neg (show ¬ (6 : Nat) = 0 by decide)]; exact hk) q)], he⟩
  | n + 7, h => exact h
theorem Rp.mk {x lv ad I R nx U H tys ws pos id q e ex H1} (hR : Rp x lv ad I R (id :: nx) U H) (h : Wld x lv ad I R U H tys ws pos) (hK : va_K x.1 vwCl (tys ++ ex) U) (hP : va_P x.1 vwCl (ws ++ [(q, e)]) H1) (hD : va_D (fun q => x.2.1 ≤ q) (ws ++ [(q, e)])) (hz : x.2.1 ≤ H1.size) (hE : Ent (tys ++ ex) (adN ad id q) I R id e) : Rp x (lvN lv id) (adN ad id q) I R nx U H1 := by
  obtain ⟨-, hn, hnx, hrg, hrf, hsp, -⟩ := hR
  obtain ⟨-, -, -, hEn, hi⟩ := h
  have hid : ¬ lv id := (hnx id List.mem_cons_self).1
  have hne : ∀ i, lv i → i ≠ id := fun i h z => hid (z ▸ h)
  have had : ∀ i, lv i → adN ad id q i = ad i := fun i h => adN_old (hne i h)
  refine ⟨hz, (List.nodup_cons.mp hn).2, fun i hi => ⟨fun z => ?_, (hnx i (List.mem_cons_of_mem _ hi)).2⟩, hrg, fun o k j ho hk hj => ?_, ⟨Or.inl hsp.1, Or.inl hsp.2.1, by rw [had _ hsp.1]; exact hsp.2.2.1, by rw [had _ hsp.2.1]; exact hsp.2.2.2⟩, tys ++ ex, ws ++ [(q, e)], adN pos id ws.length, hK, hP, hD, fun o ho hs => ?_, fun o o' ho ho' hs hs' hp => ?_⟩
  · rcases z with z | z
    · exact (hnx i (List.mem_cons_of_mem _ hi)).1 z
    · subst z; exact (List.nodup_cons.mp hn).1 hi
  · rcases ho with ho | ho
    · exact Or.inl (hrf o k j ho hk hj)
    · subst ho
      rw [((hnx _ List.mem_cons_self).2 k).2 hk] at hj
      cases hj
  · by_cases z : o = id
    · subst z
      refine ⟨e, ?_, hE⟩
      rw [adN_new, adN_new, List.getElem?_append_right (Nat.le_refl _), Nat.sub_self]
      rfl
    · have ho2 : lv o := ho.resolve_right z
      obtain ⟨e0, he0, hE0⟩ := hEn o ho2 hs
      refine ⟨e0, ?_, hE0.grow had (fun k j hk hj => hrf o k j ho2 hk hj)⟩
      rw [adN_old z, had o ho2]
      exact get_app he0
  · have key : ∀ o, lvN lv id o → (shp o).1 < 7 → o ≠ id → pos o < ws.length := by
      intro o ho hs z
      obtain ⟨e0, he0, -⟩ := hEn o (ho.resolve_right z) hs
      exact (List.getElem?_eq_some_iff.mp he0).1
    by_cases z : o = id <;> by_cases z' : o' = id
    · rw [z, z']
    · rw [z, adN_new, adN_old z'] at hp; have := key o' ho' hs' z'; omega
    · rw [z', adN_new, adN_old z] at hp; have := key o ho hs z; omega
    · rw [adN_old z, adN_old z'] at hp
      exact hi o o' (ho.resolve_right z) (ho'.resolve_right z') hs hs' hp
theorem Ext.mk {lv ad I R nx id q} (hn : (id :: nx).Nodup) (hid : ¬ lv id) : Ext lv ad I R (id :: nx) (lvN lv id) (adN ad id q) I R nx :=
  ⟨fun i h => ⟨Or.inl h, adN_old (fun z => hid (z ▸ h))⟩, fun i h => h.elim Or.inl (fun z => Or.inr ⟨z ▸ List.mem_cons_self, fun w => (List.nodup_cons.mp hn).1 (z ▸ w)⟩), fun i h => List.mem_cons_of_mem _ h, fun _ _ => ⟨rfl, fun _ _ => rfl⟩⟩
theorem wt_cons (id : Nat) (nx : List Nat) : wt (id :: nx) = (if (shp id).1 = 0 then (clE (shp id).2).2.2 else (shp id).2) + wt nx := rfl
theorem lkC_mem {q} (h : q ∈ lkC) : Cond.classLink (cN q.1) q.2.1 (cN q.2.2.1) ∈ lwG := inG_mem (List.all_eq_true.mp lkC_b q h)
theorem clI_at {ci : Nat} (h : ci < 12) : Cond.instantiable (clE ci).1 (clE ci).2.2 ∈ lwG ∧ Cond.initialized (clE ci).1 ∈ lwG := by
  have e := vwCl_nm ci h
  have hl := List.all_eq_true.mp clI
  have : ∃ q, q ∈ ([(0, 108, 80, 18), (1, 149, 82, 17), (2, 116, 81, 8), (3, 512, 88, 2), (4, 375, 84, 4), (5, 525, 89, 8), (6, 335, 83, 11), (7, 452, 86, 6), (8, 394, 85, 16), (9, 483, 87, 7), (10, 100, 79, 10), (11, 1164, 90, 67)] : List (Nat × Nat × Nat × Nat)) ∧ q.1 = ci := by
    rcases (show ci = 0 ∨ ci = 1 ∨ ci = 2 ∨ ci = 3 ∨ ci = 4 ∨ ci = 5 ∨ ci = 6 ∨ ci = 7 ∨ ci = 8 ∨ ci = 9 ∨ ci = 10 ∨ ci = 11 by omega) with rfl | rfl | rfl | rfl | rfl | rfl | rfl | rfl | rfl | rfl | rfl | rfl
    all_goals first | exact ⟨_, List.mem_of_getElem? (i := 0) rfl, rfl⟩ | exact ⟨_, List.mem_of_getElem? (i := 1) rfl, rfl⟩ | exact ⟨_, List.mem_of_getElem? (i := 2) rfl, rfl⟩ | exact ⟨_, List.mem_of_getElem? (i := 3) rfl, rfl⟩ | exact ⟨_, List.mem_of_getElem? (i := 4) rfl, rfl⟩ | exact ⟨_, List.mem_of_getElem? (i := 5) rfl, rfl⟩ | exact ⟨_, List.mem_of_getElem? (i := 6) rfl, rfl⟩ | exact ⟨_, List.mem_of_getElem? (i := 7) rfl, rfl⟩ | exact ⟨_, List.mem_of_getElem? (i := 8) rfl, rfl⟩ | exact ⟨_, List.mem_of_getElem? (i := 9) rfl, rfl⟩ | exact ⟨_, List.mem_of_getElem? (i := 10) rfl, rfl⟩ | exact ⟨_, List.mem_of_getElem? (i := 11) rfl, rfl⟩
  obtain ⟨q, hq, rfl⟩ := this
  have h2 := hl q hq
  simp only [Bool.and_eq_true, decide_eq_true_eq] at h2
  have h3 := inG_mem h2.1.1
  have h4 := inG_mem h2.1.2
  rw [e, h2.2]
  exact ⟨h3, h4⟩
section STEPS4
variable {g : GX} {d y : Nat} {Q : Option AV → MI → MR → Prop} {pc : Nat} {ls : LV} {t : List AV} {I : MI} {R : MR} {nx : List Nat}
theorem s_new {q : Nat × Nat × Nat × Nat} {id : Nat} (hq : q ∈ lkC) (hq1 : q.1 = mO y) (h12 : q.2.2.1 < 12) (hs7 : shp id = (0, q.2.2.1)) (hd : decode (mB y) pc = .ok (.new q.2.1, 3)) (k : AtP g d y Q (pc + 3) ls (.inr (.inr (some id)) :: t) I R nx) : AtP g d y Q pc ls t I R (id :: nx) := by
  intro x lv ad p e Rm s m args below meth c H locs lsC cells slots Z C ret hR hS hL hst hc hs
  obtain ⟨x1, x2, -, x4⟩ := inX _ h12
  have hst2 := hst
  obtain ⟨tys, ws, pos, hWd⟩ := hR.2.2.2.2.2.2
  have hl := C.2.2.2.2.1 _ (lkC_mem hq)
  rw [hq1, ← vwCl_nm _ h12] at hl
  have hz : ∀ k, I id k = 0 ∧ (k < rsz id → R id k = none) := (hR.2.2.1 id List.mem_cons_self).2
  have hs2 : slots + ((clE q.2.2.1).2.2 + wt nx) ≤ Rm.slots := by
    have h := hs
    rw [wt_cons, hs7] at h
    exact h
  have hfs : ∀ (ad : Nat → Nat), ∀ j, j < (clE q.2.2.1).2.2 → defaultValue (clTy q.2.2.1 j) = vp_V (flds ad I R id q.2.2.1) j := by
    intro ad j hj
    have hty := (clTy_k _ h12 _ hj).1
    have h100 := (clTy_k _ h12 _ hj).2
    rw [vp_V, List.getD_eq_getElem?_getD, flds_get hj, fvl, show (q.2.2.1 * 100 + j) % 100 = j by omega, (hz j).1, (hz j).2 (by rw [rsz, hs7, if_pos rfl]; omega)]
    cases hh : clTy q.2.2.1 j <;> rw [hh] at hty <;> simp only [tyK, beq_iff_eq, Bool.false_eq_true] at hty <;> rw [hty] <;> rfl
  refine va_new (ci := q.2.2.1) (C := (clE q.2.2.1).1) (T := (clE q.2.2.1).2.1) (N := (clE q.2.2.1).2.2) (own := cN (mO y)) (fs := flds ad I R id q.2.2.1) C.1 C.2.1 C.2.2.2.2.1 x1 _ x2 C.2.2.2.1 hl (C.2.2.2.2.1 _ (clI_at h12).1) (C.2.2.2.2.1 _ (clI_at h12).2) hWd.1 hWd.2.1 hWd.2.2.1 hS (fun z hz => Nat.le_trans C.2.2.2.2.2.2.2.2 hz) x4 (hfs ad) (by simp only [List.length_cons] at hc; omega) (by omega) hd (fun q0 H1 hP1 hD1 hS1 => ?_)
  · have hR1 : Rp x (lvN lv id) (adN ad id q0) I R nx s H1 := by
      have hK1 : va_K x.1 vwCl (tys ++ []) s := by rw [List.append_nil]; exact hWd.1
      refine Rp.mk (ex := []) hR hWd hK1 hP1 hD1 (Nat.le_trans C.2.2.2.2.2.2.2.2 hS1.1) ?_
      simp only [Ent, hs7]
      refine ⟨h12, ?_⟩
      congr 2
      unfold flds
      apply List.map_congr_left
      intro k hk
      have hk2 : k < (clE q.2.2.1).2.2 := List.mem_range.mp hk
      have hk3 := (clTy_k _ h12 _ hk2).2
      unfold fvl
      rw [(hz _).2 (by rw [rsz, hs7, if_pos rfl]; omega)]
      rfl
    have hid : ¬ lv id := (hR.2.2.1 id List.mem_cons_self).1
    have hne : ∀ i, lv i → i ≠ id := fun i h z => hid (z ▸ h)
    have had : ∀ i, lv i → adN ad id q0 i = ad i := fun i h => adN_old (hne i h)
    have k2 := k x (lvN lv id) (adN ad id q0) p e Rm s m args below meth c H1 locs lsC (cells + 1) (slots + (clE q.2.2.1).2.2) Z C (ret.step (Ext.mk (q := q0) hR.2.1 hid)) hR1 hS1 (hL.grow (fun _ h => Or.inl h) had) (okc (v := .inr (.inr (some id))) (Or.inr rfl) (fun v hv => okv_mono (fun _ h => Or.inl h) (hst2 v hv))) (by simp only [List.length_cons] at hc; omega) (by omega)
    rw [List.map_cons, map_rl had hst2] at k2
    have e1 : rl (adN ad id q0) (.inr (.inr (some id))) = .ref q0 := by simp only [rl]; rw [adN_new]
    rw [e1] at k2
    exact k2
theorem s_newa1 {v : Int} {id : Nat} (h0 : 0 ≤ v) (h9 : v ≤ 100000) (hs7 : shp id = (1, v.toNat)) (hd : decode (mB y) pc = .ok (.newarray .int, 2)) (k : AtP g d y Q (pc + 2) ls (.inr (.inr (some id)) :: t) I R nx) : AtP g d y Q pc ls (.inl v :: t) I R (id :: nx) := by
  intro x lv ad p e Rm s m args below meth c H locs lsC cells slots Z C ret hR hS hL hst hc hs
  have hst2 := okt hst
  have hv : i32 v := okh hst
  obtain ⟨tys, ws, pos, hWd⟩ := hR.2.2.2.2.2.2
  have hz : ∀ k, I id k = 0 ∧ (k < rsz id → R id k = none) := (hR.2.2.1 id List.mem_cons_self).2
  have hs2 : slots + (v.toNat + wt nx) ≤ Rm.slots := by
    have h := hs
    rw [wt_cons, hs7] at h
    exact h
  have hnn : ¬ Int32.ofInt v < 0 := fun q => by
    have := (ofI_lt hv i32_0).mp q
    omega
  refine va_newa (atype := .int) (ty := FieldType.int) (N' := v.toNat) (a0 := (v.toNat, .inl (fun _ => 0))) C.1 C.2.1 (C.2.2.2.2.1 _ (inG_mem (show inG 148 (.arrayClass FieldType.int) = true by decide +kernel))) rfl hWd.1 hWd.2.1 hWd.2.2.1 hS (fun z hz => Nat.le_trans C.2.2.2.2.2.2.2.2 hz) (fun _ => rfl) hnn (ofI_cl hv) (by show v.toNat * 4 ≤ _; omega) (by simp only [List.length_cons] at hc; omega) (by omega) hd (fun q0 cA H1 hK1 hP1 hD1 hS1 => ?_)
  · have hR1 : Rp x (lvN lv id) (adN ad id q0) I R nx s H1 := by
      refine Rp.mk (ex := [(cA, FieldType.int)]) hR hWd hK1 hP1 hD1 (Nat.le_trans C.2.2.2.2.2.2.2.2 hS1.1) ?_
      simp only [Ent, hs7]
      refine ⟨tys.length, cA, by rw [List.getElem?_append_right (Nat.le_refl _), Nat.sub_self]; rfl, ?_⟩
      congr 4
      funext k'
      rw [(hz k').1]
      rfl
    have hid : ¬ lv id := (hR.2.2.1 id List.mem_cons_self).1
    have hne : ∀ i, lv i → i ≠ id := fun i h z => hid (z ▸ h)
    have had : ∀ i, lv i → adN ad id q0 i = ad i := fun i h => adN_old (hne i h)
    have k2 := k x (lvN lv id) (adN ad id q0) p e Rm s m args below meth c H1 locs lsC (cells + 1) (slots + v.toNat) Z C (ret.step (Ext.mk (q := q0) hR.2.1 hid)) hR1 hS1 (hL.grow (fun _ h => Or.inl h) had) (okc (v := .inr (.inr (some id))) (Or.inr rfl) (fun v hv => okv_mono (fun _ h => Or.inl h) (hst2 v hv))) (by simp only [List.length_cons] at hc; omega) (by omega)
    rw [List.map_cons, map_rl had hst2] at k2
    have e1 : rl (adN ad id q0) (.inr (.inr (some id))) = .ref q0 := by simp only [rl]; rw [adN_new]
    rw [e1] at k2
    exact k2
theorem s_newa2 {v : Int} {id : Nat} (h0 : 0 ≤ v) (h9 : v ≤ 100000) (hs7 : shp id = (2, v.toNat)) (hd : decode (mB y) pc = .ok (.newarray .byte, 2)) (k : AtP g d y Q (pc + 2) ls (.inr (.inr (some id)) :: t) I R nx) : AtP g d y Q pc ls (.inl v :: t) I R (id :: nx) := by
  intro x lv ad p e Rm s m args below meth c H locs lsC cells slots Z C ret hR hS hL hst hc hs
  have hst2 := okt hst
  have hv : i32 v := okh hst
  obtain ⟨tys, ws, pos, hWd⟩ := hR.2.2.2.2.2.2
  have hz : ∀ k, I id k = 0 ∧ (k < rsz id → R id k = none) := (hR.2.2.1 id List.mem_cons_self).2
  have hs2 : slots + (v.toNat + wt nx) ≤ Rm.slots := by
    have h := hs
    rw [wt_cons, hs7] at h
    exact h
  have hnn : ¬ Int32.ofInt v < 0 := fun q => by
    have := (ofI_lt hv i32_0).mp q
    omega
  refine va_newa (atype := .byte) (ty := FieldType.byte) (N' := v.toNat) (a0 := (v.toNat, .inl (fun _ => 0))) C.1 C.2.1 (C.2.2.2.2.1 _ (inG_mem (show inG 242 (.arrayClass FieldType.byte) = true by decide +kernel))) rfl hWd.1 hWd.2.1 hWd.2.2.1 hS (fun z hz => Nat.le_trans C.2.2.2.2.2.2.2.2 hz) (fun _ => rfl) hnn (ofI_cl hv) (by show v.toNat * 1 ≤ _; omega) (by simp only [List.length_cons] at hc; omega) (by omega) hd (fun q0 cA H1 hK1 hP1 hD1 hS1 => ?_)
  · have hR1 : Rp x (lvN lv id) (adN ad id q0) I R nx s H1 := by
      refine Rp.mk (ex := [(cA, FieldType.byte)]) hR hWd hK1 hP1 hD1 (Nat.le_trans C.2.2.2.2.2.2.2.2 hS1.1) ?_
      simp only [Ent, hs7]
      refine ⟨tys.length, cA, by rw [List.getElem?_append_right (Nat.le_refl _), Nat.sub_self]; rfl, ?_⟩
      congr 4
      funext k'
      rw [(hz k').1]
      rfl
    have hid : ¬ lv id := (hR.2.2.1 id List.mem_cons_self).1
    have hne : ∀ i, lv i → i ≠ id := fun i h z => hid (z ▸ h)
    have had : ∀ i, lv i → adN ad id q0 i = ad i := fun i h => adN_old (hne i h)
    have k2 := k x (lvN lv id) (adN ad id q0) p e Rm s m args below meth c H1 locs lsC (cells + 1) (slots + v.toNat) Z C (ret.step (Ext.mk (q := q0) hR.2.1 hid)) hR1 hS1 (hL.grow (fun _ h => Or.inl h) had) (okc (v := .inr (.inr (some id))) (Or.inr rfl) (fun v hv => okv_mono (fun _ h => Or.inl h) (hst2 v hv))) (by simp only [List.length_cons] at hc; omega) (by omega)
    rw [List.map_cons, map_rl had hst2] at k2
    have e1 : rl (adN ad id q0) (.inr (.inr (some id))) = .ref q0 := by simp only [rl]; rw [adN_new]
    rw [e1] at k2
    exact k2
theorem s_newa3 {v : Int} {id : Nat} (h0 : 0 ≤ v) (h9 : v ≤ 100000) (hs7 : shp id = (3, v.toNat)) (hd : decode (mB y) pc = .ok (.newarray .boolean, 2)) (k : AtP g d y Q (pc + 2) ls (.inr (.inr (some id)) :: t) I R nx) : AtP g d y Q pc ls (.inl v :: t) I R (id :: nx) := by
  intro x lv ad p e Rm s m args below meth c H locs lsC cells slots Z C ret hR hS hL hst hc hs
  have hst2 := okt hst
  have hv : i32 v := okh hst
  obtain ⟨tys, ws, pos, hWd⟩ := hR.2.2.2.2.2.2
  have hz : ∀ k, I id k = 0 ∧ (k < rsz id → R id k = none) := (hR.2.2.1 id List.mem_cons_self).2
  have hs2 : slots + (v.toNat + wt nx) ≤ Rm.slots := by
    have h := hs
    rw [wt_cons, hs7] at h
    exact h
  have hnn : ¬ Int32.ofInt v < 0 := fun q => by
    have := (ofI_lt hv i32_0).mp q
    omega
  refine va_newa (atype := .boolean) (ty := FieldType.boolean) (N' := v.toNat) (a0 := (v.toNat, .inl (fun _ => 0))) C.1 C.2.1 (C.2.2.2.2.1 _ (inG_mem (show inG 1372 (.arrayClass FieldType.boolean) = true by decide +kernel))) rfl hWd.1 hWd.2.1 hWd.2.2.1 hS (fun z hz => Nat.le_trans C.2.2.2.2.2.2.2.2 hz) (fun _ => rfl) hnn (ofI_cl hv) (by show v.toNat * 1 ≤ _; omega) (by simp only [List.length_cons] at hc; omega) (by omega) hd (fun q0 cA H1 hK1 hP1 hD1 hS1 => ?_)
  · have hR1 : Rp x (lvN lv id) (adN ad id q0) I R nx s H1 := by
      refine Rp.mk (ex := [(cA, FieldType.boolean)]) hR hWd hK1 hP1 hD1 (Nat.le_trans C.2.2.2.2.2.2.2.2 hS1.1) ?_
      simp only [Ent, hs7]
      refine ⟨tys.length, cA, by rw [List.getElem?_append_right (Nat.le_refl _), Nat.sub_self]; rfl, ?_⟩
      congr 4
      funext k'
      rw [(hz k').1]
      rfl
    have hid : ¬ lv id := (hR.2.2.1 id List.mem_cons_self).1
    have hne : ∀ i, lv i → i ≠ id := fun i h z => hid (z ▸ h)
    have had : ∀ i, lv i → adN ad id q0 i = ad i := fun i h => adN_old (hne i h)
    have k2 := k x (lvN lv id) (adN ad id q0) p e Rm s m args below meth c H1 locs lsC (cells + 1) (slots + v.toNat) Z C (ret.step (Ext.mk (q := q0) hR.2.1 hid)) hR1 hS1 (hL.grow (fun _ h => Or.inl h) had) (okc (v := .inr (.inr (some id))) (Or.inr rfl) (fun v hv => okv_mono (fun _ h => Or.inl h) (hst2 v hv))) (by simp only [List.length_cons] at hc; omega) (by omega)
    rw [List.map_cons, map_rl had hst2] at k2
    have e1 : rl (adN ad id q0) (.inr (.inr (some id))) = .ref q0 := by simp only [rl]; rw [adN_new]
    rw [e1] at k2
    exact k2
theorem s_newa4 {v : Int} {id : Nat} (h0 : 0 ≤ v) (h9 : v ≤ 100000) (hs7 : shp id = (4, v.toNat)) (hd : decode (mB y) pc = .ok (.newarray .long, 2)) (k : AtP g d y Q (pc + 2) ls (.inr (.inr (some id)) :: t) I R nx) : AtP g d y Q pc ls (.inl v :: t) I R (id :: nx) := by
  intro x lv ad p e Rm s m args below meth c H locs lsC cells slots Z C ret hR hS hL hst hc hs
  have hst2 := okt hst
  have hv : i32 v := okh hst
  obtain ⟨tys, ws, pos, hWd⟩ := hR.2.2.2.2.2.2
  have hz : ∀ k, I id k = 0 ∧ (k < rsz id → R id k = none) := (hR.2.2.1 id List.mem_cons_self).2
  have hs2 : slots + (v.toNat + wt nx) ≤ Rm.slots := by
    have h := hs
    rw [wt_cons, hs7] at h
    exact h
  have hnn : ¬ Int32.ofInt v < 0 := fun q => by
    have := (ofI_lt hv i32_0).mp q
    omega
  refine va_newa (atype := .long) (ty := FieldType.long) (N' := v.toNat) (a0 := (v.toNat, .inr (.inl (fun _ => 0)))) C.1 C.2.1 (C.2.2.2.2.1 _ (inG_mem (show inG 510 (.arrayClass FieldType.long) = true by decide +kernel))) rfl hWd.1 hWd.2.1 hWd.2.2.1 hS (fun z hz => Nat.le_trans C.2.2.2.2.2.2.2.2 hz) (fun _ => rfl) hnn (ofI_cl hv) (by show v.toNat * 8 ≤ _; omega) (by simp only [List.length_cons] at hc; omega) (by omega) hd (fun q0 cA H1 hK1 hP1 hD1 hS1 => ?_)
  · have hR1 : Rp x (lvN lv id) (adN ad id q0) I R nx s H1 := by
      refine Rp.mk (ex := [(cA, FieldType.long)]) hR hWd hK1 hP1 hD1 (Nat.le_trans C.2.2.2.2.2.2.2.2 hS1.1) ?_
      simp only [Ent, hs7]
      refine ⟨tys.length, cA, by rw [List.getElem?_append_right (Nat.le_refl _), Nat.sub_self]; rfl, ?_⟩
      congr 5
      funext k'
      rw [(hz k').1]
      rfl
    have hid : ¬ lv id := (hR.2.2.1 id List.mem_cons_self).1
    have hne : ∀ i, lv i → i ≠ id := fun i h z => hid (z ▸ h)
    have had : ∀ i, lv i → adN ad id q0 i = ad i := fun i h => adN_old (hne i h)
    have k2 := k x (lvN lv id) (adN ad id q0) p e Rm s m args below meth c H1 locs lsC (cells + 1) (slots + v.toNat) Z C (ret.step (Ext.mk (q := q0) hR.2.1 hid)) hR1 hS1 (hL.grow (fun _ h => Or.inl h) had) (okc (v := .inr (.inr (some id))) (Or.inr rfl) (fun v hv => okv_mono (fun _ h => Or.inl h) (hst2 v hv))) (by simp only [List.length_cons] at hc; omega) (by omega)
    rw [List.map_cons, map_rl had hst2] at k2
    have e1 : rl (adN ad id q0) (.inr (.inr (some id))) = .ref q0 := by simp only [rl]; rw [adN_new]
    rw [e1] at k2
    exact k2
theorem s_newq5 {q : Nat × Nat × Nat × Nat} {v : Int} {id : Nat} (hq : q ∈ lkC) (hq1 : q.1 = mO y) (hq2 : q.2.2.1 = 1) (h0 : 0 ≤ v) (h9 : v ≤ 100000) (hs7 : shp id = (5, v.toNat)) (hd : decode (mB y) pc = .ok (.anewarray q.2.1, 3)) (k : AtP g d y Q (pc + 3) ls (.inr (.inr (some id)) :: t) I R nx) : AtP g d y Q pc ls (.inl v :: t) I R (id :: nx) := by
  intro x lv ad p e Rm s m args below meth c H locs lsC cells slots Z C ret hR hS hL hst hc hs
  have hst2 := okt hst
  have hv : i32 v := okh hst
  obtain ⟨tys, ws, pos, hWd⟩ := hR.2.2.2.2.2.2
  have hl := C.2.2.2.2.1 _ (lkC_mem hq)
  rw [hq1, hq2] at hl
  have hz : ∀ k, I id k = 0 ∧ (k < rsz id → R id k = none) := (hR.2.2.1 id List.mem_cons_self).2
  have hs2 : slots + (v.toNat + wt nx) ≤ Rm.slots := by
    have h := hs
    rw [wt_cons, hs7] at h
    exact h
  have hnn : ¬ Int32.ofInt v < 0 := fun q => by
    have := (ofI_lt hv i32_0).mp q
    omega
  refine va_newq (N' := v.toNat) (C := RX1) C.1 C.2.1 C.2.2.2.1 hl C.2.2.2.2.2.2.2.1.2.2.2.2.1.1 hWd.1 hWd.2.1 hWd.2.2.1 hS (fun z hz => Nat.le_trans C.2.2.2.2.2.2.2.2 hz) hnn (ofI_cl hv) (by omega) (by simp only [List.length_cons] at hc; omega) (by omega) hd (fun q0 cA H1 hK1 hP1 hD1 hS1 => ?_)
  · have hR1 : Rp x (lvN lv id) (adN ad id q0) I R nx s H1 := by
      refine Rp.mk (ex := [(cA, FieldType.object RX1)]) hR hWd hK1 hP1 hD1 (Nat.le_trans C.2.2.2.2.2.2.2.2 hS1.1) ?_
      simp only [Ent, hs7]
      exact ⟨tys.length, cA, _, by rw [List.getElem?_append_right (Nat.le_refl _), Nat.sub_self]; rfl, fun k' hk' => by rw [(hz k').2 (by rw [rsz, hs7, if_neg (show ¬ (5 : Nat) = 0 by decide)]; exact hk')]; rfl, rfl⟩
    have hid : ¬ lv id := (hR.2.2.1 id List.mem_cons_self).1
    have hne : ∀ i, lv i → i ≠ id := fun i h z => hid (z ▸ h)
    have had : ∀ i, lv i → adN ad id q0 i = ad i := fun i h => adN_old (hne i h)
    have k2 := k x (lvN lv id) (adN ad id q0) p e Rm s m args below meth c H1 locs lsC (cells + 1) (slots + v.toNat) Z C (ret.step (Ext.mk (q := q0) hR.2.1 hid)) hR1 hS1 (hL.grow (fun _ h => Or.inl h) had) (okc (v := .inr (.inr (some id))) (Or.inr rfl) (fun v hv => okv_mono (fun _ h => Or.inl h) (hst2 v hv))) (by simp only [List.length_cons] at hc; omega) (by omega)
    rw [List.map_cons, map_rl had hst2] at k2
    have e1 : rl (adN ad id q0) (.inr (.inr (some id))) = .ref q0 := by simp only [rl]; rw [adN_new]
    rw [e1] at k2
    exact k2
theorem s_newq6 {q : Nat × Nat × Nat × Nat} {v : Int} {id : Nat} (hq : q ∈ lkC) (hq1 : q.1 = mO y) (hq2 : q.2.2.1 = 0) (h0 : 0 ≤ v) (h9 : v ≤ 100000) (hs7 : shp id = (6, v.toNat)) (hd : decode (mB y) pc = .ok (.anewarray q.2.1, 3)) (k : AtP g d y Q (pc + 3) ls (.inr (.inr (some id)) :: t) I R nx) : AtP g d y Q pc ls (.inl v :: t) I R (id :: nx) := by
  intro x lv ad p e Rm s m args below meth c H locs lsC cells slots Z C ret hR hS hL hst hc hs
  have hst2 := okt hst
  have hv : i32 v := okh hst
  obtain ⟨tys, ws, pos, hWd⟩ := hR.2.2.2.2.2.2
  have hl := C.2.2.2.2.1 _ (lkC_mem hq)
  rw [hq1, hq2] at hl
  have hz : ∀ k, I id k = 0 ∧ (k < rsz id → R id k = none) := (hR.2.2.1 id List.mem_cons_self).2
  have hs2 : slots + (v.toNat + wt nx) ≤ Rm.slots := by
    have h := hs
    rw [wt_cons, hs7] at h
    exact h
  have hnn : ¬ Int32.ofInt v < 0 := fun q => by
    have := (ofI_lt hv i32_0).mp q
    omega
  refine va_newq (N' := v.toNat) (C := RX0) C.1 C.2.1 C.2.2.2.1 hl C.2.2.2.2.2.2.2.1.2.2.2.2.1.2 hWd.1 hWd.2.1 hWd.2.2.1 hS (fun z hz => Nat.le_trans C.2.2.2.2.2.2.2.2 hz) hnn (ofI_cl hv) (by omega) (by simp only [List.length_cons] at hc; omega) (by omega) hd (fun q0 cA H1 hK1 hP1 hD1 hS1 => ?_)
  · have hR1 : Rp x (lvN lv id) (adN ad id q0) I R nx s H1 := by
      refine Rp.mk (ex := [(cA, FieldType.object RX0)]) hR hWd hK1 hP1 hD1 (Nat.le_trans C.2.2.2.2.2.2.2.2 hS1.1) ?_
      simp only [Ent, hs7]
      exact ⟨tys.length, cA, _, by rw [List.getElem?_append_right (Nat.le_refl _), Nat.sub_self]; rfl, fun k' hk' => by rw [(hz k').2 (by rw [rsz, hs7, if_neg (show ¬ (6 : Nat) = 0 by decide)]; exact hk')]; rfl, rfl⟩
    have hid : ¬ lv id := (hR.2.2.1 id List.mem_cons_self).1
    have hne : ∀ i, lv i → i ≠ id := fun i h z => hid (z ▸ h)
    have had : ∀ i, lv i → adN ad id q0 i = ad i := fun i h => adN_old (hne i h)
    have k2 := k x (lvN lv id) (adN ad id q0) p e Rm s m args below meth c H1 locs lsC (cells + 1) (slots + v.toNat) Z C (ret.step (Ext.mk (q := q0) hR.2.1 hid)) hR1 hS1 (hL.grow (fun _ h => Or.inl h) had) (okc (v := .inr (.inr (some id))) (Or.inr rfl) (fun v hv => okv_mono (fun _ h => Or.inl h) (hst2 v hv))) (by simp only [List.length_cons] at hc; omega) (by omega)
    rw [List.map_cons, map_rl had hst2] at k2
    have e1 : rl (adN ad id q0) (.inr (.inr (some id))) = .ref q0 := by simp only [rl]; rw [adN_new]
    rw [e1] at k2
    exact k2
theorem s_copy1 {q : Nat × Nat × Nat} {o p' n0 n1 : Nat} {sp dp n : Int} (hq : q ∈ lkA) (hq1 : q.1 = mO y) (hl4 : t.length ≤ 4) (ho7 : shp o = (1, n0)) (hp7 : shp p' = (1, n1)) (h1 : 0 ≤ n) (h2 : 0 ≤ dp) (h3 : 0 ≤ sp) (h4 : sp + n ≤ n0) (h5 : dp + n ≤ n1) (hd : decode (mB y) pc = .ok (.invokestatic q.2.1, 3)) (k : AtP g (d + 1) y Q (pc + 3) ls t (cpI I o p' sp.toNat dp.toNat n.toNat) R nx) : AtP g (d + 1) y Q pc ls (.inl n :: .inl dp :: .inr (.inr (some p')) :: .inl sp :: .inr (.inr (some o)) :: t) I R nx := by
  intro x lv ad p e Rm s m args below meth c H locs lsC cells slots Z C ret hR hS hL hst hc hs
  have hn : i32 n := okh hst
  have hdp : i32 dp := okh (okt hst)
  have hp : lv p' := okh (okt (okt hst))
  have hsp : i32 sp := okh (okt (okt (okt hst)))
  have ho : lv o := okh (okt (okt (okt (okt hst))))
  have hst2 := okt (okt (okt (okt (okt hst))))
  have hlk := C.2.2.2.2.1 _ (inG_mem (List.all_eq_true.mp lkA_b q hq))
  rw [hq1] at hlk
  have hsum := sum4 (ad := ad) hl4
  have hw := C.2.2.2.2.1
  obtain ⟨tys, ws, pos, hWd⟩ := hR.2.2.2.2.2.2
  obtain ⟨e0, he0, hE0⟩ := hWd.2.2.2.1 o ho (by rw [ho7]; exact Nat.le_of_ble_eq_true rfl)
  obtain ⟨e1, he1, hE1⟩ := hWd.2.2.2.1 p' hp (by rw [hp7]; exact Nat.le_of_ble_eq_true rfl)
  simp only [Ent, ho7] at hE0
  simp only [Ent, hp7] at hE1
  obtain ⟨t0, cA, ht0, rfl⟩ := hE0
  obtain ⟨t1, cB, ht1, rfl⟩ := hE1
  have nn : ∀ {a : Int}, i32 a → 0 ≤ a → ¬ Int32.ofInt a < 0 := fun ha h q => by
    have := (ofI_lt ha i32_0).mp q
    omega
  have hI : ∀ o', o' ≠ p' → cpI I o p' sp.toNat dp.toNat n.toNat o' = I o' ∧ R o' = R o' := fun o' q => ⟨by simp [cpI, q], rfl⟩
  refine va_copyi (ty := FieldType.int) C.1 C.2.1 (by rw [C.2.2.1, hL.1]) C.2.2.2.1 hlk (hw _ (inG_mem syN)) (hw _ (inG_mem syS)) (hw _ (inG_mem syI)) hWd.1 hWd.2.1 hWd.2.2.1 hS (pos o) (pos p') t0 t1 he0 he1 ht0 ht1 rfl (nn hsp h3) (nn hdp h2) (nn hn h1) (by rw [ofI_cl hsp, ofI_cl hn]; omega) (by rw [ofI_cl hdp, ofI_cl hn]; omega) ?_ (Nat.le_trans (Nat.le_add_left 1 d) C.2.2.2.2.2.2.1.1) ?_ hd (fun H1 locs1 hP1 hD1 hS1 => ?_)
  · intro i _
    rfl
  · have hd60 := C.2.2.2.2.2.2.1.2
    have hnw : nativeFrameWords "java/lang/System" "arraycopy" 5 ≤ 30 := by decide +kernel
    omega
  · rw [ofI_cl hsp, ofI_cl hdp, ofI_cl hn] at hP1 hD1
    have hE2 : Ent tys ad (cpI I o p' sp.toNat dp.toNat n.toNat) R p' (.inl (cB, n1, .inl (va_cpy (fun k => Int32.ofInt (I o k)) (fun k => Int32.ofInt (I p' k)) sp.toNat dp.toNat n.toNat))) := by
      simp only [Ent, hp7]
      refine ⟨t1, cB, ht1, ?_⟩
      congr 4
      funext k'
      simp only [va_cpy, cpI, if_true]
      split <;> rfl
    have hr : ∀ k', rng p' k' (cpI I o p' sp.toNat dp.toNat n.toNat p' k') := by
      intro k'
      simp only [cpI, if_true]
      split
      · have h9 := hR.2.2.2.1 o (sp.toNat + (k' - dp.toNat))
        simp only [rng, ho7, hp7] at h9 ⊢
        exact h9
      · exact hR.2.2.2.1 p' k'
    have hR1 := hR.put (I' := cpI I o p' sp.toNat dp.toNat n.toNat) (R' := R) hWd hp (by rw [hp7]; exact Nat.le_of_ble_eq_true rfl) hE2 hI (Nat.le_trans C.2.2.2.2.2.2.2.2 hS1.1) hr (fun k' q hk hq => hR.2.2.2.2.1 p' k' q hp hk hq) hP1 hD1
    exact k x lv ad p e Rm s m args below meth c H1 locs1 lsC cells slots Z C (ret.step (Ext.put hp hI)) hR1 hS1 hL hst2 hc hs
theorem s_copy2 {q : Nat × Nat × Nat} {o p' n0 n1 : Nat} {sp dp n : Int} (hq : q ∈ lkA) (hq1 : q.1 = mO y) (hl4 : t.length ≤ 4) (ho7 : shp o = (2, n0)) (hp7 : shp p' = (2, n1)) (h1 : 0 ≤ n) (h2 : 0 ≤ dp) (h3 : 0 ≤ sp) (h4 : sp + n ≤ n0) (h5 : dp + n ≤ n1) (hd : decode (mB y) pc = .ok (.invokestatic q.2.1, 3)) (k : AtP g (d + 1) y Q (pc + 3) ls t (cpI I o p' sp.toNat dp.toNat n.toNat) R nx) : AtP g (d + 1) y Q pc ls (.inl n :: .inl dp :: .inr (.inr (some p')) :: .inl sp :: .inr (.inr (some o)) :: t) I R nx := by
  intro x lv ad p e Rm s m args below meth c H locs lsC cells slots Z C ret hR hS hL hst hc hs
  have hn : i32 n := okh hst
  have hdp : i32 dp := okh (okt hst)
  have hp : lv p' := okh (okt (okt hst))
  have hsp : i32 sp := okh (okt (okt (okt hst)))
  have ho : lv o := okh (okt (okt (okt (okt hst))))
  have hst2 := okt (okt (okt (okt (okt hst))))
  have hlk := C.2.2.2.2.1 _ (inG_mem (List.all_eq_true.mp lkA_b q hq))
  rw [hq1] at hlk
  have hsum := sum4 (ad := ad) hl4
  have hw := C.2.2.2.2.1
  obtain ⟨tys, ws, pos, hWd⟩ := hR.2.2.2.2.2.2
  obtain ⟨e0, he0, hE0⟩ := hWd.2.2.2.1 o ho (by rw [ho7]; exact Nat.le_of_ble_eq_true rfl)
  obtain ⟨e1, he1, hE1⟩ := hWd.2.2.2.1 p' hp (by rw [hp7]; exact Nat.le_of_ble_eq_true rfl)
  simp only [Ent, ho7] at hE0
  simp only [Ent, hp7] at hE1
  obtain ⟨t0, cA, ht0, rfl⟩ := hE0
  obtain ⟨t1, cB, ht1, rfl⟩ := hE1
  have nn : ∀ {a : Int}, i32 a → 0 ≤ a → ¬ Int32.ofInt a < 0 := fun ha h q => by
    have := (ofI_lt ha i32_0).mp q
    omega
  have hI : ∀ o', o' ≠ p' → cpI I o p' sp.toNat dp.toNat n.toNat o' = I o' ∧ R o' = R o' := fun o' q => ⟨by simp [cpI, q], rfl⟩
  refine va_copyi (ty := FieldType.byte) C.1 C.2.1 (by rw [C.2.2.1, hL.1]) C.2.2.2.1 hlk (hw _ (inG_mem syN)) (hw _ (inG_mem syS)) (hw _ (inG_mem syI)) hWd.1 hWd.2.1 hWd.2.2.1 hS (pos o) (pos p') t0 t1 he0 he1 ht0 ht1 rfl (nn hsp h3) (nn hdp h2) (nn hn h1) (by rw [ofI_cl hsp, ofI_cl hn]; omega) (by rw [ofI_cl hdp, ofI_cl hn]; omega) ?_ (Nat.le_trans (Nat.le_add_left 1 d) C.2.2.2.2.2.2.1.1) ?_ hd (fun H1 locs1 hP1 hD1 hS1 => ?_)
  · intro i _
    have h9 := hR.2.2.2.1 o ((Int32.ofInt sp).toNatClampNeg + i)
    simp only [rng, ho7] at h9
    have hi : i32 (I o ((Int32.ofInt sp).toNatClampNeg + i)) := ⟨by omega, by omega⟩
    have g1 : (-128 : Int32) ≤ Int32.ofInt (I o ((Int32.ofInt sp).toNatClampNeg + i)) := (ofI_le (a := -128) ⟨by decide, by decide⟩ hi).mpr h9.1
    have g2 : Int32.ofInt (I o ((Int32.ofInt sp).toNatClampNeg + i)) ≤ (127 : Int32) := (ofI_le (b := 127) hi ⟨by decide, by decide⟩).mpr (by omega)
    simp only [fits, Bool.and_eq_true, decide_eq_true_eq]
    exact ⟨g1, g2⟩
  · have hd60 := C.2.2.2.2.2.2.1.2
    have hnw : nativeFrameWords "java/lang/System" "arraycopy" 5 ≤ 30 := by decide +kernel
    omega
  · rw [ofI_cl hsp, ofI_cl hdp, ofI_cl hn] at hP1 hD1
    have hE2 : Ent tys ad (cpI I o p' sp.toNat dp.toNat n.toNat) R p' (.inl (cB, n1, .inl (va_cpy (fun k => Int32.ofInt (I o k)) (fun k => Int32.ofInt (I p' k)) sp.toNat dp.toNat n.toNat))) := by
      simp only [Ent, hp7]
      refine ⟨t1, cB, ht1, ?_⟩
      congr 4
      funext k'
      simp only [va_cpy, cpI, if_true]
      split <;> rfl
    have hr : ∀ k', rng p' k' (cpI I o p' sp.toNat dp.toNat n.toNat p' k') := by
      intro k'
      simp only [cpI, if_true]
      split
      · have h9 := hR.2.2.2.1 o (sp.toNat + (k' - dp.toNat))
        simp only [rng, ho7, hp7] at h9 ⊢
        exact h9
      · exact hR.2.2.2.1 p' k'
    have hR1 := hR.put (I' := cpI I o p' sp.toNat dp.toNat n.toNat) (R' := R) hWd hp (by rw [hp7]; exact Nat.le_of_ble_eq_true rfl) hE2 hI (Nat.le_trans C.2.2.2.2.2.2.2.2 hS1.1) hr (fun k' q hk hq => hR.2.2.2.2.1 p' k' q hp hk hq) hP1 hD1
    exact k x lv ad p e Rm s m args below meth c H1 locs1 lsC cells slots Z C (ret.step (Ext.put hp hI)) hR1 hS1 hL hst2 hc hs
end STEPS4
