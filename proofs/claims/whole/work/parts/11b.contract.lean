/-! a method's contract out of its rows -/
def entL : List AV → LV
  | [] => []
  | .inr (.inl x) :: vs => some (.inr (.inl x)) :: none :: entL vs
  | .inl x :: vs => some (.inl x) :: entL vs
  | .inr (.inr r) :: vs => some (.inr (.inr r)) :: entL vs
def ent0 (args : List AV) (n : Nat) : LV := entL args ++ List.replicate (n - (entL args).length) none
theorem nth_app_none : ∀ (l : LV) (n i : Nat) (v : AV), nth (l ++ List.replicate n none) i = some v → nth l i = some v
  | [], 0, i, v, h => h
  | [], n + 1, 0, v, h => by simp [nth, List.replicate_succ] at h
  | [], n + 1, i + 1, v, h => by
    rw [List.nil_append, List.replicate_succ] at h
    exact nth_app_none [] n i v (by simpa [nth] using h) |> fun z => by simp [nth] at z
  | a :: l, n, 0, v, h => h
  | a :: l, n, i + 1, v, h => nth_app_none l n i v h
theorem entL_sp (ad : Nat → Nat) : ∀ (args : List AV) (k i : Nat) (v : AV), nth (entL args) i = some v → v ∈ args ∧ (k + i, rl ad v) ∈ lv_args k (args.map (rl ad))
  | [], k, i, v, h => by simp [entL, nth] at h
  | .inl x :: vs, k, 0, v, h => by
    simp only [entL, nth, Option.some.injEq] at h
    subst h
    exact ⟨List.mem_cons_self, List.mem_cons_self⟩
  | .inl x :: vs, k, i + 1, v, h => by
    obtain ⟨h1, h2⟩ := entL_sp ad vs (k + 1) i v h
    exact ⟨List.mem_cons_of_mem _ h1, List.mem_cons_of_mem _ (by rw [show k + (i + 1) = k + 1 + i by omega]; exact h2)⟩
  | .inr (.inr none) :: vs, k, 0, v, h => by
    simp only [entL, nth, Option.some.injEq] at h
    subst h
    exact ⟨List.mem_cons_self, List.mem_cons_self⟩
  | .inr (.inr none) :: vs, k, i + 1, v, h => by
    obtain ⟨h1, h2⟩ := entL_sp ad vs (k + 1) i v h
    exact ⟨List.mem_cons_of_mem _ h1, List.mem_cons_of_mem _ (by rw [show k + (i + 1) = k + 1 + i by omega]; exact h2)⟩
  | .inr (.inr (some o)) :: vs, k, 0, v, h => by
    simp only [entL, nth, Option.some.injEq] at h
    subst h
    exact ⟨List.mem_cons_self, List.mem_cons_self⟩
  | .inr (.inr (some o)) :: vs, k, i + 1, v, h => by
    obtain ⟨h1, h2⟩ := entL_sp ad vs (k + 1) i v h
    exact ⟨List.mem_cons_of_mem _ h1, List.mem_cons_of_mem _ (by rw [show k + (i + 1) = k + 1 + i by omega]; exact h2)⟩
  | .inr (.inl x) :: vs, k, 0, v, h => by
    simp only [entL, nth, Option.some.injEq] at h
    subst h
    exact ⟨List.mem_cons_self, List.mem_cons_self⟩
  | .inr (.inl x) :: vs, k, 1, v, h => by simp [entL, nth] at h
  | .inr (.inl x) :: vs, k, i + 2, v, h => by
    obtain ⟨h1, h2⟩ := entL_sp ad vs (k + 2) i v h
    exact ⟨List.mem_cons_of_mem _ h1, List.mem_cons_of_mem _ (by rw [show k + (i + 2) = k + 2 + i by omega]; exact h2)⟩
theorem entL_len (ad : Nat → Nat) : ∀ (args : List AV), (lg_sl (args.map (rl ad))).length = (entL args).length
  | [] => rfl
  | .inl x :: vs => by
    have e : lg_sl ((.inl x :: vs : List AV).map (rl ad)) = Slot.val (rl ad (.inl x)) :: lg_sl (vs.map (rl ad)) := rfl
    rw [e, List.length_cons, entL_len ad vs]
    rfl
  | .inr (.inr none) :: vs => by
    have e : lg_sl ((.inr (.inr none) :: vs : List AV).map (rl ad)) = Slot.val (rl ad (.inr (.inr none))) :: lg_sl (vs.map (rl ad)) := rfl
    rw [e, List.length_cons, entL_len ad vs]
    rfl
  | .inr (.inr (some o)) :: vs => by
    have e : lg_sl ((.inr (.inr (some o)) :: vs : List AV).map (rl ad)) = Slot.val (rl ad (.inr (.inr (some o)))) :: lg_sl (vs.map (rl ad)) := rfl
    rw [e, List.length_cons, entL_len ad vs]
    rfl
  | .inr (.inl x) :: vs => by
    have e : lg_sl ((.inr (.inl x) :: vs : List AV).map (rl ad)) = Slot.val (rl ad (.inr (.inl x))) :: Slot.second :: lg_sl (vs.map (rl ad)) := rfl
    rw [e, List.length_cons, List.length_cons, entL_len ad vs]
    rfl
theorem ent0_Lc {lv : Nat → Prop} {ad : Nat → Nat} {args : List AV} {n : Nat} {lsC : Array Slot} (h : lv_has lsC n (lv_args 0 (args.map (rl ad)))) (hok : ∀ v ∈ args, okv lv v) (hl : (entL args).length ≤ n) : Lc lv ad (ent0 args n) lsC n := by
  refine ⟨h.1, h.2.1, ?_, fun i v hv => ?_⟩
  · rw [ent0, List.length_append, List.length_replicate]; omega
  · obtain ⟨h1, h2⟩ := entL_sp ad args 0 i v (nth_app_none _ _ _ _ hv)
    rw [Nat.zero_add] at h2
    exact ⟨hok v h1, h.2.2 _ h2⟩
/-- what a program has checked of a method: its rows, its answer's kind -/
def MB (y : Nat) (B : List CD) (rt nL : Nat) : Prop := y < 209 ∧ plainName (mY y).cls = true ∧ B.all (chkL (mO y) (decide ((mY y).name = "<init>")) (mB y) B) = true ∧ mR y = rtT rt ∧ mL y = nL
theorem atOf {g : GX} {d y : Nat} {Q : Option AV → MI → MR → Prop} {B : List CD} {rt nL : Nat} (hM : MB y B rt nL) (b : Nat) {pc : Nat} (hpc : pcO (B.getD b []) = pc) {ls : LV} {st : List AV} {I : MI} {R : MR} {nx : List Nat}
    (h : xw g (AtP g (d + 1) y Q) (Call g d) Q rt (fun b => B.getD b []) 2000 (B.getD b []) ls st I R nx) : AtP g (d + 1) y Q pc ls st I R nx := by
  obtain ⟨h1, h2, h3, h4, -⟩ := hM
  rw [← hpc]
  refine xw_sound h3 (fun z => of_decide_eq_true z) h4 (mFct h1).2.2.2.2.2.2.2.2 2000 _ ls st I R nx ?_ h
  rw [List.getD_eq_getElem?_getD]
  cases hg : B[b]? with
  | none => rfl
  | some l => exact List.all_eq_true.mp h3 l (List.mem_of_getElem? hg)
set_option maxHeartbeats 4000000 in
theorem callOf {g : GX} {d y : Nat} {F : Option AV → MI → MR → Prop} {B : List CD} {rt nL : Nat} (hM : MB y B rt nL) {args : List AV} (ls : LV) (hls : ls = ent0 args nL) (hlen : (entL args).length ≤ nL) {I : MI} {R : MR} {nx : List Nat} (h : AtP g (d + 1) y F 0 ls [] I R nx) : Call g (d + 1) y args I R nx F := by
  intro x lv ad hok
  obtain ⟨h209, hpl, h3, h4, rfl⟩ := hM
  subst hls
  obtain ⟨f1, f2, f3, f4, f5, f6, f7, f8, f9⟩ := mFct h209
  refine Met.ofW (cc := mB y) (maxL := mL y) (ret := mR y) hpl rfl ?_
  intro p e s m args2 below meth c s₁ B2 hml hv
  obtain ⟨rfl, hRO, hR, hbz⟩ := hv
  have hts := atoms_spec (ws := mW y) B2.pre
  have hown : s.vm.findClass (mY y).cls = some m.cls := findClass_of_methodNamed B2.named
  have hlocks := B2.notSynchronized
  have hin : meth.name = (mY y).name := (name_of_methodNamed B2.named B2.method).1
  have hr : meth.sig.returnType = mR y := B2.returns
  have hl := lv_entry (args.map (rl ad)) (n := mL y) (by rw [entL_len]; exact hlen)
  rw [lg_entry_eq]
  generalize (lg_sl (args.map (rl ad)) ++ List.replicate (mL y - (lg_sl (args.map (rl ad))).length) Slot.unset).toArray = lsC at hl ⊢
  have C : Ctx g (d + 1) y x p ({ frames := d + 1, cells := nx.length, slots := wt nx, locals := 60 * (d + 1) } : Room) s m (args.map (rl ad)).toArray meth c :=
    ⟨B2.exec, B2.bytes, hml, by rw [f9]; exact hown, fun w hw => hts w (List.mem_cons_of_mem _ hw), fun z => by rw [hin, z], ⟨Nat.le_refl _, Nat.le_refl _⟩, hRO, hbz⟩
  have hret : Ret g y F x p e ({ frames := d + 1, cells := nx.length, slots := wt nx, locals := 60 * (d + 1) } : Room) s m (args.map (rl ad)).toArray below meth c (MQ below (QX x lv ad I R nx F) (args.map (rl ad)).toArray s nx.length (wt nx) (fun q => x.2.1 ≤ q)) lv ad I R nx := by
    intro lv' ad' I' R' nx' H' locs' cells' slots' pc lsC' rv i hE hR' hS' hok' hc hs hrt hq hi hd
    refine W.widen (k := nx.length) (n := wt nx) hc hs ?_
    have hE2 : Ext lv ad I R nx lv' ad' I' R' [] := ⟨hE.1, fun i h => (hE.2.1 i h).imp id (fun z => ⟨z.1, List.not_mem_nil⟩), fun i h => absurd h List.not_mem_nil, hE.2.2.2⟩
    have fin : ∀ t : State, t.heap = H' → s.WarmedH t.vm → QX x lv ad I R nx F (args.map (rl ad)).toArray s (.returned (rv.map (rl ad'))) t := by
      intro t ht hW
      exact ⟨⟨lv', ad', I', R', rv, rfl, hq, hok', hE2, by rw [ht]; exact (hR'.nil).moved hW.alike⟩, hS'.F ht⟩
    match rv, hi, hrt, fin with
    | none, hi, hrt, fin =>
      cases hi
      have hn : mR y = none := by
        cases hz : mR y with
        | none => rfl
        | some ty => rw [hz] at hrt; cases ty <;> exact hrt.elim
      exact W.vret B2.exec B2.bytes (by rw [hr, hn]) fin hS'.2.2 hd
    | some (.inl v), hi, hrt, fin =>
      cases hi
      rw [h4] at hrt
      match rt, h4, hrt with
      | 1, h4, _ => exact W.iret B2.exec B2.bytes (by rw [hr, h4]; rfl) fin hS'.2.2 hd
      | n + 2, h4, hrt =>
        refine W.zret (ty := .boolean) B2.exec B2.bytes (by rw [hr, h4]; rfl) ?_ fin hS'.2.2 hd
        rcases hrt with rfl | rfl <;> rfl
  have hA := h x lv ad p e _ s m (args.map (rl ad)).toArray below meth c s.heap [] lsC 0 0 _ C hret hR va_S.rf (ent0_Lc hl hok hlen) (fun v hv => absurd hv List.not_mem_nil) (by show 0 + nx.length ≤ nx.length; omega) (by show 0 + wt nx ≤ wt nx; omega)
  exact hA
/-- the references outside the cells' own places don't matter -/
theorem Ent.sw {tys ad I R R2 o e} (h : Ent tys ad I R o e) (hR : ∀ k, k < rsz o → R o k = R2 o k) : Ent tys ad I R2 o e := by
  unfold Ent at h ⊢
  unfold rsz at hR
  generalize hsh : shp o = sh at h hR ⊢
  obtain ⟨a, b⟩ := sh
  match a, h with
  | 0, h =>
    refine ⟨h.1, h.2.trans ?_⟩
    congr 2
    unfold flds
    apply List.map_congr_left
    intro k hk
    have hk2 : k < (clE b).2.2 := List.mem_range.mp hk
    have h100 := (clTy_k b h.1 k hk2).2
    unfold fvl
    rw [show (b * 100 + k) % 100 = k by omega, hR k (by rw [if_pos rfl]; omega)]
  | 1, h => exact h
  | 2, h => exact h
  | 3, h => exact h
  | 4, h => exact h
  | 5, h => obtain ⟨t0, cA, f, ht, hf, he⟩ := h; exact ⟨t0, cA, f, ht, fun k hk => by rw [hf k hk, hR k (by rw [if_neg (show ¬ (5 : Nat) = 0 by decide)]; exact hk)], he⟩
  | 6, h => obtain ⟨t0, cA, f, ht, hf, he⟩ := h; exact ⟨t0, cA, f, ht, fun k hk => by rw [hf k hk, hR k (by rw [if_neg (show ¬ (6 : Nat) = 0 by decide)]; exact hk)], he⟩
  | n + 7, h => exact h
theorem AtP.swap {g : GX} {d y : Nat} {Q : Option AV → MI → MR → Prop} {pc : Nat} {ls : LV} {st : List AV} {I : MI} {R R2 : MR} {nx : List Nat} (hR2 : ∀ o k, k < rsz o → R o k = R2 o k) (h : AtP g d y Q pc ls st I R2 nx) : AtP g d y Q pc ls st I R nx := by
  intro x lv ad p e Rm s m args below meth c H locs lsC cells slots Z C ret hR hS hL hst hc hs
  refine h x lv ad p e Rm s m args below meth c H locs lsC cells slots Z C ?_ ?_ hS hL hst hc hs
  · intro lv' ad' I' R' nx' H' locs' cells' slots' pc' lsC' rv i hE
    exact ret lv' ad' I' R' nx' H' locs' cells' slots' pc' lsC' rv i ⟨hE.1, hE.2.1, hE.2.2.1, fun j hj => ⟨(hE.2.2.2 j hj).1, fun k hk => by rw [(hE.2.2.2 j hj).2 k hk, hR2 j k hk]⟩⟩
  · obtain ⟨h1, h2, h3, h4, h5, h6, tys, ws, pos, w1, w2, w3, w4, w5⟩ := hR
    refine ⟨h1, h2, fun i hi => ⟨(h3 i hi).1, fun k => ⟨((h3 i hi).2 k).1, fun hk => by rw [← hR2 i k hk]; exact ((h3 i hi).2 k).2 hk⟩⟩, h4, fun o k j ho hk hj => h5 o k j ho hk (by rw [hR2 o k hk]; exact hj), h6, tys, ws, pos, w1, w2, w3, fun o ho hs => ?_, w5⟩
    obtain ⟨e0, he0, hE0⟩ := w4 o ho hs
    exact ⟨e0, he0, hE0.sw (hR2 o)⟩
