/-! calls -/
set_option maxRecDepth 200000 in
theorem mCd_all : (mPl.map fun q => lw_tbl[q.1]?) = (mTab.take 209).map (fun e => some (Cond.code e.1 e.2.1 e.2.2.1 e.2.2.2.1)) := rfl
set_option maxRecDepth 100000 in
theorem mPl_len : mPl.length = 209 := rfl
set_option maxRecDepth 100000 in
theorem mTab_len : mTab.length = 210 := rfl
theorem mc_at {y : Nat} (h : y < 209) : Cond.code (mY y) (mB y) (mL y) (mR y) ∈ lwG := by
  have h1 : y < mPl.length := by rw [mPl_len]; exact h
  have h2 : y < mTab.length := by rw [mTab_len]; omega
  have e := congrArg (fun l => l[y]?) mCd_all
  simp only [List.getElem?_map, List.getElem?_take, if_pos h] at e
  rw [List.getElem?_eq_getElem h1, List.getElem?_eq_getElem h2] at e
  simp only [Option.map_some, Option.some.injEq] at e
  have e2 : mE y = mTab[y] := by rw [mE, List.getD_eq_getElem?_getD, List.getElem?_eq_getElem h2]; rfl
  refine List.mem_filter.mpr ⟨List.mem_of_getElem? (i := mPl[y].1) ?_, rfl⟩
  rw [e, mY, mB, mL, mR, e2]
theorem mOk_at {y : Nat} (h : y < 209) : mOk y = true ∧ mDs y = true := by
  rcases (show (0 ≤ y ∧ y < 20) ∨ (20 ≤ y ∧ y < 40) ∨ (40 ≤ y ∧ y < 60) ∨ (60 ≤ y ∧ y < 80) ∨ (80 ≤ y ∧ y < 100) ∨ (100 ≤ y ∧ y < 120) ∨ (120 ≤ y ∧ y < 140) ∨ (140 ≤ y ∧ y < 160) ∨ (160 ≤ y ∧ y < 180) ∨ (180 ≤ y ∧ y < 200) ∨ (200 ≤ y ∧ y < 209) by omega) with ⟨a, b⟩ | ⟨a, b⟩ | ⟨a, b⟩ | ⟨a, b⟩ | ⟨a, b⟩ | ⟨a, b⟩ | ⟨a, b⟩ | ⟨a, b⟩ | ⟨a, b⟩ | ⟨a, b⟩ | ⟨a, b⟩
  · have h1 := List.all_eq_true.mp mOk_0 (y - 0) (List.mem_range.mpr (by omega))
    have h2 := List.all_eq_true.mp mDs_0 (y - 0) (List.mem_range.mpr (by omega))
    rw [show 0 + (y - 0) = y by omega] at h1 h2
    exact ⟨h1, h2⟩
  · have h1 := List.all_eq_true.mp mOk_20 (y - 20) (List.mem_range.mpr (by omega))
    have h2 := List.all_eq_true.mp mDs_20 (y - 20) (List.mem_range.mpr (by omega))
    rw [show 20 + (y - 20) = y by omega] at h1 h2
    exact ⟨h1, h2⟩
  · have h1 := List.all_eq_true.mp mOk_40 (y - 40) (List.mem_range.mpr (by omega))
    have h2 := List.all_eq_true.mp mDs_40 (y - 40) (List.mem_range.mpr (by omega))
    rw [show 40 + (y - 40) = y by omega] at h1 h2
    exact ⟨h1, h2⟩
  · have h1 := List.all_eq_true.mp mOk_60 (y - 60) (List.mem_range.mpr (by omega))
    have h2 := List.all_eq_true.mp mDs_60 (y - 60) (List.mem_range.mpr (by omega))
    rw [show 60 + (y - 60) = y by omega] at h1 h2
    exact ⟨h1, h2⟩
  · have h1 := List.all_eq_true.mp mOk_80 (y - 80) (List.mem_range.mpr (by omega))
    have h2 := List.all_eq_true.mp mDs_80 (y - 80) (List.mem_range.mpr (by omega))
    rw [show 80 + (y - 80) = y by omega] at h1 h2
    exact ⟨h1, h2⟩
  · have h1 := List.all_eq_true.mp mOk_100 (y - 100) (List.mem_range.mpr (by omega))
    have h2 := List.all_eq_true.mp mDs_100 (y - 100) (List.mem_range.mpr (by omega))
    rw [show 100 + (y - 100) = y by omega] at h1 h2
    exact ⟨h1, h2⟩
  · have h1 := List.all_eq_true.mp mOk_120 (y - 120) (List.mem_range.mpr (by omega))
    have h2 := List.all_eq_true.mp mDs_120 (y - 120) (List.mem_range.mpr (by omega))
    rw [show 120 + (y - 120) = y by omega] at h1 h2
    exact ⟨h1, h2⟩
  · have h1 := List.all_eq_true.mp mOk_140 (y - 140) (List.mem_range.mpr (by omega))
    have h2 := List.all_eq_true.mp mDs_140 (y - 140) (List.mem_range.mpr (by omega))
    rw [show 140 + (y - 140) = y by omega] at h1 h2
    exact ⟨h1, h2⟩
  · have h1 := List.all_eq_true.mp mOk_160 (y - 160) (List.mem_range.mpr (by omega))
    have h2 := List.all_eq_true.mp mDs_160 (y - 160) (List.mem_range.mpr (by omega))
    rw [show 160 + (y - 160) = y by omega] at h1 h2
    exact ⟨h1, h2⟩
  · have h1 := List.all_eq_true.mp mOk_180 (y - 180) (List.mem_range.mpr (by omega))
    have h2 := List.all_eq_true.mp mDs_180 (y - 180) (List.mem_range.mpr (by omega))
    rw [show 180 + (y - 180) = y by omega] at h1 h2
    exact ⟨h1, h2⟩
  · have h1 := List.all_eq_true.mp mOk_200 (y - 200) (List.mem_range.mpr (by omega))
    have h2 := List.all_eq_true.mp mDs_200 (y - 200) (List.mem_range.mpr (by omega))
    rw [show 200 + (y - 200) = y by omega] at h1 h2
    exact ⟨h1, h2⟩
theorem cN_ok {o : Nat} (h : o < cNs.length) : cN o ≠ "java/lang/invoke/MethodHandle" ∧ cN o ≠ "java/lang/invoke/VarHandle" := by
  have h1 := List.all_eq_true.mp clsOk_b (cNs[o]) (List.getElem_mem h)
  have e : cN o = cNs[o] := by rw [cN, List.getD_eq_getElem?_getD, List.getElem?_eq_getElem h]; rfl
  rw [e]
  simpa [clsOk] using h1
/-- what the tables say of a method -/
theorem mFct {y : Nat} (h : y < 209) : Cond.code (mY y) (mB y) (mL y) (mR y) ∈ lwG ∧ Cond.initialized (mY y).cls ∈ lwG ∧ (mS y = true → Cond.static (mY y) ∈ lwG) ∧ (mS y = false → Cond.instanceMethod (mY y) ∈ lwG) ∧ (mS y = false → (mY y).name ≠ "<init>" → Cond.selects (mY y).cls (mY y) (mY y) ∈ lwG) ∧ mL y ≤ 30 ∧ ((mY y).cls ≠ "java/lang/invoke/MethodHandle" ∧ (mY y).cls ≠ "java/lang/invoke/VarHandle") ∧ (parseMethodDescriptor (mY y).desc).map (fun d => d.parameters.length) = some (mPl.getD y (0, 0, 0, 0, 99)).2.2.2.2 ∧ cN (mO y) = (mY y).cls := by
  obtain ⟨h1, h2⟩ := mOk_at h
  have h3 := List.all_eq_true.mp mO_b y (List.mem_range.mpr h)
  simp only [Bool.and_eq_true, decide_eq_true_eq] at h3
  have h4 := cN_ok h3.1
  rw [h3.2] at h4
  unfold mOk at h1
  rw [List.getElem?_eq_getElem (by rw [mPl_len]; exact h)] at h1
  simp only [Bool.and_eq_true, decide_eq_true_eq] at h1
  obtain ⟨⟨ha, hb⟩, hc⟩ := h1
  refine ⟨mc_at h, inG_mem ha, fun q => ?_, fun q => ?_, fun q hn => ?_, hc, h4, of_decide_eq_true h2, h3.2⟩
  · rw [q, if_pos rfl] at hb; exact inG_mem hb
  · rw [q, if_neg (by decide)] at hb
    simp only [Bool.and_eq_true] at hb
    exact inG_mem hb.1
  · rw [q, if_neg (by decide)] at hb
    simp only [Bool.and_eq_true, Bool.or_eq_true, beq_iff_eq] at hb
    exact inG_mem (hb.2.resolve_left hn)
def QX (x : CX) (lv : Nat → Prop) (ad : Nat → Nat) (I : MI) (R : MR) (nx : List Nat) (F : Option AV → MI → MR → Prop) : Array Value → State → Outcome → State → Prop := fun _ st oc t =>
  (∃ (lv' : Nat → Prop) (ad' : Nat → Nat) (I' : MI) (R' : MR) (rv : Option AV), oc = .returned (rv.map (rl ad')) ∧ F rv I' R' ∧ (∀ v ∈ rv, okv lv' v) ∧ Ext lv ad I R nx lv' ad' I' R' [] ∧ Rp x lv' ad' I' R' [] t t.heap) ∧ va_F (fun q => x.2.1 ≤ q) st t
/-- a method, called with these words in this world, returns, and F holds of its answer and the world behind -/
def Call (g : GX) (d : Nat) : CLT := fun y args I R nx F => ∀ (x : CX) (lv : Nat → Prop) (ad : Nat → Nat), (∀ v ∈ args, okv lv v) →
  Met g.1 (mY y) (mW y) ({ frames := d, cells := nx.length, slots := wt nx, locals := 60 * d }) (va_Pc (args.map (rl ad)) (fun U => RO g x U U.heap ∧ Rp x lv ad I R nx U U.heap ∧ x.2.1 ≤ U.heap.size)) (QX x lv ad I R nx F) nx.length (wt nx) (fun q => x.2.1 ≤ q)
theorem callBlind {g x av lv ad I R nx} : FrameBlind (va_Pc av (fun U => RO g x U U.heap ∧ Rp x lv ad I R nx U U.heap ∧ x.2.1 ≤ U.heap.size)) :=
  fun a U gg mk q => ⟨q.1, RO.same (u := U) (U := U.calling gg mk a) rfl q.2.1, Rp.moved (u := U) (U := U.calling gg mk a) (Vm.Alike.refl U.vm) q.2.2.1, q.2.2.2⟩
theorem mW_pay {y : Nat} {args : Array Value} {s : State} (h : y < 209) (hts : ∀ w ∈ lwG, w.before args s = true) : ∀ w ∈ mW y, ∀ (a' : Array Value) (U : State), s.WarmedH U.vm → w.before a' U = true := by
  intro w hw a' U hW
  have h1 : w ∈ lwG := by
    rcases List.mem_cons.mp hw with e | e
    · rw [e]; exact mc_at h
    · exact e
  exact word_at hW (good_of_word (List.mem_filter.mp h1).2) (hts w h1)
section CALLS
variable {g : GX} {d y : Nat} {Q : Option AV → MI → MR → Prop} {pc : Nat} {ls : LV} {t : List AV} {I : MI} {R : MR} {nx1 nx2 : List Nat}
theorem wt_app (a b : List Nat) : wt (a ++ b) = wt a + wt b := by simp [wt]
theorem afterCall {rest : List AV} {F : Option AV → MI → MR → Prop} {x : CX} {lv : Nat → Prop} {ad : Nat → Nat} {p : Program} {e : Env} {Rm : Room} {s : State} {m : MethodId} {args : Array Value} {below : List Frame} {meth : Method} {c : Code} {H : Heap} {locs : List Loc} {lsC : Array Slot} {cells slots : Nat} {Z : State → Prop} {a : Array Value} {st0 : List Value}
    (C : Ctx g (d + 1) y x p Rm s m args meth c) (ret : Ret g y Q x p e Rm s m args below meth c Z lv ad I R (nx1 ++ nx2)) (hR : Rp x lv ad I R (nx1 ++ nx2) s H) (hS : va_S (fun q => x.2.1 ≤ q) s.heap H locs) (hL : Lc lv ad ls lsC (mL y)) (hst : ∀ v ∈ rest, okv lv v) (hc : cells + (nx1 ++ nx2).length ≤ Rm.cells) (hs : slots + wt (nx1 ++ nx2) ≤ Rm.slots)
    (hF : ∀ rv I' R', F rv I' R' → AtP g (d + 1) y Q (pc + 3) ls (rv.toList ++ rest) I' R' nx2)
    (hr : va_Run p g.1 e Rm s m args below meth c H locs cells slots nx1.length (wt nx1) (F0 m pc lsC st0) (rest.map (rl ad)) (QX x lv ad I R nx1 F a) (fun q => x.2.1 ≤ q)) :
    W p g.1 e Rm s m args below meth c H locs cells slots Z (F0 m pc lsC st0) := by
  intro T hT X
  obtain ⟨v, st₀, tt, T', L, h0, X', hLL, e1, e2, ⟨⟨lv', ad', I', R', rv, hv, hf, hok, hE, hR1⟩, hz, hk⟩, st⟩ := hr T hT X
  rw [h0] at hz hk
  have hvm : s.vm.Alike tt.vm := by rw [← e2]; exact X'.warmed.alike
  cases hv
  have hR2 := hR1.moved (U := s) hvm.symm
  rw [← e1] at hR2
  obtain ⟨hb, hn, hnx, hrg, hrf, hsp, hw⟩ := hR
  have hn1 := (List.nodup_append.mp hn)
  have hR3 : Rp x lv' ad' I' R' nx2 s T'.heap := by
    obtain ⟨a1, -, -, a4⟩ := hR2
    refine ⟨a1, hn1.2.1, fun i hi => ?_, a4⟩
    have hni : ¬ lv' i := fun z => by
      rcases hE.2.1 i z with q | ⟨q, -⟩
      · exact (hnx i (List.mem_append_right _ hi)).1 q
      · exact hn1.2.2 i q i hi rfl
    refine ⟨hni, fun k => ?_⟩
    rw [(hE.2.2.2 i hni).1]
    exact ⟨((hnx i (List.mem_append_right _ hi)).2 k).1, fun z => by rw [(hE.2.2.2 i hni).2 k z]; exact ((hnx i (List.mem_append_right _ hi)).2 k).2 z⟩
  have hE2 : Ext lv ad I R (nx1 ++ nx2) lv' ad' I' R' nx2 := by
    refine ⟨hE.1, fun i hi => ?_, fun i hi => List.mem_append_right _ hi, hE.2.2.2⟩
    rcases hE.2.1 i hi with q | ⟨q, -⟩
    · exact Or.inl q
    · exact Or.inr ⟨List.mem_append_left _ q, fun z => hn1.2.2 i q i z rfl⟩
  have had : ∀ i, lv i → ad' i = ad i := fun i h => (hE.1 i h).2
  have hlv : ∀ i, lv i → lv' i := fun i h => (hE.1 i h).1
  have hS2 : va_S (fun q => x.2.1 ≤ q) s.heap T'.heap (locs ++ L) := by
    refine ⟨Nat.le_trans hS.1 (by rw [e1]; exact hz), fun q h1 h2 => ?_, fun q hq => ?_⟩
    · rw [e1, hk q (Nat.lt_of_lt_of_le h1 hS.1) h2]; exact hS.2.1 q h1 h2
    · rcases List.mem_append.mp hq with h | h
      · exact hS.2.2 q h
      · exact hLL q h
  have hok2 : ∀ v ∈ rv.toList ++ rest, okv lv' v := by
    intro v hv
    rcases List.mem_append.mp hv with h | h
    · exact hok v (Option.mem_toList.mp h)
    · exact okv_mono hlv (hst v h)
  have hA := hF rv I' R' hf x lv' ad' p e Rm s m args below meth c T'.heap (locs ++ L) lsC (cells + nx1.length) (slots + wt nx1) Z C (ret.step hE2) hR3 hS2 (hL.grow hlv had) hok2 (by rw [List.length_append] at hc; omega) (by rw [wt_app] at hs; omega)
  rw [List.map_append, map_rl had hst] at hA
  obtain ⟨t2, a1, b1⟩ := hA T' rfl X'
  refine ⟨t2, st t2 ?_, b1⟩
  have e9 : (Option.map (rl ad') rv).toList = List.map (rl ad') rv.toList := by cases rv <;> rfl
  rw [e9]
  exact a1
theorem preU {x lv ad p Rm s m args meth c H locs} (C : Ctx g (d + 1) y x p Rm s m args meth c) (hS : va_S (fun q => x.2.1 ≤ q) s.heap H locs) (hR : Rp x lv ad I R (nx1 ++ nx2) s H) : ∀ U : State, U.heap = H → s.WarmedH U.vm → RO g x U U.heap ∧ Rp x lv ad I R nx1 U U.heap ∧ x.2.1 ≤ U.heap.size := by
  intro U hU hW
  rw [hU]
  refine ⟨(C.2.2.2.2.2.2.2.1.kept hS.1 hS.2.1).moved hW, Rp.moved hW.alike ?_, Nat.le_trans C.2.2.2.2.2.2.2.2 hS.1⟩
  obtain ⟨a1, a2, a3, a4⟩ := hR
  exact ⟨a1, (List.nodup_append.mp a2).1, fun i hi => a3 i (List.mem_append_left _ hi), a4⟩

theorem s_callV {y' o n ix : Nat} {as : List AV} {F : Option AV → MI → MR → Prop} (h209 : y' < 209) (hl : Cond.methodLink (cN (mO y)) ix (mY y') ∈ lwG) (hms : mS y' = false) (hini : (mY y').name ≠ "<init>") (hnp : (mPl.getD y' (0, 0, 0, 0, 99)).2.2.2.2 = n) (hn : as.length = n) (hs7 : shp o = (0, mO y')) (h12 : mO y' < 12) (hl4 : t.length ≤ 4) (hd : decode (mB y) pc = .ok (.invokevirtual ix, 3))
    (h : Call g d y' (.inr (.inr (some o)) :: as) I R nx1 F) (hF : ∀ rv I' R', F rv I' R' → AtP g (d + 1) y Q (pc + 3) ls (rv.toList ++ t) I' R' nx2) : AtP g (d + 1) y Q pc ls (as.reverse ++ .inr (.inr (some o)) :: t) I R (nx1 ++ nx2) := by
  intro x lv ad p e Rm s m args below meth c H locs lsC cells slots Z C ret hR hS hL hst hc hs
  obtain ⟨f1, f2, f3, f4, f5, f6, f7, f8, f9⟩ := mFct h209
  have hw := C.2.2.2.2.1
  have hM := h x lv ad (fun v hv => hst v (by rcases List.mem_cons.mp hv with q | q; exact List.mem_append_right _ (List.mem_cons.mpr (Or.inl q)); exact List.mem_append_left _ (List.mem_reverse.mpr q)))
  have hfr := C.2.2.2.2.2.2.1
  have hnl : c.maxLocals = mL y := C.2.2.1
  have hsum := sum4 (ad := ad) hl4
  have hcb : mL y' ≤ 30 := f6
  have hpl : ∀ sig, parseMethodDescriptor (mY y').desc = some sig → n = sig.parameters.length := fun sig hh => by
    rw [hh, hnp] at f8
    exact (Option.some.inj f8).symm
  have hlk := hw _ hl
  have ho : lv o := hst (.inr (.inr (some o))) (List.mem_append_right _ List.mem_cons_self)
  have hst2 : ∀ v ∈ t, okv lv v := fun v hv => hst v (List.mem_append_right _ (List.mem_cons_of_mem _ hv))
  obtain ⟨tys, ws, pos, hWd⟩ := hR.2.2.2.2.2.2
  obtain ⟨e0, he, hE⟩ := hWd.2.2.2.1 o ho (by rw [hs7]; exact Nat.le_of_ble_eq_true rfl)
  simp only [Ent, hs7] at hE
  obtain ⟨-, rfl⟩ := hE
  have hrec := va_recv hWd.1 hWd.2.1 (inX _ h12).2.2.2 he
  rw [vwCl_nm _ h12, f9] at hrec
  have hp : PreV s H (mY y').cls (ad o) (va_Pc ((.inr (.inr (some o)) :: as : List AV).map (rl ad)) (fun U => RO g x U U.heap ∧ Rp x lv ad I R nx1 U U.heap ∧ x.2.1 ≤ U.heap.size)) (as.map (rl ad)) :=
    ⟨callBlind, hrec, fun U hU hW => ⟨rfl, preU C hS hR U hU hW⟩⟩
  have est : (as.reverse ++ .inr (.inr (some o)) :: t).map (rl ad) = (as.map (rl ad)).reverse ++ .ref (ad o) :: t.map (rl ad) := by
    rw [List.map_append, List.map_reverse]; rfl
  rw [est]
  refine afterCall C ret hR hS hL hst2 hc hs hF (va_runV (own := cN (mO y)) ⟨C.1, C.2.1, hnl, C.2.2.2.1, hw⟩ hM (n := n) ⟨⟨rfl, rfl, hfr.1, (by have := hfr.2; show 8 + (mL y' + 11) + 60 * d ≤ _; omega), mW_pay h209 hw, List.mem_cons_self, hw _ f1, hw _ f2, f7, hpl, hlk⟩, hw _ (f4 hms), hw _ (f5 hms hini)⟩ hp rfl (by rw [List.length_map]; exact hn) hL.1 rfl (by rw [show (F0 m pc lsC _).monitorRoom = 0 from rfl]; omega) hd ⟨?_, ?_⟩)
  · rw [List.length_append] at hc; omega
  · rw [wt_app] at hs; omega
theorem s_callS {y' n ix : Nat} {as : List AV} {F : Option AV → MI → MR → Prop} (h209 : y' < 209) (hl : Cond.methodLink (cN (mO y)) ix (mY y') ∈ lwG) (hms : mS y' = true) (hnp : (mPl.getD y' (0, 0, 0, 0, 99)).2.2.2.2 = n) (hn : as.length = n) (hl4 : t.length ≤ 4) (hd : decode (mB y) pc = .ok (.invokestatic ix, 3))
    (h : Call g d y' as I R nx1 F) (hF : ∀ rv I' R', F rv I' R' → AtP g (d + 1) y Q (pc + 3) ls (rv.toList ++ t) I' R' nx2) : AtP g (d + 1) y Q pc ls (as.reverse ++ t) I R (nx1 ++ nx2) := by
  intro x lv ad p e Rm s m args below meth c H locs lsC cells slots Z C ret hR hS hL hst hc hs
  obtain ⟨f1, f2, f3, f4, f5, f6, f7, f8, f9⟩ := mFct h209
  have hw := C.2.2.2.2.1
  have hM := h x lv ad (fun v hv => hst v (List.mem_append_left _ (List.mem_reverse.mpr hv)))
  have hfr := C.2.2.2.2.2.2.1
  have hnl : c.maxLocals = mL y := C.2.2.1
  have hsum := sum4 (ad := ad) hl4
  have hcb : mL y' ≤ 30 := f6
  have hpl : ∀ sig, parseMethodDescriptor (mY y').desc = some sig → n = sig.parameters.length := fun sig hh => by
    rw [hh, hnp] at f8
    exact (Option.some.inj f8).symm
  have hlk := hw _ hl
  have hst2 : ∀ v ∈ t, okv lv v := fun v hv => hst v (List.mem_append_right _ hv)
  have hp : PreS s H (va_Pc (as.map (rl ad)) (fun U => RO g x U U.heap ∧ Rp x lv ad I R nx1 U U.heap ∧ x.2.1 ≤ U.heap.size)) (as.map (rl ad)) :=
    ⟨callBlind, fun U hU hW => ⟨rfl, preU C hS hR U hU hW⟩⟩
  have est : (as.reverse ++ t).map (rl ad) = (as.map (rl ad)).reverse ++ t.map (rl ad) := by
    rw [List.map_append, List.map_reverse]
  rw [est]
  refine afterCall C ret hR hS hL hst2 hc hs hF (va_runS (own := cN (mO y)) ⟨C.1, C.2.1, hnl, C.2.2.2.1, hw⟩ hM (n := n) ⟨⟨rfl, rfl, hfr.1, (by have := hfr.2; show 8 + (mL y' + 11) + 60 * d ≤ _; omega), mW_pay h209 hw, List.mem_cons_self, hw _ f1, hw _ f2, f7, hpl, hlk⟩, hw _ (f3 hms)⟩ hp rfl (by rw [List.length_map]; exact hn) hL.1 rfl (by rw [show (F0 m pc lsC _).monitorRoom = 0 from rfl]; omega) hd ⟨?_, ?_⟩)
  · rw [List.length_append] at hc; omega
  · rw [wt_app] at hs; omega
theorem s_callI {y' o n ix : Nat} {as : List AV} {F : Option AV → MI → MR → Prop} (hl : Cond.methodLink (cN (mO y)) ix (mY y') ∈ lwG) (h209 : y' < 209) (hms : mS y' = false) (hini : (mY y').name = "<init>") (hnp : (mPl.getD y' (0, 0, 0, 0, 99)).2.2.2.2 = n) (hn : as.length = n) (hrt : mR y' = none) (hl4 : t.length ≤ 4) (hd : decode (mB y) pc = .ok (.invokespecial ix, 3))
    (h : Call g d y' (.inr (.inr (some o)) :: as) I R nx1 F) (hF : ∀ rv I' R', F rv I' R' → AtP g (d + 1) y Q (pc + 3) ls (rv.toList ++ t) I' R' nx2) : AtP g (d + 1) y Q pc ls (as.reverse ++ .inr (.inr (some o)) :: t) I R (nx1 ++ nx2) := by
  intro x lv ad p e Rm s m args below meth c H locs lsC cells slots Z C ret hR hS hL hst hc hs
  obtain ⟨f1, f2, f3, f4, f5, f6, f7, f8, f9⟩ := mFct h209
  have hw := C.2.2.2.2.1
  have hM := h x lv ad (fun v hv => hst v (by rcases List.mem_cons.mp hv with q | q; exact List.mem_append_right _ (List.mem_cons.mpr (Or.inl q)); exact List.mem_append_left _ (List.mem_reverse.mpr q)))
  have hfr := C.2.2.2.2.2.2.1
  have hnl : c.maxLocals = mL y := C.2.2.1
  have hsum := sum4 (ad := ad) hl4
  have hcb : mL y' ≤ 30 := f6
  have hpl : ∀ sig, parseMethodDescriptor (mY y').desc = some sig → n = sig.parameters.length := fun sig hh => by
    rw [hh, hnp] at f8
    exact (Option.some.inj f8).symm
  have hlk := hw _ hl
  skip
  have hst2 : ∀ v ∈ t, okv lv v := fun v hv => hst v (List.mem_append_right _ (List.mem_cons_of_mem _ hv))
  have hp : PreS s H (va_Pc ((.inr (.inr (some o)) :: as : List AV).map (rl ad)) (fun U => RO g x U U.heap ∧ Rp x lv ad I R nx1 U U.heap ∧ x.2.1 ≤ U.heap.size)) (.ref (ad o) :: as.map (rl ad)) :=
    ⟨callBlind, fun U hU hW => ⟨rfl, preU C hS hR U hU hW⟩⟩
  have est : (as.reverse ++ .inr (.inr (some o)) :: t).map (rl ad) = (as.map (rl ad)).reverse ++ .ref (ad o) :: t.map (rl ad) := by
    rw [List.map_append, List.map_reverse]; rfl
  rw [est]
  rw [hrt] at f1
  have hM2 := hM
  refine afterCall C ret hR hS hL hst2 hc hs hF (va_runI (own := cN (mO y)) (bytes := mB y') (maxL := mL y') ⟨C.1, C.2.1, hnl, C.2.2.2.1, hw⟩ hM (n := n) ⟨⟨rfl, rfl, hfr.1, (by have := hfr.2; show 8 + (mL y' + 11) + 60 * d ≤ _; omega), mW_pay h209 hw, (by rw [← hrt]; exact List.mem_cons_self), hw _ f1, hw _ f2, f7, hpl, hlk⟩, hini, hw _ (f4 hms)⟩ hp rfl (by rw [List.length_map]; exact hn) hL.1 rfl (by rw [show (F0 m pc lsC _).monitorRoom = 0 from rfl]; omega) hd ⟨?_, ?_⟩)
  · rw [List.length_append] at hc; omega
  · rw [wt_app] at hs; omega
theorem s_callN {y' o n ix : Nat} {as : List AV} {F : Option AV → MI → MR → Prop} {q : Nat × Nat × Nat × Nat} (hq : q ∈ lkN) (hq1 : q.1 = mO y) (hq2 : q.2.2.1 = y') (hq3 : q.2.1 = ix) (h209 : y' < 209) (hms : mS y' = false) (hini : (mY y').name = "<init>") (hnp : (mPl.getD y' (0, 0, 0, 0, 99)).2.2.2.2 = n) (hn : as.length = n) (hrt : mR y' = none) (hl4 : t.length ≤ 4) (hd : decode (mB y) pc = .ok (.invokespecial ix, 3))
    (h : Call g d y' (.inr (.inr (some o)) :: as) I R nx1 F) (hF : ∀ rv I' R', F rv I' R' → AtP g (d + 1) y Q (pc + 3) ls (rv.toList ++ t) I' R' nx2) : AtP g (d + 1) y Q pc ls (as.reverse ++ .inr (.inr (some o)) :: t) I R (nx1 ++ nx2) := by
  intro x lv ad p e Rm s m args below meth c H locs lsC cells slots Z C ret hR hS hL hst hc hs
  obtain ⟨f1, f2, f3, f4, f5, f6, f7, f8, f9⟩ := mFct h209
  have hw := C.2.2.2.2.1
  have hM := h x lv ad (fun v hv => hst v (by rcases List.mem_cons.mp hv with q | q; exact List.mem_append_right _ (List.mem_cons.mpr (Or.inl q)); exact List.mem_append_left _ (List.mem_reverse.mpr q)))
  have hfr := C.2.2.2.2.2.2.1
  have hnl : c.maxLocals = mL y := C.2.2.1
  have hsum := sum4 (ad := ad) hl4
  have hcb : mL y' ≤ 30 := f6
  have hpl : ∀ sig, parseMethodDescriptor (mY y').desc = some sig → n = sig.parameters.length := fun sig hh => by
    rw [hh, hnp] at f8
    exact (Option.some.inj f8).symm
  have hlk := va_Nw.use (A := args) rfl (C.2.2.2.2.2.2.2.1.2.2.2.1 q hq)
  rw [lkN_c, hq1, hq2, hq3] at hlk
  have hst2 : ∀ v ∈ t, okv lv v := fun v hv => hst v (List.mem_append_right _ (List.mem_cons_of_mem _ hv))
  have hp : PreS s H (va_Pc ((.inr (.inr (some o)) :: as : List AV).map (rl ad)) (fun U => RO g x U U.heap ∧ Rp x lv ad I R nx1 U U.heap ∧ x.2.1 ≤ U.heap.size)) (.ref (ad o) :: as.map (rl ad)) :=
    ⟨callBlind, fun U hU hW => ⟨rfl, preU C hS hR U hU hW⟩⟩
  have est : (as.reverse ++ .inr (.inr (some o)) :: t).map (rl ad) = (as.map (rl ad)).reverse ++ .ref (ad o) :: t.map (rl ad) := by
    rw [List.map_append, List.map_reverse]; rfl
  rw [est]
  rw [hrt] at f1
  have hM2 := hM
  refine afterCall C ret hR hS hL hst2 hc hs hF (va_runIN (own := cN (mO y)) (bytes := mB y') (maxL := mL y') ⟨C.1, C.2.1, hnl, C.2.2.2.1, hw⟩ hM (n := n) ⟨⟨⟨rfl, rfl, hfr.1, (by have := hfr.2; show 8 + (mL y' + 11) + 60 * d ≤ _; omega), mW_pay h209 hw, (by rw [← hrt]; exact List.mem_cons_self)⟩, hw _ f1, hw _ f2, f7, hpl, hlk⟩, hini, hw _ (f4 hms)⟩ hp rfl (by rw [List.length_map]; exact hn) hL.1 rfl (by rw [show (F0 m pc lsC _).monitorRoom = 0 from rfl]; omega) hd ⟨?_, ?_⟩)
  · rw [List.length_append] at hc; omega
  · rw [wt_app] at hs; omega
end CALLS
