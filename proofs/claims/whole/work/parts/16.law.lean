/-! the claim's walk out of the abstract machine's run of the law -/
def laI : MI := fun _ _ => 0
def laR : MR := fun _ _ => none
def laQ : Option AV → MI → MR → Prop := fun rv _ _ => rv = some (.inl 1)
theorem lkN_in {q} (h : q ∈ lkN) : lkN_c q ∈ lw_tbl := List.mem_of_getElem? (of_decide_eq_true (List.all_eq_true.mp lkN_b q h))
theorem tx_flat : ∀ j : Nat, j < 126 → Cond.eq (.elem (.field (.string "TongueCamp$Reader" 155) "java/lang/String" "value" "[B") (.int (Int32.ofNat j))) (.int (spI.getD j 0)) ∈ flatC (Jvm.Cond.and given_1 narrow_1) := by decide +kernel
theorem tx_of {args : Array Value} {s : State} {D : va_G} {b : Nat} (hts : ∀ w ∈ lw_tbl, w.before args s = true) (hgv : (Jvm.Cond.and given_1 narrow_1).before args s = true) : ∃ aK : Nat, RS (D, s.heap.size, aK, b) s s.heap := by
  have hs := flat_of_before _ hgv
  have hA : ∀ a : Nat, a < s.heap.size → ¬ s.heap.size ≤ a := fun a h => by omega
  obtain ⟨adK, adV, hS, hev⟩ := vk_Sof (N := 1) (tm := fun _ => Term.string "TongueCamp$Reader" 155) (len := [126]) (byt := [spI]) (A := fun q => s.heap.size ≤ q) (args := args) (s := s)
    (fun i hi => by
      have : i = 0 := by omega
      subst this
      decide)
    (fun i hi => hs (Cond.exactly (.string "TongueCamp$Reader" 155) "java/lang/String") (by decide +kernel))
    (fun i hi => hs (Cond.eq (.field (.string "TongueCamp$Reader" 155) "java/lang/String" "coder" "B") (.int 0)) (by decide +kernel))
    (fun i hi => hs (Cond.arrayOf (.field (.string "TongueCamp$Reader" 155) "java/lang/String" "value" "[B") .byte) (by decide +kernel))
    (fun i hi => by
      have : i = 0 := by omega
      subst this
      exact hs (Cond.eq (.length (.field (.string "TongueCamp$Reader" 155) "java/lang/String" "value" "[B")) (.int (Int32.ofNat 126))) (by decide +kernel))
    (fun i hi j hj => by
      have : i = 0 := by omega
      subst this
      exact hs _ (tx_flat j hj))
    (fun i j hi hj hij => by omega) hA
  refine ⟨adK 0, vk_R.of (A := args) (hts _ (List.mem_of_getElem? (i := 843) (by decide +kernel))) (hev 0 (by omega)), ⟨adV 0, fun i hi => ?_, fun i j hi hj _ => by omega⟩, va_Zof (args := args) (hts _ (List.mem_of_getElem? (i := 853) (by decide +kernel))) (hts _ (List.mem_of_getElem? (i := 94) (by decide +kernel))) (va_eqi (hs _ (by decide +kernel))) hA, va_Zqof (args := args) (hts _ (List.mem_of_getElem? (i := 861) (by decide +kernel))) (hts _ (List.mem_of_getElem? (i := 96) (by decide +kernel))) (hs _ (by decide +kernel)) hA⟩
  have : i = 0 := by omega
  subst this
  exact hS.1 0 hi
theorem whole_of {d : Nat} (hd : d ≤ 1400) {nx : List Nat} (hnd : nx.Nodup) (hnx : ∀ i ∈ nx, i ≠ 997 ∧ i ≠ 999) (hlen : nx.length ≤ 600000) (hwt : wt nx ≤ 7302250)
    (hA : ∀ g : GX, g.2.1 ≤ 3072 → (∀ k, i32 (g.2.2 k)) → AtP g d 209 laQ 0 [some (.inr (.inr (some 999))), none, none, none] [] laI laR nx)
    {p : Program} {e : Env} {s : State} {m : MethodId} {below : List Frame} {meth : Method} {c : Code} (l : Launch) {b L : Nat} {xs : Nat → Int32} (hL : L ≤ 3072) (C0 : lw_At p s m meth c b L xs) : W p l e room_1 s m #[Value.ref b] below meth c s.heap [] 0 0 (lw_Z below #[Value.ref b] s) (entryFrame m ([Value.ref b] : List Value).toArray 4) := by
  obtain ⟨hx, hb, hr, hml, hown, hts, hX, hbl, hlocks, hgv⟩ := C0
  have htg : ∀ w ∈ lwG, w.before #[Value.ref b] s = true := fun w hw => hts w (List.mem_filter.mp hw).1
  have hkn : ∀ ci, ∃ (cC : ClassId) (iS : Nat → Nat), ci < 12 → u_Kn s (clE ci).1 (clE ci).2.1 (clE ci).2.2 cC iS := by
    intro ci
    by_cases h : ci < 12
    · obtain ⟨cC, iS, hk⟩ := u_known htg (inX ci h).1 (htg _ (clI_at h).1)
      exact ⟨cC, iS, fun _ => hk⟩
    · exact ⟨0, fun _ => 0, fun z => absurd z h⟩
  obtain ⟨dC, hdC⟩ := Classical.axiomOfChoice hkn
  obtain ⟨dI, hdI⟩ := Classical.axiomOfChoice hdC
  let g : GX := (l, L, fun k => (xs k).toInt)
  obtain ⟨aK, hTX⟩ := tx_of (D := (dC, dI)) (b := b) hts hgv
  let x : CX := ((dC, dI), s.heap.size, aK, b)
  have hK : va_K (dC, dI) vwCl [] s := by
    refine ⟨fun k q hq => ?_, fun k q h => by simp at h⟩
    have hk : k < 12 := (List.getElem?_eq_some_iff.mp hq).1
    rw [(inX k hk).2.2.2] at hq
    cases hq
    exact hdI k hk
  have hRO : RO g x s s.heap := by
    refine ⟨?_, hbl, hbl, fun q hq => va_Nw.of rfl (hts _ (lkN_in hq)), ⟨va_AO.of (hts _ (List.mem_of_getElem? (i := 114) (by decide +kernel))), va_AO.of (hts _ (List.mem_of_getElem? (i := 333) (by decide +kernel)))⟩, hTX, fun k => i32_of _, by show L < _; omega⟩
    have e1 : (fun k => Int32.ofInt (g.2.2 k)) = xs := by funext k; exact Int32.ofInt_toInt _
    rw [e1]
    exact hX
  have C : Ctx g d 209 x p room_1 s m #[Value.ref b] meth c := ⟨hx, hb, hml, hown, htg, fun z => absurd z (by decide +kernel), ⟨by show d ≤ 2048; omega, by show 60 * d ≤ 84000; omega⟩, hRO, Nat.le_refl _⟩
  have hR : Rp x (fun i => i = 997 ∨ i = 999) (fun i => if i = 999 then b else aK) laI laR nx s s.heap := by
    have h0 : ∀ o k j : Nat, (o = 997 ∨ o = 999) → k < rsz o → laR o k = some j → (j = 997 ∨ j = 999) := fun o k j _ _ h => by
      simp [laR] at h
    have h1 : ∀ o, (o = 997 ∨ o = 999) → ¬ (shp o).1 < 7 := fun o ho => by
      rcases ho with rfl | rfl <;> decide
    have h2 : ∀ o k, rng o k (laI o k) := fun o k => by
      unfold rng laI
      split
      · split <;> exact ⟨by decide, by decide⟩
      · exact ⟨by decide, by decide⟩
      · exact ⟨by decide, by decide⟩
      · exact ⟨by decide, by decide⟩
      · exact ⟨by decide, by decide⟩
    have hP : va_P x.1 vwCl [] s.heap := fun k q h => by simp at h
    have hD : va_D (fun q => x.2.1 ≤ q) [] := ⟨fun i j p q h => by simp at h, fun k q h => by simp at h⟩
    refine ⟨Nat.le_refl _, hnd, fun i hi => ⟨fun z => ?_, fun k => ⟨rfl, fun _ => rfl⟩⟩, h2, h0, ⟨Or.inl rfl, Or.inr rfl, rfl, rfl⟩, [], [], id, hK, hP, hD, fun o ho hs => absurd hs (h1 o ho), fun o o' ho ho' hs hs' h => h⟩
    rcases z with z | z
    · exact (hnx i hi).1 z
    · exact (hnx i hi).2 z
  have hret : Ret g 209 laQ x p e room_1 s m #[Value.ref b] below meth c (lw_Z below #[Value.ref b] s) (fun i => i = 997 ∨ i = 999) (fun i => if i = 999 then b else aK) laI laR nx := by
    intro lv' ad' I' R' nx' H' locs' cells' slots' pc lsC rv i hE hR' hS' hok' hc hs hrt hq hi hdd
    refine va_forget (fun q hq => hS'.2.2 q hq) ?_
    refine W.widen (k := 600000) (n := 7302250) hc hs ?_
    have e1 : rv = some (.inl 1) := hq
    subst e1
    cases hi
    exact lw_ret hx hb hr hlocks hdd
  have hl := lv_entry ([.ref b]) (n := 4) (Nat.le_of_ble_eq_true rfl)
  rw [lg_entry_eq]
  generalize (lg_sl ([.ref b]) ++ List.replicate (4 - (lg_sl ([.ref b])).length) Slot.unset).toArray = lsC at hl ⊢
  have hLc : Lc (fun i => i = 997 ∨ i = 999) (fun i => if i = 999 then b else aK) [some (.inr (.inr (some 999))), none, none, none] lsC 4 := by
    refine ⟨hl.1, hl.2.1, by decide, fun i v hv => ?_⟩
    match i, hv with
    | 0, hv =>
      simp only [nth, Option.some.injEq] at hv
      subst hv
      exact ⟨Or.inr rfl, hl.2.2 (0, .ref b) List.mem_cons_self⟩
    | 1, hv => simp [nth] at hv
    | 2, hv => simp [nth] at hv
    | 3, hv => simp [nth] at hv
    | n + 4, hv => simp [nth] at hv
  exact hA g hL (fun k => i32_of _) x _ _ p e room_1 s m #[Value.ref b] below meth c s.heap [] lsC 0 0 _ C hret hR va_S.rf hLc (fun v hv => absurd hv List.not_mem_nil) (by show 0 + nx.length ≤ 600000; omega) (by show 0 + wt nx ≤ 7302250; omega)
