/-! the text of the words: its letters -/
theorem tk3_0 : decode cJ3_checkIndex_8e157 0 = .ok (.iload_n 0, 1) := by decide +kernel
theorem tk3_1 : decode cJ3_checkIndex_8e157 1 = .ok (.ifCond .lt 8, 3) := by decide +kernel
theorem tk3_4 : decode cJ3_checkIndex_8e157 4 = .ok (.iload_n 0, 1) := by decide +kernel
theorem tk3_5 : decode cJ3_checkIndex_8e157 5 = .ok (.iload_n 1, 1) := by decide +kernel
theorem tk3_6 : decode cJ3_checkIndex_8e157 6 = .ok (.if_icmp .lt 10, 3) := by decide +kernel
theorem tk3_16 : decode cJ3_checkIndex_8e157 16 = .ok (.iload_n 0, 1) := by decide +kernel
theorem tk3_17 : decode cJ3_checkIndex_8e157 17 = .ok (.ireturn, 1) := by decide +kernel
theorem tk0_0 : decode cJ0_checkIndex_df160 0 = .ok (.iload_n 0, 1) := by decide +kernel
theorem tk0_1 : decode cJ0_checkIndex_df160 1 = .ok (.iload_n 1, 1) := by decide +kernel
theorem tk0_2 : decode cJ0_checkIndex_df160 2 = .ok (.getstatic 1053, 3) := by decide +kernel
theorem tk0_5 : decode cJ0_checkIndex_df160 5 = .ok (.invokestatic 1059, 3) := by decide +kernel
theorem tk0_8 : decode cJ0_checkIndex_df160 8 = .ok (.pop, 1) := by decide +kernel
theorem tk0_9 : decode cJ0_checkIndex_df160 9 = .ok (.return_, 1) := by decide +kernel
theorem tl1_0 : decode cJ1_charAt_3b067 0 = .ok (.iload_n 1, 1) := by decide +kernel
theorem tl1_1 : decode cJ1_charAt_3b067 1 = .ok (.aload_n 0, 1) := by decide +kernel
theorem tl1_2 : decode cJ1_charAt_3b067 2 = .ok (.arraylength, 1) := by decide +kernel
theorem tl1_3 : decode cJ1_charAt_3b067 3 = .ok (.invokestatic 9, 3) := by decide +kernel
theorem tl1_6 : decode cJ1_charAt_3b067 6 = .ok (.aload_n 0, 1) := by decide +kernel
theorem tl1_7 : decode cJ1_charAt_3b067 7 = .ok (.iload_n 1, 1) := by decide +kernel
theorem tl1_8 : decode cJ1_charAt_3b067 8 = .ok (.baload, 1) := by decide +kernel
theorem tl1_9 : decode cJ1_charAt_3b067 9 = .ok (.sipush 255, 3) := by decide +kernel
theorem tl1_12 : decode cJ1_charAt_3b067 12 = .ok (.iand, 1) := by decide +kernel
theorem tl1_13 : decode cJ1_charAt_3b067 13 = .ok (.i2c, 1) := by decide +kernel
theorem tl1_14 : decode cJ1_charAt_3b067 14 = .ok (.ireturn, 1) := by decide +kernel
theorem tm0_0 : decode cJ0_isLatin1_aae02 0 = .ok (.getstatic 38, 3) := by decide +kernel
theorem tm0_3 : decode cJ0_isLatin1_aae02 3 = .ok (.ifCond .eq 14, 3) := by decide +kernel
theorem tm0_6 : decode cJ0_isLatin1_aae02 6 = .ok (.aload_n 0, 1) := by decide +kernel
theorem tm0_7 : decode cJ0_isLatin1_aae02 7 = .ok (.getfield 15, 3) := by decide +kernel
theorem tm0_10 : decode cJ0_isLatin1_aae02 10 = .ok (.ifCond .ne 7, 3) := by decide +kernel
theorem tm0_13 : decode cJ0_isLatin1_aae02 13 = .ok (.iconst 1, 1) := by decide +kernel
theorem tm0_14 : decode cJ0_isLatin1_aae02 14 = .ok (.goto 4, 3) := by decide +kernel
theorem tm0_18 : decode cJ0_isLatin1_aae02 18 = .ok (.ireturn, 1) := by decide +kernel
theorem tc0_0 : decode cJ0_charAt_5068e 0 = .ok (.aload_n 0, 1) := by decide +kernel
theorem tc0_1 : decode cJ0_charAt_5068e 1 = .ok (.invokevirtual 492, 3) := by decide +kernel
theorem tc0_4 : decode cJ0_charAt_5068e 4 = .ok (.ifCond .eq 12, 3) := by decide +kernel
theorem tc0_7 : decode cJ0_charAt_5068e 7 = .ok (.aload_n 0, 1) := by decide +kernel
theorem tc0_8 : decode cJ0_charAt_5068e 8 = .ok (.getfield 9, 3) := by decide +kernel
theorem tc0_11 : decode cJ0_charAt_5068e 11 = .ok (.iload_n 1, 1) := by decide +kernel
theorem tc0_12 : decode cJ0_charAt_5068e 12 = .ok (.invokestatic 495, 3) := by decide +kernel
theorem tc0_15 : decode cJ0_charAt_5068e 15 = .ok (.ireturn, 1) := by decide +kernel
def wdS (y : MethodName) (cb : ByteArray) (n : Nat) (r : Option FieldType) : List Cond := Cond.code y cb n r :: lwG
theorem wdS_pay {y : MethodName} {cb : ByteArray} {n : Nat} {r : Option FieldType} {args : Array Value} {s : State} (hc : Cond.code y cb n r ∈ lwG) (hts : ∀ w ∈ lwG, w.before args s = true) : ∀ w ∈ wdS y cb n r, ∀ (a' : Array Value) (U : State), s.WarmedH U.vm → w.before a' U = true := by
  intro w hw a' U hW
  have h1 : w ∈ lwG := by
    rcases List.mem_cons.mp hw with e | e
    · rw [e]; exact hc
    · exact e
  exact word_at hW (good_of_word (List.mem_filter.mp h1).2) (hts w h1)
theorem inL (h : Nat) {w : Cond} (q : inG h w = true) : w ∈ lwG := inG_mem q
theorem tw_cI3 : Cond.code yJ3_checkIndex_8e157 cJ3_checkIndex_8e157 3 (some .int) ∈ lwG := inL 864 (by decide +kernel)
theorem tw_cI0 : Cond.code yJ0_checkIndex_df160 cJ0_checkIndex_df160 2 none ∈ lwG := inL 859 (by decide +kernel)
theorem tw_cL1 : Cond.code yJ1_charAt_3b067 cJ1_charAt_3b067 2 (some .char) ∈ lwG := inL 856 (by decide +kernel)
theorem tw_cM0 : Cond.code yJ0_isLatin1_aae02 cJ0_isLatin1_aae02 1 (some .boolean) ∈ lwG := inL 851 (by decide +kernel)
theorem tw_cC0 : Cond.code yJ0_charAt_5068e cJ0_charAt_5068e 2 (some .char) ∈ lwG := inL 847 (by decide +kernel)
theorem tw_i0 : Cond.initialized "java/lang/String" ∈ lwG := inL 94 (by decide +kernel)
theorem tw_i1 : Cond.initialized "java/lang/StringLatin1" ∈ lwG := inL 95 (by decide +kernel)
theorem tw_i3 : Cond.initialized "jdk/internal/util/Preconditions" ∈ lwG := inL 96 (by decide +kernel)
theorem tw_s3 : Cond.static yJ3_checkIndex_8e157 ∈ lwG := inL 863 (by decide +kernel)
theorem tw_s0 : Cond.static yJ0_checkIndex_df160 ∈ lwG := inL 858 (by decide +kernel)
theorem tw_s1 : Cond.static yJ1_charAt_3b067 ∈ lwG := inL 855 (by decide +kernel)
theorem tw_n0 : Cond.instanceMethod yJ0_isLatin1_aae02 ∈ lwG := inL 849 (by decide +kernel)
theorem tw_nC : Cond.instanceMethod yJ0_charAt_5068e ∈ lwG := inL 845 (by decide +kernel)
theorem tw_e0 : Cond.selects "java/lang/String" yJ0_isLatin1_aae02 yJ0_isLatin1_aae02 ∈ lwG := inL 850 (by decide +kernel)
theorem tw_eC : Cond.selects "java/lang/String" yJ0_charAt_5068e yJ0_charAt_5068e ∈ lwG := inL 846 (by decide +kernel)
theorem tw_l3 : Cond.methodLink "java/lang/String" 1059 yJ3_checkIndex_8e157 ∈ lwG := inL 862 (by decide +kernel)
theorem tw_l0 : Cond.methodLink "java/lang/StringLatin1" 9 yJ0_checkIndex_df160 ∈ lwG := inL 857 (by decide +kernel)
theorem tw_l1 : Cond.methodLink "java/lang/String" 495 yJ1_charAt_3b067 ∈ lwG := inL 854 (by decide +kernel)
theorem tw_lM : Cond.methodLink "java/lang/String" 492 yJ0_isLatin1_aae02 ∈ lwG := inL 848 (by decide +kernel)
theorem tw_lC : Cond.methodLink "TongueCamp$Reader" 157 yJ0_charAt_5068e ∈ lwG := inL 844 (by decide +kernel)
theorem tw_f38 : Cond.fieldLink "java/lang/String" 38 "java/lang/String" "COMPACT_STRINGS" "Z" ∈ lwG := inL 852 (by decide +kernel)
theorem tw_f15 : Cond.fieldLink "java/lang/String" 15 "java/lang/String" "coder" "B" ∈ lwG := inL 1655 (by decide +kernel)
theorem tw_f9 : Cond.fieldLink "java/lang/String" 9 "java/lang/String" "value" "[B" ∈ lwG := inL 1656 (by decide +kernel)
theorem tw_f1053 : Cond.fieldLink "java/lang/String" 1053 "jdk/internal/util/Preconditions" "SIOOBE_FORMATTER" "Ljava/util/function/BiFunction;" ∈ lwG := inL 860 (by decide +kernel)
theorem rsBlind {x av} {P : State → Prop} (hP : ∀ (a : Array Value) (U : State) (g : JFrame) (mk : MethodId), P U → P (U.calling g mk a)) : FrameBlind (va_Pc av (fun U => RS x U U.heap ∧ P U)) :=
  fun a U gg mk q => ⟨q.1, RS.same (u := U) (U := U.calling gg mk a) rfl q.2.1, hP a U gg mk q.2.2⟩
theorem S_w {A : Nat → Prop} {H0 H : Heap} {locs : List Loc} (h : va_S (fun _ => False) H0 H locs) : va_S A H0 H locs := ⟨h.1, fun q h1 _ => h.2.1 q h1 id, fun q hq => (h.2.2 q hq).elim⟩
section TXT
variable {l : Launch} {x : CX}
theorem t_pk {i n : Int32} {v : Value} (hv : v = .null ∨ ∃ t, v = .ref t) (h0 : ¬ i < 0) (h1 : i < n) : Met l yJ3_checkIndex_8e157 (wdS yJ3_checkIndex_8e157 cJ3_checkIndex_8e157 3 (some .int)) ({ frames := 0, cells := 0, slots := 0, locals := 0 }) (va_Pc [.int i, .int n, v] (fun U => RS x U U.heap ∧ True)) (va_Qi (fun r (_ : Unit) => r = i) (fun _ _ => True) (fun _ => False)) 0 0 (fun _ => False) := by
  rcases hv with rfl | ⟨t, rfl⟩
  all_goals
    refine Met.ofW (cc := cJ3_checkIndex_8e157) (maxL := 3) (ret := (some .int)) (by decide) rfl ?_
    intro p e s m args below meth c s₁ B hml hq
    obtain ⟨rfl, -, -⟩ := hq
    have hx := B.exec
    have hb := B.bytes
    have hr := B.returns
    have hlocks := B.notSynchronized
  · have hl := lv_entry ([.int i, .int n, .null]) (n := 3) (Nat.le_of_ble_eq_true rfl)
    rw [lg_entry_eq]
    generalize (lg_sl ([.int i, .int n, .null]) ++ List.replicate (3 - (lg_sl ([.int i, .int n, .null])).length) Slot.unset).toArray = ls at hl ⊢
    have hl : lv_has ls 3 [(0, .int i), (1, .int n), (2, .null)] := hl
    refine lv_iload_n hx hb tk3_0 rfl (lv_at hl 0 rfl) ?_
    refine lv_if_lt hx hb tk3_1 (tgt := 9) rfl (fun z => absurd z h0) (fun _ => ?_)
    refine lv_iload_n hx hb tk3_4 rfl (lv_at hl 0 rfl) ?_
    refine lv_iload_n hx hb tk3_5 rfl (lv_at hl 1 rfl) ?_
    refine lv_icmp_lt hx hb tk3_6 (tgt := 16) rfl (fun _ => ?_) (fun z => absurd h1 z)
    refine lv_iload_n hx hb tk3_16 rfl (lv_at hl 0 rfl) ?_
    exact W.iret hx hb hr (fun t ht hW => ⟨⟨i, (), rfl, rfl, trivial⟩, va_S.rf.F ht⟩) (fun q hq => absurd hq List.not_mem_nil) tk3_17
  · have hl := lv_entry ([.int i, .int n, .ref t]) (n := 3) (Nat.le_of_ble_eq_true rfl)
    rw [lg_entry_eq]
    generalize (lg_sl ([.int i, .int n, .ref t]) ++ List.replicate (3 - (lg_sl ([.int i, .int n, .ref t])).length) Slot.unset).toArray = ls at hl ⊢
    have hl : lv_has ls 3 [(0, .int i), (1, .int n), (2, .ref t)] := hl
    refine lv_iload_n hx hb tk3_0 rfl (lv_at hl 0 rfl) ?_
    refine lv_if_lt hx hb tk3_1 (tgt := 9) rfl (fun z => absurd z h0) (fun _ => ?_)
    refine lv_iload_n hx hb tk3_4 rfl (lv_at hl 0 rfl) ?_
    refine lv_iload_n hx hb tk3_5 rfl (lv_at hl 1 rfl) ?_
    refine lv_icmp_lt hx hb tk3_6 (tgt := 16) rfl (fun _ => ?_) (fun z => absurd h1 z)
    refine lv_iload_n hx hb tk3_16 rfl (lv_at hl 0 rfl) ?_
    exact W.iret hx hb hr (fun t ht hW => ⟨⟨i, (), rfl, rfl, trivial⟩, va_S.rf.F ht⟩) (fun q hq => absurd hq List.not_mem_nil) tk3_17
theorem t_ck {i n : Int32} (h0 : ¬ i < 0) (h1 : i < n) : Met l yJ0_checkIndex_df160 (wdS yJ0_checkIndex_df160 cJ0_checkIndex_df160 2 none) ({ frames := 1, cells := 0, slots := 0, locals := 22 }) (va_Pc [.int i, .int n] (fun U => RS x U U.heap ∧ True)) (va_Qv (fun (_ : Unit) => True) (fun _ _ => True) (fun _ => False)) 0 0 (fun _ => False) := by
  refine Met.ofW (cc := cJ0_checkIndex_df160) (maxL := 2) (ret := none) (by decide) rfl ?_
  intro p e s m args below meth c s₁ B hml hq
  obtain ⟨rfl, hRS, -⟩ := hq
  have hx := B.exec
  have hb := B.bytes
  have hr := B.returns
  have hlocks := B.notSynchronized
  have hts := atoms_spec (ws := wdS yJ0_checkIndex_df160 cJ0_checkIndex_df160 2 none) B.pre
  have hw : ∀ w ∈ lwG, w.before ([.int i, .int n] : List Value).toArray s = true := fun w h => hts w (List.mem_cons_of_mem _ h)
  have hown : s.vm.findClass "java/lang/String" = some m.cls := findClass_of_methodNamed B.named
  have hl := lv_entry ([.int i, .int n]) (n := 2) (Nat.le_of_ble_eq_true rfl)
  rw [lg_entry_eq]
  generalize (lg_sl ([.int i, .int n]) ++ List.replicate (2 - (lg_sl ([.int i, .int n])).length) Slot.unset).toArray = ls at hl ⊢
  have hl : lv_has ls 2 [(0, .int i), (1, .int n)] := hl
  refine lv_iload_n hx hb tk0_0 rfl (lv_at hl 0 rfl) ?_
  refine lv_iload_n hx hb tk0_1 rfl (lv_at hl 1 rfl) ?_
  obtain ⟨v, hv, hZ⟩ : ∃ v : Value, (v = .null ∨ ∃ t, v = .ref t) ∧ va_Z "jdk/internal/util/Preconditions" "SIOOBE_FORMATTER" "Ljava/util/function/BiFunction;" v (fun q => x.2.1 ≤ q) s s.heap := by
    rcases hRS.2.2.2 with h | ⟨t, h⟩
    · exact ⟨_, Or.inl rfl, h⟩
    · exact ⟨_, Or.inr ⟨t, rfl⟩, h⟩
  refine va_gets hx hb hZ va_S.rf hown (hw _ tw_f1053) (fun _ z => z) tk0_2 ?_
  have hpl : ∀ sig, parseMethodDescriptor yJ3_checkIndex_8e157.desc = some sig → 3 = sig.parameters.length := fun sig hh => by
    have f8 : (parseMethodDescriptor yJ3_checkIndex_8e157.desc).map (fun d => d.parameters.length) = some 3 := by decide +kernel
    rw [hh] at f8
    exact (Option.some.inj f8).symm
  have hp : PreS s s.heap (va_Pc [.int i, .int n, v] (fun U => RS x U U.heap ∧ True)) [.int i, .int n, v] :=
    ⟨rsBlind (fun _ _ _ _ h => h), fun U hU hW => ⟨rfl, (by rw [hU]; exact hRS.moved hW), trivial⟩⟩
  refine va_calli (A0 := fun _ => False) (va_runS (own := "java/lang/String") ⟨hx, hb, hml, hown, hw⟩ (t_pk hv h0 h1) (n := 3) ⟨⟨rfl, rfl, (by show 0 + 1 ≤ 1; omega), (by show 8 + (3 + 11) + 0 ≤ 22; omega), wdS_pay tw_cI3 hw, List.mem_cons_self, hw _ tw_cI3, hw _ tw_i3, (by decide), hpl, hw _ tw_l3⟩, hw _ tw_s3⟩ hp rfl rfl hl.1 rfl (Nat.le_of_ble_eq_true rfl) tk0_5 ⟨Nat.le_refl _, Nat.le_refl _⟩) va_S.rf (fun q _ h => h) (fun q h => h) ?_
  intro r u t H1 locs1 ht hA hpost _ hz hk hS
  refine lv_pop hx hb tk0_8 (va := .int r) rfl ?_
  exact W.vret hx hb hr (fun t ht hW => ⟨⟨(), rfl, trivial, trivial⟩, hS.F ht⟩) hS.2.2 tk0_9
theorem t_num : ∀ k : Nat, k < 126 → ¬ Int32.ofInt (k : Int) < 0 ∧ Int32.ofInt (k : Int) < Int32.ofNat 126 ∧ vp_in (Int32.ofInt (k : Int)) 126 ∧ (Int32.ofInt (k : Int)).toNatClampNeg = k ∧ (((spI.getD k 0) &&& 255).toUInt32 % 65536).toInt32 = spI.getD k 0 ∧ spI.getD k 0 = Int32.ofInt (spB.getD k 0) ∧ 0 ≤ spB.getD k 0 ∧ spB.getD k 0 < 128 := by
  have h : ∀ k : Nat, k < 126 → (decide (Int32.ofInt (k : Int) < 0)) = false ∧ decide (Int32.ofInt (k : Int) < Int32.ofNat 126) = true ∧ (Int32.ofInt (k : Int)).toNatClampNeg = k ∧ (((spI.getD k 0) &&& 255).toUInt32 % 65536).toInt32 = spI.getD k 0 ∧ spI.getD k 0 = Int32.ofInt (spB.getD k 0) ∧ 0 ≤ spB.getD k 0 ∧ spB.getD k 0 < 128 := by decide +kernel
  intro k hk
  obtain ⟨h1, h2, h3, h4, h5, h6, h7⟩ := h k hk
  refine ⟨of_decide_eq_false h1, of_decide_eq_true h2, fun z => ?_, h3, h4, h5, h6, h7⟩
  rcases z with z | z
  · exact (of_decide_eq_false h1) z
  · omega
def t_V (x : CX) (aV : Nat) (U : State) (H : Heap) : Prop := va_T .byte aV 126 (fun j => .int (spI.getD j 0)) (fun q => x.2.1 ≤ q) U H
theorem t_l1 {k aV : Nat} (hk : k < 126) : Met l yJ1_charAt_3b067 (wdS yJ1_charAt_3b067 cJ1_charAt_3b067 2 (some .char)) ({ frames := 2, cells := 0, slots := 0, locals := 43 }) (va_Pc [.ref aV, .int (Int32.ofInt k)] (fun U => RS x U U.heap ∧ t_V x aV U U.heap)) (va_Qi (fun r (_ : Unit) => r = spI.getD k 0) (fun _ _ => True) (fun _ => False)) 0 0 (fun _ => False) := by
  obtain ⟨n1, n2, n3, n4, n5, -⟩ := t_num k hk
  generalize Int32.ofInt (k : Int) = i at n1 n2 n3 n4
  refine Met.ofW (cc := cJ1_charAt_3b067) (maxL := 2) (ret := some .char) (by decide) rfl ?_
  intro p e s m args below meth c s₁ B hml hq
  obtain ⟨rfl, hRS, hV⟩ := hq
  have hx := B.exec
  have hb := B.bytes
  have hr := B.returns
  have hlocks := B.notSynchronized
  have hts := atoms_spec (ws := wdS yJ1_charAt_3b067 cJ1_charAt_3b067 2 (some .char)) B.pre
  have hw : ∀ w ∈ lwG, w.before ([.ref aV, .int i] : List Value).toArray s = true := fun w h => hts w (List.mem_cons_of_mem _ h)
  have hown : s.vm.findClass "java/lang/StringLatin1" = some m.cls := findClass_of_methodNamed B.named
  have hl := lv_entry ([.ref aV, .int i]) (n := 2) (Nat.le_of_ble_eq_true rfl)
  rw [lg_entry_eq]
  generalize (lg_sl ([.ref aV, .int i]) ++ List.replicate (2 - (lg_sl ([.ref aV, .int i])).length) Slot.unset).toArray = ls at hl ⊢
  have hl : lv_has ls 2 [(0, .ref aV), (1, .int i)] := hl
  refine lv_iload_n hx hb tl1_0 rfl (lv_at hl 1 rfl) ?_
  refine lv_aload_n hx hb tl1_1 rfl (lv_at hl 0 rfl) ?_
  refine va_tlen hx hb hV va_S.rf rfl tl1_2 ?_
  have hpl : ∀ sig, parseMethodDescriptor yJ0_checkIndex_df160.desc = some sig → 2 = sig.parameters.length := fun sig hh => by
    have f8 : (parseMethodDescriptor yJ0_checkIndex_df160.desc).map (fun d => d.parameters.length) = some 2 := by decide +kernel
    rw [hh] at f8
    exact (Option.some.inj f8).symm
  have hp : PreS s s.heap (va_Pc [.int i, .int (Int32.ofNat 126)] (fun U => RS x U U.heap ∧ True)) [.int i, .int (Int32.ofNat 126)] :=
    ⟨rsBlind (fun _ _ _ _ h => h), fun U hU hW => ⟨rfl, (by rw [hU]; exact hRS.moved hW), trivial⟩⟩
  refine va_callv (A0 := fun _ => False) (va_runS (own := "java/lang/StringLatin1") ⟨hx, hb, hml, hown, hw⟩ (t_ck n1 n2) (n := 2) ⟨⟨rfl, rfl, (by show 1 + 1 ≤ 2; omega), (by show 8 + (2 + 11) + 22 ≤ 43; omega), wdS_pay tw_cI0 hw, List.mem_cons_self, hw _ tw_cI0, hw _ tw_i0, (by decide), hpl, hw _ tw_l0⟩, hw _ tw_s0⟩ hp rfl rfl hl.1 rfl (Nat.le_of_ble_eq_true rfl) tl1_3 ⟨Nat.le_refl _, Nat.le_refl _⟩) va_S.rf (fun q _ h => h) (fun q h => h) ?_
  intro u t H1 locs1 ht hA hpost _ hz hk hS
  refine lv_aload_n hx hb tl1_6 rfl (lv_at hl 0 rfl) ?_
  refine lv_iload_n hx hb tl1_7 rfl (lv_at hl 1 rfl) ?_
  refine va_tb hx hb hV (S_w hS) n3 (v := .int (spI.getD k 0)) (by rw [n4]) tl1_8 ?_
  refine lv_sipush hx hb tl1_9 (v := 255) (by decide) ?_
  refine lv_iand hx hb tl1_12 ?_
  refine lv_i2c hx hb tl1_13 n5 ?_
  have hn : narrow .char (.int (spI.getD k 0)) = .int (spI.getD k 0) := by
    have := pk_nc (spI.getD k 0 &&& 255)
    rw [n5] at this
    exact this
  exact W.zret (ty := .char) hx hb hr hn (fun t ht hW => ⟨⟨_, (), rfl, rfl, trivial⟩, hS.F ht⟩) hS.2.2 tl1_14
theorem t_m0 : Met l yJ0_isLatin1_aae02 (wdS yJ0_isLatin1_aae02 cJ0_isLatin1_aae02 1 (some .boolean)) ({ frames := 0, cells := 0, slots := 0, locals := 0 }) (va_Pc [.ref x.2.2.1] (fun U => RS x U U.heap ∧ True)) (va_Qi (fun r (_ : Unit) => r = 1) (fun _ _ => True) (fun _ => False)) 0 0 (fun _ => False) := by
  refine Met.ofW (cc := cJ0_isLatin1_aae02) (maxL := 1) (ret := some .boolean) (by decide) rfl ?_
  intro p e s m args below meth c s₁ B hml hq
  obtain ⟨rfl, hRS, -⟩ := hq
  have hx := B.exec
  have hb := B.bytes
  have hr := B.returns
  have hlocks := B.notSynchronized
  have hts := atoms_spec (ws := wdS yJ0_isLatin1_aae02 cJ0_isLatin1_aae02 1 (some .boolean)) B.pre
  have hw : ∀ w ∈ lwG, w.before ([.ref x.2.2.1] : List Value).toArray s = true := fun w h => hts w (List.mem_cons_of_mem _ h)
  have hown : s.vm.findClass "java/lang/String" = some m.cls := findClass_of_methodNamed B.named
  have hl := lv_entry ([.ref x.2.2.1]) (n := 1) (Nat.le_of_ble_eq_true rfl)
  rw [lg_entry_eq]
  generalize (lg_sl ([.ref x.2.2.1]) ++ List.replicate (1 - (lg_sl ([.ref x.2.2.1])).length) Slot.unset).toArray = ls at hl ⊢
  have hl : lv_has ls 1 [(0, .ref x.2.2.1)] := hl
  obtain ⟨aV, hS0⟩ := hRS.2.1
  obtain ⟨o1, o2, o3, o4⟩ := hS0.1 0 (by omega)
  refine va_gets hx hb hRS.2.2.1 va_S.rf hown (hw _ tw_f38) (fun _ z => z) tm0_0 ?_
  refine lv_if_eq hx hb tm0_3 (tgt := 17) rfl (fun z => absurd z (by decide)) (fun _ => ?_)
  refine lv_aload_n hx hb tm0_6 rfl (lv_at hl 0 rfl) ?_
  refine vk_getf hx hb o2 va_S.rf hown (hw _ tw_f15) (fun _ z => z) tm0_7 ?_
  refine lv_if_ne hx hb tm0_10 (tgt := 17) rfl (fun z => absurd rfl z) (fun _ => ?_)
  refine lv_iconst hx hb tm0_13 (v := 1) (by decide) ?_
  refine lv_goto hx hb tm0_14 (tgt := 18) rfl ?_
  exact W.zret (ty := .boolean) hx hb hr rfl (fun t ht hW => ⟨⟨_, (), rfl, rfl, trivial⟩, va_S.rf.F ht⟩) (fun q hq => absurd hq List.not_mem_nil) tm0_18
theorem t_cA {k : Nat} (hk : k < 126) : Met l yJ0_charAt_5068e (wdS yJ0_charAt_5068e cJ0_charAt_5068e 2 (some .char)) ({ frames := 3, cells := 0, slots := 0, locals := 64 }) (va_Pc [.ref x.2.2.1, .int (Int32.ofInt k)] (fun U => RS x U U.heap ∧ True)) (va_Qi (fun r (_ : Unit) => r = spI.getD k 0) (fun _ _ => True) (fun _ => False)) 0 0 (fun _ => False) := by
  obtain ⟨-, -, -, -, n5, -⟩ := t_num k hk
  refine Met.ofW (cc := cJ0_charAt_5068e) (maxL := 2) (ret := some .char) (by decide) rfl ?_
  intro p e s m args below meth c s₁ B hml hq
  obtain ⟨rfl, hRS, -⟩ := hq
  have hx := B.exec
  have hb := B.bytes
  have hr := B.returns
  have hlocks := B.notSynchronized
  have hts := atoms_spec (ws := wdS yJ0_charAt_5068e cJ0_charAt_5068e 2 (some .char)) B.pre
  have hw : ∀ w ∈ lwG, w.before ([.ref x.2.2.1, .int (Int32.ofInt k)] : List Value).toArray s = true := fun w h => hts w (List.mem_cons_of_mem _ h)
  have hown : s.vm.findClass "java/lang/String" = some m.cls := findClass_of_methodNamed B.named
  have hl := lv_entry ([.ref x.2.2.1, .int (Int32.ofInt k)]) (n := 2) (Nat.le_of_ble_eq_true rfl)
  rw [lg_entry_eq]
  generalize (lg_sl ([.ref x.2.2.1, .int (Int32.ofInt k)]) ++ List.replicate (2 - (lg_sl ([.ref x.2.2.1, .int (Int32.ofInt k)])).length) Slot.unset).toArray = ls at hl ⊢
  have hl : lv_has ls 2 [(0, .ref x.2.2.1), (1, .int (Int32.ofInt k))] := hl
  obtain ⟨aV, hS0⟩ := hRS.2.1
  obtain ⟨o1, o2, o3, o4⟩ := hS0.1 0 (by omega)
  refine lv_aload_n hx hb tc0_0 rfl (lv_at hl 0 rfl) ?_
  have hpl : ∀ sig, parseMethodDescriptor yJ0_isLatin1_aae02.desc = some sig → 0 = sig.parameters.length := fun sig hh => by
    have f8 : (parseMethodDescriptor yJ0_isLatin1_aae02.desc).map (fun d => d.parameters.length) = some 0 := by decide +kernel
    rw [hh] at f8
    exact (Option.some.inj f8).symm
  have hp : PreV s s.heap "java/lang/String" x.2.2.1 (va_Pc [.ref x.2.2.1] (fun U => RS x U U.heap ∧ True)) [] :=
    ⟨rsBlind (fun _ _ _ _ h => h), vk_recv (i := 0) hS0 (by omega) va_S.rf, fun U hU hW => ⟨rfl, (by rw [hU]; exact hRS.moved hW), trivial⟩⟩
  refine va_calli (A0 := fun _ => False) (va_runV (own := "java/lang/String") ⟨hx, hb, hml, hown, hw⟩ t_m0 (n := 0) ⟨⟨rfl, rfl, (by show 0 + 1 ≤ 3; omega), (by show 8 + (1 + 11) + 0 ≤ 64; omega), wdS_pay tw_cM0 hw, List.mem_cons_self, hw _ tw_cM0, hw _ tw_i0, (by decide), hpl, hw _ tw_lM⟩, hw _ tw_n0, hw _ tw_e0⟩ hp rfl rfl hl.1 rfl (Nat.le_of_ble_eq_true rfl) tc0_1 ⟨Nat.le_refl _, Nat.le_refl _⟩) va_S.rf (fun q _ h => h) (fun q h => h) ?_
  intro r u t H1 locs1 ht hA hpost _ hz hkk hS
  refine lv_if_eq hx hb tc0_4 (tgt := 16) rfl (fun z => absurd (hpost.symm.trans z) (by decide)) (fun _ => ?_)
  refine lv_aload_n hx hb tc0_7 rfl (lv_at hl 0 rfl) ?_
  refine vk_getf hx hb o3 (S_w hS) hown (hw _ tw_f9) (fun _ z => z) tc0_8 ?_
  refine lv_iload_n hx hb tc0_11 rfl (lv_at hl 1 rfl) ?_
  have hpl : ∀ sig, parseMethodDescriptor yJ1_charAt_3b067.desc = some sig → 2 = sig.parameters.length := fun sig hh => by
    have f8 : (parseMethodDescriptor yJ1_charAt_3b067.desc).map (fun d => d.parameters.length) = some 2 := by decide +kernel
    rw [hh] at f8
    exact (Option.some.inj f8).symm
  have hp : PreS s H1 (va_Pc [.ref aV, .int (Int32.ofInt k)] (fun U => RS x U U.heap ∧ t_V x aV U U.heap)) [.ref aV, .int (Int32.ofInt k)] :=
    ⟨rsBlind (fun _ _ _ _ h => va_T.moved (Vm.Alike.refl _) h), fun U hU hW => ⟨rfl, (by rw [hU]; exact (hRS.kept (fun q h1 _ => hkk q h1 id)).moved hW), (by rw [hU]; exact (va_T.kept o4 (fun q h1 _ => hkk q h1 id)).moved hW.alike)⟩⟩
  refine va_calli (A0 := fun _ => False) (va_runS (own := "java/lang/String") ⟨hx, hb, hml, hown, hw⟩ (t_l1 hk) (n := 2) ⟨⟨rfl, rfl, (by show 2 + 1 ≤ 3; omega), (by show 8 + (2 + 11) + 43 ≤ 64; omega), wdS_pay tw_cL1 hw, List.mem_cons_self, hw _ tw_cL1, hw _ tw_i1, (by decide), hpl, hw _ tw_l1⟩, hw _ tw_s1⟩ hp rfl rfl hl.1 rfl (Nat.le_of_ble_eq_true rfl) tc0_12 ⟨Nat.le_refl _, Nat.le_refl _⟩) hS (fun q _ h => h) (fun q h => h) ?_
  intro r2 u2 t2 H2 locs2 ht2 hA2 hpost2 _ hz2 hk2 hS2
  have e2 : r2 = spI.getD k 0 := hpost2
  subst e2
  have hn : narrow .char (.int (spI.getD k 0)) = .int (spI.getD k 0) := by
    have := pk_nc (spI.getD k 0 &&& 255)
    rw [n5] at this
    exact this
  exact W.zret (ty := .char) hx hb hr hn (fun t ht hW => ⟨⟨_, (), rfl, rfl, trivial⟩, hS2.F ht⟩) hS2.2.2 tc0_15
end TXT
theorem Rp.keptH {x : CX} {lv ad I R nx} {U : State} {H H1 : Heap} (h : Rp x lv ad I R nx U H) (hz : H.size ≤ H1.size) (hq : ∀ q : Nat, q < H.size → H1[q]? = H[q]?) : Rp x lv ad I R nx U H1 := by
  obtain ⟨a, b, c, d, e, f, tys, ws, pos, w1, w2, w3⟩ := h
  exact ⟨Nat.le_trans a hz, b, c, d, e, f, tys, ws, pos, w1, w2.kept (fun k q hk => hq q.1 (w2 k q hk).lt), w3⟩
section TSTEP
variable {g : GX} {d y : Nat} {Q : Option AV → MI → MR → Prop} {pc : Nat} {ls : LV} {t : List AV} {I : MI} {R : MR} {nx : List Nat}
theorem s_ldT (hy : mO y = 8) (hd : decode (mB y) pc = .ok (.ldc 155, 2)) (k : AtP g d y Q (pc + 2) ls (.inr (.inr (some 997)) :: t) I R nx) : AtP g d y Q pc ls t I R nx := by
  intro x lv ad p e Rm s m args below meth c H locs lsC cells slots Z C ret hR hS hL hst hc hs
  have hRO := C.2.2.2.2.2.2.2.1
  have hown := C.2.2.2.1
  rw [hy] at hown
  have h6 := hR.2.2.2.2.2.1
  have hk := k x lv ad p e Rm s m args below meth c H locs lsC cells slots Z C ret hR hS hL (okc h6.1 hst) hc hs
  rw [List.map_cons, show rl ad (.inr (.inr (some 997))) = .ref (ad 997) from rfl, h6.2.2.1] at hk
  exact va_ldcS C.1 C.2.1 (own := "TongueCamp$Reader") hown hRO.2.2.2.2.2.1.1 hd hk
theorem s_chA {j : Int} (hy : mO y = 8) (hj : 0 ≤ j) (hj2 : j < 126) (hl4 : t.length ≤ 4) (hd : decode (mB y) pc = .ok (.invokevirtual 157, 3)) (k : AtP g (d + 4) y Q (pc + 3) ls (.inl (spB.getD j.toNat 0) :: t) I R nx) : AtP g (d + 4) y Q pc ls (.inl j :: .inr (.inr (some 997)) :: t) I R nx := by
  intro x lv ad p e Rm s m args below meth c H locs lsC cells slots Z C ret hR hS hL hst hc hs
  have hRO := C.2.2.2.2.2.2.2.1
  have hRS := hRO.2.2.2.2.2.1
  have hown := C.2.2.2.1
  rw [hy] at hown
  have hw := C.2.2.2.2.1
  have hfr := C.2.2.2.2.2.2.1
  have hsum := sum4 (ad := ad) hl4
  have h6 := hR.2.2.2.2.2.1
  obtain ⟨n, rfl⟩ : ∃ n : Nat, j = n := ⟨j.toNat, by omega⟩
  rw [Int.toNat_natCast] at k
  have hn : n < 126 := by omega
  obtain ⟨-, -, -, -, -, n6, n7, n8⟩ := t_num n hn
  have hst2 : ∀ v ∈ t, okv lv v := fun v hv => hst v (List.mem_cons_of_mem _ (List.mem_cons_of_mem _ hv))
  obtain ⟨aV, hS0⟩ := hRS.2.1
  have hpl : ∀ sig, parseMethodDescriptor yJ0_charAt_5068e.desc = some sig → 1 = sig.parameters.length := fun sig hh => by
    have f8 : (parseMethodDescriptor yJ0_charAt_5068e.desc).map (fun d => d.parameters.length) = some 1 := by decide +kernel
    rw [hh] at f8
    exact (Option.some.inj f8).symm
  have hp : PreV s H "java/lang/String" x.2.2.1 (va_Pc [.ref x.2.2.1, .int (Int32.ofInt n)] (fun U => RS x U U.heap ∧ True)) [.int (Int32.ofInt n)] :=
    ⟨rsBlind (fun _ _ _ _ h => h), vk_recv (i := 0) hS0 (by omega) hS, fun U hU hW => ⟨rfl, (by rw [hU]; exact (hRS.kept hS.2.1).moved hW), trivial⟩⟩
  rw [List.map_cons, List.map_cons, show rl ad (.inr (.inr (some 997))) = .ref (ad 997) from rfl, h6.2.2.1]
  refine va_calli (A0 := fun q => x.2.1 ≤ q) (va_runV (own := "TongueCamp$Reader") ⟨C.1, C.2.1, C.2.2.1, hown, hw⟩ (t_cA hn) (n := 1) ⟨⟨rfl, rfl, (by have := hfr.1; show 3 + 1 ≤ _; omega), (by have := hfr.2; show 8 + (2 + 11) + 64 ≤ _; omega), wdS_pay tw_cC0 hw, List.mem_cons_self, hw _ tw_cC0, hw _ tw_i0, (by decide), hpl, hw _ tw_lC⟩, hw _ tw_nC, hw _ tw_eC⟩ hp rfl rfl hL.1 rfl (by rw [show (F0 m pc lsC _).monitorRoom = 0 from rfl]; omega) hd ⟨(by omega), (by omega)⟩) hS (fun q _ h => h.elim) (fun q h => h.elim) ?_
  intro r u t2 H1 locs1 ht2 hA2 hpost _ hz hkk hS1
  have e2 : r = spI.getD n 0 := hpost
  subst e2
  have hk := k x lv ad p e Rm s m args below meth c H1 locs1 lsC (cells + 0) (slots + 0) Z C ret (hR.keptH hz (fun q h => hkk q h id)) hS1 hL (okc (by show i32 _; exact ⟨by omega, by omega⟩) hst2) hc hs
  rw [List.map_cons, show rl ad (.inl (spB.getD n 0)) = .int (Int32.ofInt (spB.getD n 0)) from rfl, ← n6] at hk
  exact hk
end TSTEP
