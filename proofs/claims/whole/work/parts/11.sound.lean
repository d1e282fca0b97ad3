/-! the rows of instructions are sound -/
def rtT : Nat → Option FieldType
  | 0 => none
  | 1 => some .int
  | _ => some .boolean
theorem gI_sp {ls k F} (h : gI ls k F) : ∃ v, nth ls k = some (.inl v) ∧ F v := by
  unfold gI at h
  split at h
  · exact ⟨_, by assumption, h⟩
  · exact h.elim
theorem gL_sp {ls k F} (h : gL ls k F) : ∃ v, nth ls k = some (.inr (.inl v)) ∧ F v := by
  unfold gL at h
  split at h
  · exact ⟨_, by assumption, h⟩
  · exact h.elim
theorem gR_sp {ls k F} (h : gR ls k F) : ∃ v, nth ls k = some (.inr (.inr v)) ∧ F v := by
  unfold gR at h
  split at h
  · exact ⟨_, by assumption, h⟩
  · exact h.elim
theorem p1_sp {st F} (h : p1 st F) : ∃ x t, st = .inl x :: t ∧ F x t := by
  unfold p1 at h
  split at h
  · exact ⟨_, _, rfl, h⟩
  · exact h.elim
theorem p2_sp {st F} (h : p2 st F) : ∃ x y t, st = .inl y :: .inl x :: t ∧ F x y t := by
  unfold p2 at h
  split at h
  · exact ⟨_, _, _, rfl, h⟩
  · exact h.elim
theorem p2L_sp {st F} (h : p2L st F) : ∃ x y t, st = .inr (.inl y) :: .inr (.inl x) :: t ∧ F x y t := by
  unfold p2L at h
  split at h
  · exact ⟨_, _, _, rfl, h⟩
  · exact h.elim
theorem pLI_sp {st F} (h : pLI st F) : ∃ x y t, st = .inl y :: .inr (.inl x) :: t ∧ F x y t := by
  unfold pLI at h
  split at h
  · exact ⟨_, _, _, rfl, h⟩
  · exact h.elim
theorem pR_sp {st F} (h : pR st F) : ∃ o t, st = .inr (.inr (some o)) :: t ∧ F o t := by
  unfold pR at h
  split at h
  · exact ⟨_, _, rfl, h⟩
  · exact h.elim
theorem pN_sp {st F} (h : pN st F) : ∃ r t, st = .inr (.inr r) :: t ∧ F r t := by
  unfold pN at h
  split at h
  · exact ⟨_, _, rfl, h⟩
  · exact h.elim
theorem pIR_sp {st F} (h : pIR st F) : ∃ j o t, st = .inl j :: .inr (.inr (some o)) :: t ∧ F j o t := by
  unfold pIR at h
  split at h
  · exact ⟨_, _, _, rfl, h⟩
  · exact h.elim
theorem pNR_sp {st F} (h : pNR st F) : ∃ r o t, st = .inr (.inr r) :: .inr (.inr (some o)) :: t ∧ F r o t := by
  unfold pNR at h
  split at h
  · exact ⟨_, _, _, rfl, h⟩
  · exact h.elim
theorem pIIR_sp {st F} (h : pIIR st F) : ∃ v j o t, st = .inl v :: .inl j :: .inr (.inr (some o)) :: t ∧ F v j o t := by
  unfold pIIR at h
  split at h
  · exact ⟨_, _, _, _, rfl, h⟩
  · exact h.elim
theorem pLIR_sp {st F} (h : pLIR st F) : ∃ v j o t, st = .inr (.inl v) :: .inl j :: .inr (.inr (some o)) :: t ∧ F v j o t := by
  unfold pLIR at h
  split at h
  · exact ⟨_, _, _, _, rfl, h⟩
  · exact h.elim
theorem pRIR_sp {st F} (h : pRIR st F) : ∃ q j o t, st = .inr (.inr (some q)) :: .inl j :: .inr (.inr (some o)) :: t ∧ F q j o t := by
  unfold pRIR at h
  split at h
  · exact ⟨_, _, _, _, rfl, h⟩
  · exact h.elim
theorem pCp_sp {st F} (h : pCp st F) : ∃ n dp p sp o t, st = .inl n :: .inl dp :: .inr (.inr (some p)) :: .inl sp :: .inr (.inr (some o)) :: t ∧ F n dp p sp o t := by
  unfold pCp at h
  split at h
  · exact ⟨_, _, _, _, _, _, rfl, h⟩
  · exact h.elim
theorem pD_sp {st F} (h : pD st F) : ∃ v t, st = v :: t ∧ (∀ z, v ≠ .inr (.inl z)) ∧ F v := by
  unfold pD at h
  split at h
  · exact ⟨_, _, rfl, (fun z e => by cases e), h⟩
  · exact ⟨_, _, rfl, (fun z e => by cases e), h⟩
  · exact h.elim
theorem pDD_sp {st F} (h : pDD st F) : ∃ v w t, st = v :: w :: t ∧ (∀ z, v ≠ .inr (.inl z)) ∧ (∀ z, w ≠ .inr (.inl z)) ∧ F v w := by
  unfold pDD at h
  split at h
  · exact ⟨_, _, _, rfl, (fun z e => by cases e), (fun z e => by cases e), h⟩
  · exact ⟨_, _, _, rfl, (fun z e => by cases e), (fun z e => by cases e), h⟩
  · exact h.elim
theorem pI1_sp {st F} (h : pI1 st F) : ∃ x, st = [.inl x] ∧ F x := by
  unfold pI1 at h
  split at h
  · exact ⟨_, rfl, h⟩
  · exact h.elim
theorem spl_sp : ∀ (n : Nat) (a st : List AV) (F : List AV → List AV → Prop), spl n a st F → ∃ b t, st = b ++ t ∧ b.length = n ∧ F (b.reverse ++ a) t
  | 0, a, st, F, h => ⟨[], st, rfl, rfl, h⟩
  | n + 1, a, v :: st, F, h => by
    obtain ⟨b, t, e, hl, hF⟩ := spl_sp n (v :: a) st F h
    exact ⟨v :: b, t, by rw [e]; rfl, by rw [List.length_cons, hl], by rw [List.reverse_cons, List.append_assoc]; exact hF⟩
  | n + 1, a, [], F, h => h.elim
theorem newK_sp {a b nx F} (h : newK a b nx F) : ∃ q t, nx = q :: t ∧ shp q = (a, b) ∧ F q t := by
  unfold newK at h
  split at h
  · exact h.elim
  · exact ⟨_, _, rfl, h⟩
theorem any_mem {α : Type} {l : List (α × Nat)} {q : α × Nat} {p : α × Nat → Bool} (hp : ∀ z, p z = true → z = q) (h : l.any p = true) : q ∈ l := by
  obtain ⟨z, hz, he⟩ := List.any_eq_true.mp h
  rw [← hp z he]; exact hz
/-- what the check of a row gives: the machine's instruction there -/
theorem chkL_sp {own ini cc B pc i k} (h : chkL own ini cc B ((pc, i) :: k) = true) (hi : isG i = none) : ∃ q, decode cc pc = .ok q ∧ q ∈ cands own ini B pc i ∧ chkL own ini cc B k = true ∧ (∀ pc' i' k', k = (pc', i') :: k' → pc' = pc + q.2) := by
  unfold chkL at h
  rw [hi] at h
  simp only [Bool.and_eq_true] at h
  obtain ⟨h1, h2⟩ := h
  cases hd : decode cc pc with
  | error e => rw [hd] at h1; cases h1
  | ok q =>
    rw [hd] at h1
    simp only [Bool.and_eq_true] at h1
    refine ⟨q, rfl, any_mem (fun z hz => ?_) h1.1, h2, fun pc' i' k' e => ?_⟩
    · simp only [Bool.and_eq_true, decide_eq_true_eq] at hz
      exact Prod.ext hz.1 hz.2
    · subst e
      exact of_decide_eq_true h1.2
theorem tsw_sp {J : Nat → Prop} {x : Int} : ∀ (bs : List Int) (lo : Int), tsw J x lo bs → lo ≤ x → x < lo + bs.length → ∃ b, bs[(x - lo).toNat]? = some b ∧ J b.toNat
  | [], lo, _, h1, h2 => by simp at h2; omega
  | b :: bs, lo, h, h1, h2 => by
    by_cases e : x = lo
    · exact ⟨b, by rw [e, Int.sub_self]; rfl, h.1 e⟩
    · obtain ⟨b', hb, hJ⟩ := tsw_sp bs (lo + 1) h.2 (by omega) (by simp only [List.length_cons] at h2; omega)
      refine ⟨b', ?_, hJ⟩
      rw [show (x - lo).toNat = (x - (lo + 1)).toNat + 1 by omega]
      exact hb
theorem shp7 {o : Nat} (h : (shp o).1 = 7) : o = 999 := by
  unfold shp at h
  split at h
  · have : ∀ r, r < 64 → (shG r).1 ≠ 7 := by decide +kernel
    exact absurd h (this _ (by omega))
  · split at h
    · have h2 : ∀ i, i < 740 → (shT.getD i (9, 0)).1 ≠ 7 := by decide +kernel
      exact absurd h (h2 _ (by omega))
    · split at h
      · split at h
        · assumption
        · simp at h
      · simp at h
theorem shp_le (o : Nat) : (shp o).2 < 2147483648 := by
  unfold shp
  split
  · have : ∀ r, r < 64 → (shG r).2 < 2147483648 := by decide +kernel
    exact this _ (by omega)
  · split
    · have h2 : ∀ i, i < 740 → (shT.getD i (9, 0)).2 < 2147483648 := by decide +kernel
      exact h2 _ (by omega)
    · split
      · split <;> decide
      · decide
theorem shp_k (o : Nat) : (shp o).1 ≤ 9 := by
  unfold shp
  split
  · have : ∀ r, r < 64 → (shG r).1 ≤ 9 := by decide +kernel
    exact this _ (by omega)
  · split
    · have h2 : ∀ i, i < 740 → (shT.getD i (9, 0)).1 ≤ 9 := by decide +kernel
      exact h2 _ (by omega)
    · split
      · split <;> decide
      · decide
theorem shp_8 (o : Nat) : (shp o).1 ≠ 8 := by
  unfold shp
  split
  · have : ∀ r, r < 64 → (shG r).1 ≠ 8 := by decide +kernel
    exact this _ (by omega)
  · split
    · have h2 : ∀ i, i < 740 → (shT.getD i (9, 0)).1 ≠ 8 := by decide +kernel
      exact h2 _ (by omega)
    · split
      · split <;> decide
      · decide
theorem fT_cls {c : Nat} (h : c / 100 < 12) (h2 : c % 100 < (clE (c / 100)).2.2) : (fT c).1 = cN (c / 100) := fT_cl _ h _ h2
theorem init_void {y : Nat} (h : y < 209) (hn : (mY y).name = "<init>") : mR y = none := by
  have h1 := List.all_eq_true.mp iniV y (List.mem_range.mpr h)
  exact (of_decide_eq_true h1) hn
theorem rcv_sp1 {k a} (h : rcv (k + 1) a) (hk : k < 12) : ∃ o as, a = .inr (.inr (some o)) :: as ∧ shp o = (0, k) := by
  unfold rcv at h
  rw [if_neg (by omega)] at h
  split at h
  · rw [if_neg (by omega)] at h
    exact ⟨_, _, rfl, h⟩
  · exact h.elim
theorem rcv_sp9 {a} (h : rcv 99 a) : ∃ o as, a = .inr (.inr (some o)) :: as := by
  unfold rcv at h
  rw [if_neg (by omega)] at h
  split at h
  · exact ⟨_, _, rfl⟩
  · exact h.elim
section SOUND
variable {g : GX} {d y : Nat} {Q : Option AV → MI → MR → Prop}
theorem s_ret {pc rt v} {ls : LV} {I : MI} {R : MR} {nx : List Nat} (hrt : mR y = rtT rt) (h : rt = 1 ∨ rt = 2 ∧ (v = 0 ∨ v = 1)) (hq : Q (some (.inl v)) I R) (hd : decode (mB y) pc = .ok (.ireturn, 1)) : AtP g d y Q pc ls [.inl v] I R nx := by
  intro x lv ad p e Rm s m args below meth c H locs lsC cells slots Z C ret hR hS hL hst hc hs
  refine ret lv ad I R nx H locs cells slots pc lsC (some (.inl v)) .ireturn Ext.rf hR hS (fun w hw => ?_) (by omega) (by omega) ?_ hq rfl hd
  · cases hw; exact okh hst
  · rw [hrt]
    rcases h with rfl | ⟨rfl, h⟩
    · trivial
    · exact h
theorem s_retV {pc rt} {ls : LV} {I : MI} {R : MR} {nx : List Nat} (hrt : mR y = rtT rt) (h : rt = 0) (hq : Q none I R) (hd : decode (mB y) pc = .ok (.return_, 1)) : AtP g d y Q pc ls [] I R nx := by
  intro x lv ad p e Rm s m args below meth c H locs lsC cells slots Z C ret hR hS hL hst hc hs
  refine ret lv ad I R nx H locs cells slots pc lsC none .return_ Ext.rf hR hS (fun w hw => by cases hw) (by omega) (by omega) ?_ hq rfl hd
  rw [hrt, h]
  trivial
theorem pair_eq {sh : Nat × Nat} {a : Nat} (h : sh.1 = a) : sh = (a, sh.2) := by rw [← h]
set_option maxHeartbeats 8000000 in
set_option maxRecDepth 100000 in
theorem xw_sound {B : List CD} {ini : Bool} {rt : Nat} (hB : B.all (chkL (mO y) ini (mB y) B) = true) (hini : ini = true → (mY y).name = "<init>") (hrt : mR y = rtT rt) (hown : cN (mO y) = (mY y).cls) :
    ∀ (n : Nat) (k : CD) (ls : LV) (st : List AV) (I : MI) (R : MR) (nx : List Nat), chkL (mO y) ini (mB y) B k = true → xw g (AtP g (d + 1) y Q) (Call g d) Q rt (fun b => B.getD b []) n k ls st I R nx → AtP g (d + 1) y Q (pcO k) ls st I R nx := by
  intro n
  induction n with
  | zero => intro k ls st I R nx _ h; exact h.elim
  | succ n ih =>
    intro k ls st I R nx hk h
    match k, hk, h with
    | [], _, h => exact h.elim
    | (pc, i) :: k', hk, h =>
      have hJ : ∀ (b : Int) (ls : LV) (st : List AV) (I : MI) (R : MR) (nx : List Nat), (if b.toNat < 100000 then xw g (AtP g (d + 1) y Q) (Call g d) Q rt (fun b => B.getD b []) n (B.getD b.toNat []) ls st I R nx else AtP g (d + 1) y Q (b.toNat - 100000) ls st I R nx) → ∃ tgt : Nat, tpc B b = tgt ∧ AtP g (d + 1) y Q tgt ls st I R nx := by
        intro b ls st I R nx h
        unfold tpc
        split at h
        · rename_i hb
          rw [if_pos hb]
          refine ⟨_, rfl, ih _ ls st I R nx ?_ h⟩
          rw [List.getD_eq_getElem?_getD]
          cases hg : B[b.toNat]? with
          | none => rfl
          | some l => exact List.all_eq_true.mp hB l (List.mem_of_getElem? hg)
        · rename_i hb
          rw [if_neg hb]
          exact ⟨b.toNat - 100000, by omega, h⟩
      have hK : ∀ (len : Nat) (ls : LV) (st : List AV) (I : MI) (R : MR) (nx : List Nat), chkL (mO y) ini (mB y) B k' = true → (∀ pc' i' k'', k' = (pc', i') :: k'' → pc' = pc + len) → xw g (AtP g (d + 1) y Q) (Call g d) Q rt (fun b => B.getD b []) n k' ls st I R nx → AtP g (d + 1) y Q (pc + len) ls st I R nx := by
        intro len ls st I R nx hc hp h
        match k', hc, hp, h with
        | [], _, _, h => cases n <;> exact h.elim
        | (pc', i') :: k'', hc, hp, h =>
          have e := hp pc' i' k'' rfl
          have := ih _ ls st I R nx hc h
          rw [← e]
          exact this
      show AtP g (d + 1) y Q pc ls st I R nx
      by_cases hG : ∃ b, i = .goto_w b
      · obtain ⟨b, rfl⟩ := hG
        obtain ⟨tgt, ht, hA⟩ := hJ b ls st I R nx h
        unfold chkL at hk
        simp only [isG, decide_eq_true_eq] at hk
        have e : tgt = pc := by omega
        rw [← e]
        exact hA
      · have hGn : isG i = none := by cases i <;> first | rfl | exact absurd ⟨_, rfl⟩ hG
        obtain ⟨q, hd, hm, hck, hpc⟩ := chkL_sp hk hGn
        have hK2 := fun ls st I R nx => hK q.2 ls st I R nx hck hpc
        clear hK hk hpc hck
        unfold xw at h
        cases i with
        | iadd =>
          dsimp only [xi] at h
          obtain ⟨a, b, t, est, hTmp⟩ := p2_sp h
          clear h
          subst est
          have h := hTmp
          clear hTmp
          have e : q = (.iadd, 1) := by simpa [cands] using hm
          subst e
          exact s_iadd hd (hK2 _ _ _ _ _ h)
        | isub =>
          dsimp only [xi] at h
          obtain ⟨a, b, t, est, hTmp⟩ := p2_sp h
          clear h
          subst est
          have h := hTmp
          clear hTmp
          have e : q = (.isub, 1) := by simpa [cands] using hm
          subst e
          exact s_isub hd (hK2 _ _ _ _ _ h)
        | imul =>
          dsimp only [xi] at h
          obtain ⟨a, b, t, est, hTmp⟩ := p2_sp h
          clear h
          subst est
          have h := hTmp
          clear hTmp
          have e : q = (.imul, 1) := by simpa [cands] using hm
          subst e
          exact s_imul hd (hK2 _ _ _ _ _ h)
        | iand =>
          dsimp only [xi] at h
          obtain ⟨a, b, t, est, hTmp⟩ := p2_sp h
          clear h
          subst est
          have h := hTmp
          clear hTmp
          have e : q = (.iand, 1) := by simpa [cands] using hm
          subst e
          exact s_iand hd (hK2 _ _ _ _ _ h)
        | ior =>
          dsimp only [xi] at h
          obtain ⟨a, b, t, est, hTmp⟩ := p2_sp h
          clear h
          subst est
          have h := hTmp
          clear hTmp
          have e : q = (.ior, 1) := by simpa [cands] using hm
          subst e
          exact s_ior hd (hK2 _ _ _ _ _ h)
        | ixor =>
          dsimp only [xi] at h
          obtain ⟨a, b, t, est, hTmp⟩ := p2_sp h
          clear h
          subst est
          have h := hTmp
          clear hTmp
          have e : q = (.ixor, 1) := by simpa [cands] using hm
          subst e
          exact s_ixor hd (hK2 _ _ _ _ _ h)
        | ishl =>
          dsimp only [xi] at h
          obtain ⟨a, b, t, est, hTmp⟩ := p2_sp h
          clear h
          subst est
          have h := hTmp
          clear hTmp
          have e : q = (.ishl, 1) := by simpa [cands] using hm
          subst e
          exact s_ishl hd (hK2 _ _ _ _ _ h)
        | ishr =>
          dsimp only [xi] at h
          obtain ⟨a, b, t, est, hTmp⟩ := p2_sp h
          clear h
          subst est
          have h := hTmp
          clear hTmp
          have e : q = (.ishr, 1) := by simpa [cands] using hm
          subst e
          exact s_ishr hd (hK2 _ _ _ _ _ h)
        | iushr =>
          dsimp only [xi] at h
          obtain ⟨a, b, t, est, hTmp⟩ := p2_sp h
          clear h
          subst est
          have h := hTmp
          clear hTmp
          have e : q = (.iushr, 1) := by simpa [cands] using hm
          subst e
          exact s_iushr hd (hK2 _ _ _ _ _ h)
        | idiv =>
          dsimp only [xi] at h
          obtain ⟨a, b, t, est, h0, hTmp⟩ := p2_sp h
          clear h
          subst est
          have h := hTmp
          clear hTmp
          have e : q = (.idiv, 1) := by simpa [cands] using hm
          subst e
          exact s_idiv hd h0 (hK2 _ _ _ _ _ h)
        | irem =>
          dsimp only [xi] at h
          obtain ⟨a, b, t, est, h0, hTmp⟩ := p2_sp h
          clear h
          subst est
          have h := hTmp
          clear hTmp
          have e : q = (.irem, 1) := by simpa [cands] using hm
          subst e
          exact s_irem hd h0 (hK2 _ _ _ _ _ h)
        | ineg =>
          dsimp only [xi] at h
          obtain ⟨a, t, est, hTmp⟩ := p1_sp h
          clear h
          subst est
          have h := hTmp
          clear hTmp
          have e : q = (.ineg, 1) := by simpa [cands] using hm
          subst e
          exact s_ineg hd (hK2 _ _ _ _ _ h)
        | i2b =>
          dsimp only [xi] at h
          obtain ⟨a, t, est, hTmp⟩ := p1_sp h
          clear h
          subst est
          have h := hTmp
          clear hTmp
          have e : q = (.i2b, 1) := by simpa [cands] using hm
          subst e
          exact s_i2b hd (hK2 _ _ _ _ _ h)
        | i2l =>
          dsimp only [xi] at h
          obtain ⟨a, t, est, hTmp⟩ := p1_sp h
          clear h
          subst est
          have h := hTmp
          clear hTmp
          have e : q = (.i2l, 1) := by simpa [cands] using hm
          subst e
          exact s_i2l hd (hK2 _ _ _ _ _ h)
        | land =>
          dsimp only [xi] at h
          obtain ⟨a, b, t, est, hTmp⟩ := p2L_sp h
          clear h
          subst est
          have h := hTmp
          clear hTmp
          have e : q = (.land, 1) := by simpa [cands] using hm
          subst e
          exact s_land hd (hK2 _ _ _ _ _ h)
        | lor =>
          dsimp only [xi] at h
          obtain ⟨a, b, t, est, hTmp⟩ := p2L_sp h
          clear h
          subst est
          have h := hTmp
          clear hTmp
          have e : q = (.lor, 1) := by simpa [cands] using hm
          subst e
          exact s_lor hd (hK2 _ _ _ _ _ h)
        | lshl =>
          dsimp only [xi] at h
          obtain ⟨a, b, t, est, hTmp⟩ := pLI_sp h
          clear h
          subst est
          have h := hTmp
          clear hTmp
          have e : q = (.lshl, 1) := by simpa [cands] using hm
          subst e
          exact s_lshl hd (hK2 _ _ _ _ _ h)
        | lushr =>
          dsimp only [xi] at h
          obtain ⟨a, b, t, est, hTmp⟩ := pLI_sp h
          clear h
          subst est
          have h := hTmp
          clear hTmp
          have e : q = (.lushr, 1) := by simpa [cands] using hm
          subst e
          exact s_lushr hd (hK2 _ _ _ _ _ h)
        | lcmp =>
          dsimp only [xi] at h
          obtain ⟨a, b, t, est, hTmp⟩ := p2L_sp h
          clear h
          subst est
          have h := hTmp
          clear hTmp
          have e : q = (.lcmp, 1) := by simpa [cands] using hm
          subst e
          exact s_lcmp hd (hK2 _ _ _ _ _ h)
        | dup =>
          dsimp only [xi] at h
          obtain ⟨v, t, est, hv, hTmp⟩ := pD_sp h
          clear h
          subst est
          have h := hTmp
          clear hTmp
          have e : q = (.dup, 1) := by simpa [cands] using hm
          subst e
          exact s_dup hv hd (hK2 _ _ _ _ _ h)
        | dup2 =>
          dsimp only [xi] at h
          obtain ⟨v, w, t, est, hv, hw, hTmp⟩ := pDD_sp h
          clear h
          subst est
          have h := hTmp
          clear hTmp
          have e : q = (.dup2, 1) := by simpa [cands] using hm
          subst e
          exact s_dup2 hv hw hd (hK2 _ _ _ _ _ h)
        | iload k =>
          dsimp only [xi] at h
          obtain ⟨v, hn, h⟩ := gI_sp h
          simp only [cands] at hm
          rcases List.mem_cons.mp hm with e | e
          · subst e; exact s_iload hn hd (hK2 _ _ _ _ _ h)
          · split at e
            · rename_i h4
              simp only [List.mem_singleton] at e
              subst e; exact s_iload_n (k := ⟨k, h4⟩) hn hd (hK2 _ _ _ _ _ h)
            · exact absurd e List.not_mem_nil
        | lload k =>
          dsimp only [xi] at h
          obtain ⟨v, hn, h⟩ := gL_sp h
          simp only [cands] at hm
          rcases List.mem_cons.mp hm with e | e
          · subst e; exact s_lload hn hd (hK2 _ _ _ _ _ h)
          · split at e
            · rename_i h4
              simp only [List.mem_singleton] at e
              subst e; exact s_lload_n (k := ⟨k, h4⟩) hn hd (hK2 _ _ _ _ _ h)
            · exact absurd e List.not_mem_nil
        | aload k =>
          dsimp only [xi] at h
          obtain ⟨v, hn, h⟩ := gR_sp h
          simp only [cands] at hm
          rcases List.mem_cons.mp hm with e | e
          · subst e; exact s_aload hn hd (hK2 _ _ _ _ _ h)
          · split at e
            · rename_i h4
              simp only [List.mem_singleton] at e
              subst e; exact s_aload_n (k := ⟨k, h4⟩) hn hd (hK2 _ _ _ _ _ h)
            · exact absurd e List.not_mem_nil
        | istore k =>
          dsimp only [xi] at h
          obtain ⟨v, t, est, hTmp⟩ := p1_sp h
          clear h
          subst est
          have h := hTmp
          clear hTmp
          obtain ⟨h1, h2, h⟩ := stl_spec h
          simp only [cands] at hm
          rcases List.mem_cons.mp hm with e | e
          · subst e; exact s_istore h1 h2 hd (hK2 _ _ _ _ _ h)
          · split at e
            · rename_i h4
              simp only [List.mem_singleton] at e
              subst e; exact s_istore_n (k := ⟨k, h4⟩) h1 h2 hd (hK2 _ _ _ _ _ h)
            · exact absurd e List.not_mem_nil
        | astore k =>
          dsimp only [xi] at h
          obtain ⟨v, t, est, hTmp⟩ := pN_sp h
          clear h
          subst est
          have h := hTmp
          clear hTmp
          obtain ⟨h1, h2, h⟩ := stl_spec h
          simp only [cands] at hm
          rcases List.mem_cons.mp hm with e | e
          · subst e; exact s_astore h1 h2 hd (hK2 _ _ _ _ _ h)
          · split at e
            · rename_i h4
              simp only [List.mem_singleton] at e
              subst e; exact s_astore_n (k := ⟨k, h4⟩) h1 h2 hd (hK2 _ _ _ _ _ h)
            · exact absurd e List.not_mem_nil
        | iinc k c =>
          dsimp only [xi] at h
          obtain ⟨v, hn, h⟩ := gI_sp h
          obtain ⟨h1, h2, h⟩ := stl_spec h
          simp only [cands, List.mem_cons, List.not_mem_nil, or_false] at hm
          rcases hm with e | e
          · subst e; exact s_iinc hn h1 h2 hd (hK2 _ _ _ _ _ h)
          · subst e; exact s_iincW hn h1 h2 hd (hK2 _ _ _ _ _ h)
        | iconst v =>
          dsimp only [xi] at h
          simp only [cands, List.mem_append, List.mem_flatMap, List.mem_filter, Bool.and_eq_true, beq_iff_eq] at hm
          rcases hm with ((hm | hm) | hm) | hm
          · split at hm
            · rename_i hv
              simp only [List.mem_singleton] at hm
              subst hm; exact s_iconst rfl ⟨by omega, by omega⟩ hd (hK2 _ _ _ _ _ h)
            · exact absurd hm List.not_mem_nil
          · split at hm
            · rename_i hv
              simp only [List.mem_singleton] at hm
              subst hm; exact s_bipush hv.1 hv.2 hd (hK2 _ _ _ _ _ h)
            · exact absurd hm List.not_mem_nil
          · split at hm
            · rename_i hv
              simp only [List.mem_singleton] at hm
              subst hm; exact s_sipush hv.1 hv.2 hd (hK2 _ _ _ _ _ h)
            · exact absurd hm List.not_mem_nil
          · obtain ⟨z, ⟨hz, hz1, hz2⟩, hm⟩ := hm
            have hw := inG_mem (List.all_eq_true.mp lkK_b z hz)
            have hv : i32 v := by
              have hr := List.all_eq_true.mp lkK_r z hz
              simp only [decide_eq_true_eq, Bool.and_eq_true] at hr
              rw [hz2] at hr
              exact ⟨hr.1, hr.2⟩
            rw [hz1, hz2] at hw
            simp only [List.mem_cons, List.not_mem_nil, or_false] at hm
            rcases hm with e | e
            · subst e; exact s_ldc hv hw hd (hK2 _ _ _ _ _ h)
            · subst e; exact s_ldcw hv hw hd (hK2 _ _ _ _ _ h)
        | ldc2_w v =>
          dsimp only [xi] at h
          simp only [cands, List.mem_append, List.mem_map, List.mem_filter, Bool.and_eq_true, beq_iff_eq] at hm
          rcases hm with hm | hm
          · split at hm
            · rename_i hv
              simp only [List.mem_singleton] at hm
              subst hm; exact s_lconst hv hd (hK2 _ _ _ _ _ h)
            · exact absurd hm List.not_mem_nil
          · obtain ⟨z, ⟨hz, hz1, hz2⟩, e⟩ := hm
            have hw := inG_mem (List.all_eq_true.mp lkL_b z hz)
            have hv : i64 (v : Int) := by
              have hr := List.all_eq_true.mp lkL_r z hz
              simp only [decide_eq_true_eq] at hr
              rw [hz2] at hr
              exact ⟨by omega, by omega⟩
            rw [hz1, hz2] at hw
            subst e; exact s_ldc2 hv hw hd (hK2 _ _ _ _ _ h)
        | if_icmp c b =>
          dsimp only [xi] at h
          obtain ⟨a1, b1, t, rfl, h1, h2⟩ := p2_sp h
          have e : q = (.if_icmp c (tpc B b - pc), 3) := by simpa [cands] using hm
          subst e
          have g1 : cnd c a1 b1 → AtP g (d + 1) y Q (tpc B b).toNat ls t I R nx := fun z => by
            obtain ⟨tgt, ht, hA⟩ := hJ b _ _ _ _ _ (h1 z)
            rw [ht]; exact hA
          have htp : (pc : Int) + (tpc B b - pc) = ((tpc B b).toNat : Int) := by
            have : 0 ≤ tpc B b := by unfold tpc; split <;> omega
            omega
          have g2 : ncd c a1 b1 → AtP g (d + 1) y Q (pc + 3) ls t I R nx := fun z => hK2 _ _ _ _ _ (h2 z)
          cases c
          · exact s_icmp_eq hd htp g1 g2
          · exact s_icmp_ne hd htp g1 g2
          · exact s_icmp_lt hd htp g1 g2
          · exact s_icmp_ge hd htp g1 g2
          · exact s_icmp_gt hd htp g1 g2
          · exact s_icmp_le hd htp g1 g2
        | ifCond c b =>
          dsimp only [xi] at h
          obtain ⟨a1, t, rfl, h1, h2⟩ := p1_sp h
          have e : q = (.ifCond c (tpc B b - pc), 3) := by simpa [cands] using hm
          subst e
          have g1 : cnd c a1 0 → AtP g (d + 1) y Q (tpc B b).toNat ls t I R nx := fun z => by
            obtain ⟨tgt, ht, hA⟩ := hJ b _ _ _ _ _ (h1 z)
            rw [ht]; exact hA
          have htp : (pc : Int) + (tpc B b - pc) = ((tpc B b).toNat : Int) := by
            have : 0 ≤ tpc B b := by unfold tpc; split <;> omega
            omega
          have g2 : ncd c a1 0 → AtP g (d + 1) y Q (pc + 3) ls t I R nx := fun z => hK2 _ _ _ _ _ (h2 z)
          cases c
          · exact s_if_eq hd htp g1 g2
          · exact s_if_ne hd htp g1 g2
          · exact s_if_lt hd htp g1 g2
          · exact s_if_ge hd htp g1 g2
          · exact s_if_gt hd htp g1 g2
          · exact s_if_le hd htp g1 g2
        | ifnonnull b =>
          dsimp only [xi] at h
          obtain ⟨r, t, rfl, h1, h2⟩ := pN_sp h
          have e : q = (.ifnonnull (tpc B b - pc), 3) := by simpa [cands] using hm
          subst e
          have g1 : r ≠ none → AtP g (d + 1) y Q (tpc B b).toNat ls t I R nx := fun z => by
            obtain ⟨tgt, ht, hA⟩ := hJ b _ _ _ _ _ (h1 z)
            rw [ht]; exact hA
          have htp : (pc : Int) + (tpc B b - pc) = ((tpc B b).toNat : Int) := by
            have : 0 ≤ tpc B b := by unfold tpc; split <;> omega
            omega
          exact s_ifnonnull hd htp g1 (fun z => hK2 _ _ _ _ _ (h2 z))
        | goto b =>
          dsimp only [xi] at h
          have e : q = (.goto (tpc B b - pc), 3) := by simpa [cands] using hm
          subst e
          obtain ⟨tgt, ht, hA⟩ := hJ b _ _ _ _ _ h
          exact s_goto hd (by omega) hA
        | tableswitch dd lo hi bs =>
          dsimp only [xi] at h
          obtain ⟨a1, t, rfl, h1, h2⟩ := p1_sp h
          simp only [cands] at hm
          split at hm
          case isFalse => exact absurd hm List.not_mem_nil
          rename_i hsz
          simp only [List.mem_map, List.mem_range] at hm
          obtain ⟨kk, -, e⟩ := hm
          subst e
          by_cases hx : a1 < lo ∨ hi < a1
          · obtain ⟨tgt, ht, hA⟩ := hJ dd _ _ _ _ _ (h1 hx)
            exact s_tsO hd hx (by omega) hA
          · obtain ⟨b, hb, hb2⟩ := tsw_sp _ _ h2 (by omega) (by omega)
            obtain ⟨tgt, ht, hA⟩ := hJ b _ _ _ _ _ hb2
            refine s_tsI hd (by omega) (by omega) (off := tpc B b - pc) ?_ (by omega) hA
            rw [Array.getElem?_map, ← Array.getElem?_toList, hb]
            rfl
        | iaload =>
          dsimp only [xi] at h
          obtain ⟨j, o, t, est, hTmp⟩ := pIR_sp h
          clear h
          subst est
          have h := hTmp
          clear hTmp
          have e : q = (.iaload, 1) := by simpa [cands] using hm
          subst e
          unfold ldS at h
          split at h
          · rename_i hs; obtain ⟨h0, h1, h⟩ := h; exact s_iald (pair_eq hs) h0 h1 hd (hK2 _ _ _ _ _ h)
          · rename_i hs; obtain ⟨h0, h1, hz⟩ := h
            have : o = 999 := shp7 hs
            subst this
            exact s_sld h0 h1 hd (hK2 _ _ _ _ _ hz)
          · exact h.elim
        | baload =>
          dsimp only [xi] at h
          obtain ⟨j, o, t, est, hs, h0, h1, hTmp⟩ := pIR_sp h
          clear h
          subst est
          have h := hTmp
          clear hTmp
          have e : q = (.baload, 1) := by simpa [cands] using hm
          subst e
          rcases hs with hs | hs
          · exact s_bald (pair_eq hs) h0 h1 hd (hK2 _ _ _ _ _ h)
          · exact s_zald (pair_eq hs) h0 h1 hd (hK2 _ _ _ _ _ h)
        | laload =>
          dsimp only [xi] at h
          obtain ⟨j, o, t, est, hs, h0, h1, hTmp⟩ := pIR_sp h
          clear h
          subst est
          have h := hTmp
          clear hTmp
          have e : q = (.laload, 1) := by simpa [cands] using hm
          subst e
          exact s_lald (pair_eq (hs.elim id id)) h0 h1 hd (hK2 _ _ _ _ _ h)
        | aaload =>
          dsimp only [xi] at h
          obtain ⟨j, o, t, est, hs, h0, h1, hTmp⟩ := pIR_sp h
          clear h
          subst est
          have h := hTmp
          clear hTmp
          have e : q = (.aaload, 1) := by simpa [cands] using hm
          subst e
          rcases hs with hs | hs
          · exact s_aald5 (pair_eq hs) h0 h1 hd (hK2 _ _ _ _ _ h)
          · exact s_aald6 (pair_eq hs) h0 h1 hd (hK2 _ _ _ _ _ h)
        | iastore =>
          dsimp only [xi] at h
          obtain ⟨v, j, o, t, est, hs, h0, h1, hTmp⟩ := pIIR_sp h
          clear h
          subst est
          have h := hTmp
          clear hTmp
          have e : q = (.iastore, 1) := by simpa [cands] using hm
          subst e
          exact s_iast (pair_eq (hs.elim id id)) h0 h1 hd (hK2 _ _ _ _ _ h)
        | lastore =>
          dsimp only [xi] at h
          obtain ⟨v, j, o, t, est, hs, h0, h1, hTmp⟩ := pLIR_sp h
          clear h
          subst est
          have h := hTmp
          clear hTmp
          have e : q = (.lastore, 1) := by simpa [cands] using hm
          subst e
          exact s_last (pair_eq (hs.elim id id)) h0 h1 hd (hK2 _ _ _ _ _ h)
        | bastore =>
          dsimp only [xi] at h
          obtain ⟨v, j, o, t, est, h0, h1, hTmp⟩ := pIIR_sp h
          clear h
          subst est
          have h := hTmp
          clear hTmp
          have e : q = (.bastore, 1) := by simpa [cands] using hm
          subst e
          split at h
          · rename_i hs; exact s_bast (pair_eq hs) h0 h1 hd (hK2 _ _ _ _ _ h)
          · rename_i hs; exact s_zast (pair_eq hs) h0 h1 hd (hK2 _ _ _ _ _ h)
          · exact h.elim
        | aastore =>
          dsimp only [xi] at h
          obtain ⟨v, j, o, t, est, hs, h0, h1, hq, hTmp⟩ := pRIR_sp h
          clear h
          subst est
          have h := hTmp
          clear hTmp
          have e : q = (.aastore, 1) := by simpa [cands] using hm
          subst e
          rcases hs with hs | hs
          · rw [if_pos hs] at hq; exact s_aast5 (pair_eq hs) hq h0 h1 hd (hK2 _ _ _ _ _ h)
          · rw [if_neg (by rw [hs]; decide)] at hq; exact s_aast6 (pair_eq hs) hq h0 h1 hd (hK2 _ _ _ _ _ h)
        | arraylength =>
          dsimp only [xi] at h
          obtain ⟨o, t, est, hTmp⟩ := pR_sp h
          clear h
          subst est
          have h := hTmp
          clear hTmp
          have e : q = (.arraylength, 1) := by simpa [cands] using hm
          subst e
          unfold lenS at h
          split at h
          · rename_i hs
            have hz := h
            have : o = 999 := shp7 hs
            subst this
            exact s_slen hd (hK2 _ _ _ _ _ hz)
          · exact h.elim
          · exact h.elim
          · rename_i h7 h0 h9
            have h8 := shp_le o
            have z7 : (shp o).1 ≠ 7 := h7
            have z0 : (shp o).1 ≠ 0 := h0
            have z9 : (shp o).1 ≠ 9 := h9
            exact s_alen (k0 := (shp o).1) (n := (shp o).2) rfl (by omega) (by have := shp_k o; have := shp_8 o; omega) (by omega) hd (hK2 _ _ _ _ _ h)
        | getfield c =>
          dsimp only [xi] at h
          obtain ⟨o, t, est, hs, hTmp⟩ := pR_sp h
          clear h
          subst est
          have h := hTmp
          clear hTmp
          simp only [cands] at hm
          split at hm
          · rename_i hf
            simp only [List.mem_map, List.mem_filter, Bool.and_eq_true, beq_iff_eq] at hm
            obtain ⟨z, ⟨hz, hz1, hz2⟩, e⟩ := hm
            subst e
            subst hz2
            exact s_getI hz hz1 hf hs hd (hK2 _ _ _ _ _ h)
          · exact absurd hm List.not_mem_nil
        | getstatic c =>
          dsimp only [xi] at h
          obtain ⟨o, t, est, hs, hTmp⟩ := pR_sp h
          clear h
          subst est
          have h := hTmp
          clear hTmp
          simp only [cands] at hm
          split at hm
          · rename_i hf
            simp only [List.mem_map, List.mem_filter, Bool.and_eq_true, beq_iff_eq] at hm
            obtain ⟨z, ⟨hz, hz1, hz2⟩, e⟩ := hm
            subst e
            subst hz2
            exact s_getR hz hz1 hf hs hd (hK2 _ _ _ _ _ h)
          · exact absurd hm List.not_mem_nil
        | dload c =>
          dsimp only [xi] at h
          obtain ⟨o, t, est, hs, hTmp⟩ := pR_sp h
          clear h
          subst est
          have h := hTmp
          clear hTmp
          simp only [cands] at hm
          split at hm
          · rename_i hf
            simp only [List.mem_map, List.mem_filter, Bool.and_eq_true, beq_iff_eq] at hm
            obtain ⟨z, ⟨hz, hz1, hz2⟩, e⟩ := hm
            subst e
            subst hz2
            exact s_getL hz hz1 hf hs hd (hK2 _ _ _ _ _ h)
          · exact absurd hm List.not_mem_nil
        | putfield c =>
          dsimp only [xi] at h
          split at h
          · obtain ⟨hs, h⟩ := h
            simp only [cands] at hm
            split at hm
            · rename_i hf
              simp only [List.mem_map, List.mem_filter, Bool.and_eq_true, beq_iff_eq] at hm
              obtain ⟨z, ⟨hz, hz1, hz2⟩, e⟩ := hm
              subst e
              subst hz2
              have hff : (fT z.2.2.1).2.2.2 = false ∨ ((mY y).name = "<init>" ∧ cN (mO y) = (fT z.2.2.1).1) := hf.2.imp id (fun w => ⟨hini w.1, by rw [w.2]; exact (fT_cls (lkF_mem hz).2.1 (lkF_mem hz).2.2).symm⟩)
              exact s_putI hz hz1 hf.1 hff hs hd (hK2 _ _ _ _ _ h)
            · exact absurd hm List.not_mem_nil
          · exact h.elim
        | instanceof c =>
          dsimp only [xi] at h
          split at h
          · obtain ⟨hs, hz9, h⟩ := h
            simp only [cands] at hm
            split at hm
            · rename_i hf
              simp only [List.mem_map, List.mem_filter, Bool.and_eq_true, beq_iff_eq] at hm
              obtain ⟨z, ⟨hz, hz1, hz2⟩, e⟩ := hm
              subst e
              subst hz2
              have hff : (fT z.2.2.1).2.2.2 = false ∨ ((mY y).name = "<init>" ∧ cN (mO y) = (fT z.2.2.1).1) := hf.2.imp id (fun w => ⟨hini w.1, by rw [w.2]; exact (fT_cls (lkF_mem hz).2.1 (lkF_mem hz).2.2).symm⟩)
              exact s_putZ hz hz1 hf.1 hff hs hz9 hd (hK2 _ _ _ _ _ h)
            · exact absurd hm List.not_mem_nil
          · exact h.elim
        | dstore c =>
          dsimp only [xi] at h
          split at h
          · obtain ⟨hs, h⟩ := h
            simp only [cands] at hm
            split at hm
            · rename_i hf
              simp only [List.mem_map, List.mem_filter, Bool.and_eq_true, beq_iff_eq] at hm
              obtain ⟨z, ⟨hz, hz1, hz2⟩, e⟩ := hm
              subst e
              subst hz2
              have hff : (fT z.2.2.1).2.2.2 = false ∨ ((mY y).name = "<init>" ∧ cN (mO y) = (fT z.2.2.1).1) := hf.2.imp id (fun w => ⟨hini w.1, by rw [w.2]; exact (fT_cls (lkF_mem hz).2.1 (lkF_mem hz).2.2).symm⟩)
              exact s_putL hz hz1 hf.1 hff hs hd (hK2 _ _ _ _ _ h)
            · exact absurd hm List.not_mem_nil
          · exact h.elim
        | putstatic c =>
          dsimp only [xi] at h
          obtain ⟨r, o, t, est, hs, hTmp⟩ := pNR_sp h
          clear h
          subst est
          have h := hTmp
          clear hTmp
          simp only [cands] at hm
          split at hm
          · rename_i hf
            simp only [List.mem_map, List.mem_filter, Bool.and_eq_true, beq_iff_eq] at hm
            obtain ⟨z, ⟨hz, hz1, hz2⟩, e⟩ := hm
            subst e
            subst hz2
            have hff : (fT z.2.2.1).2.2.2 = false ∨ ((mY y).name = "<init>" ∧ cN (mO y) = (fT z.2.2.1).1) := hf.2.imp id (fun w => ⟨hini w.1, by rw [w.2]; exact (fT_cls (lkF_mem hz).2.1 (lkF_mem hz).2.2).symm⟩)
            exact s_putR hz hz1 hf.1 hff hs hd (hK2 _ _ _ _ _ h)
          · exact absurd hm List.not_mem_nil
        | new c =>
          dsimp only [xi] at h
          obtain ⟨id, nx', est, hs, hTmp⟩ := newK_sp h
          clear h
          subst est
          have h := hTmp
          clear hTmp
          simp only [cands, List.mem_map, List.mem_filter, Bool.and_eq_true, beq_iff_eq] at hm
          obtain ⟨z, ⟨hz, hz1, hz2⟩, e⟩ := hm
          subst e
          subst hz2
          have h12 : z.2.2.1 < 12 := by
            have := List.all_eq_true.mp lkC_r z hz
            simpa using this
          exact s_new hz hz1 h12 hs hd (hK2 _ _ _ _ _ h)
        | newarray a =>
          dsimp only [xi] at h
          obtain ⟨v, t, est, h0, h9, hTmp⟩ := p1_sp h
          clear h
          subst est
          have h := hTmp
          clear hTmp
          obtain ⟨id, nx', est, hs, hTmp⟩ := newK_sp h
          clear h
          subst est
          have h := hTmp
          clear hTmp
          simp only [cands] at hm
          split at hm
          · rename_i ha
            simp only [List.mem_singleton] at hm
            subst hm
            cases a
            case int => exact s_newa1 h0 h9 hs hd (hK2 _ _ _ _ _ h)
            case byte => exact s_newa2 h0 h9 hs hd (hK2 _ _ _ _ _ h)
            case boolean => exact s_newa3 h0 h9 hs hd (hK2 _ _ _ _ _ h)
            case long => exact s_newa4 h0 h9 hs hd (hK2 _ _ _ _ _ h)
            all_goals exact absurd ha (by decide)
          · exact absurd hm List.not_mem_nil
        | anewarray a =>
          dsimp only [xi] at h
          obtain ⟨v, t, est, h0, h9, hTmp⟩ := p1_sp h
          clear h
          subst est
          have h := hTmp
          clear hTmp
          obtain ⟨id, nx', est, hs, hTmp⟩ := newK_sp h
          clear h
          subst est
          have h := hTmp
          clear hTmp
          simp only [cands, List.mem_map, List.mem_filter, Bool.and_eq_true, Bool.or_eq_true, beq_iff_eq] at hm
          obtain ⟨z, ⟨hz, hz1, hz2⟩, e⟩ := hm
          subst e
          rcases hz2 with ⟨hz2, rfl⟩ | ⟨hz2, rfl⟩
          · exact s_newq5 hz hz1 hz2 h0 h9 hs hd (hK2 _ _ _ _ _ h)
          · exact s_newq6 hz hz1 hz2 h0 h9 hs hd (hK2 _ _ _ _ _ h)
        | fadd =>
          dsimp only [xi] at h
          obtain ⟨a, b, t, est, hTmp⟩ := p2_sp h
          clear h
          subst est
          have h := hTmp
          clear hTmp
          obtain ⟨h4, h⟩ := sh4_spec h
          simp only [cands, List.mem_map, List.mem_filter, Bool.and_eq_true, beq_iff_eq] at hm
          obtain ⟨z, ⟨hz, hz1, hz2⟩, e⟩ := hm
          subst e
          exact s_max hz hz1 hz2 h4 hd (hK2 _ _ _ _ _ h)
        | fsub =>
          dsimp only [xi] at h
          obtain ⟨a, b, t, est, hTmp⟩ := p2_sp h
          clear h
          subst est
          have h := hTmp
          clear hTmp
          obtain ⟨h4, h⟩ := sh4_spec h
          simp only [cands, List.mem_map, List.mem_filter, Bool.and_eq_true, beq_iff_eq] at hm
          obtain ⟨z, ⟨hz, hz1, hz2⟩, e⟩ := hm
          subst e
          exact s_min hz hz1 hz2 h4 hd (hK2 _ _ _ _ _ h)
        | fneg =>
          dsimp only [xi] at h
          obtain ⟨a, t, est, hTmp⟩ := p1_sp h
          clear h
          subst est
          have h := hTmp
          clear hTmp
          obtain ⟨h4, h⟩ := sh4_spec h
          simp only [cands, List.mem_map, List.mem_filter, Bool.and_eq_true, beq_iff_eq] at hm
          obtain ⟨z, ⟨hz, hz1, hz2⟩, e⟩ := hm
          subst e
          exact s_abs hz hz1 hz2 h4 hd (hK2 _ _ _ _ _ h)
        | pop =>
          dsimp only [xi] at h
          obtain ⟨a, t, est, hTmp⟩ := pR_sp h
          clear h
          subst est
          have h := hTmp
          clear hTmp
          obtain ⟨h4, h⟩ := sh4_spec h
          simp only [cands, List.mem_map, List.mem_filter, beq_iff_eq] at hm
          obtain ⟨z, ⟨hz, hz1⟩, e⟩ := hm
          subst e
          exact s_objInit hz hz1 h4 hd (hK2 _ _ _ _ _ h)
        | pop2 =>
          dsimp only [xi] at h
          obtain ⟨nn, dp, p', sp, o, t, est, hTmp⟩ := pCp_sp h
          clear h
          subst est
          have h := hTmp
          clear hTmp
          obtain ⟨h4, he, hk, h1, h2, h3, h5, h6, h⟩ := sh4_spec h
          simp only [cands, List.mem_map, List.mem_filter, beq_iff_eq] at hm
          obtain ⟨z, ⟨hz, hz1⟩, e⟩ := hm
          subst e
          rcases hk with hk | hk
          · exact s_copy1 hz hz1 h4 (pair_eq (he.symm.trans hk)) (pair_eq hk) h1 h2 h3 h5 h6 hd (hK2 _ _ _ _ _ h)
          · exact s_copy2 hz hz1 h4 (pair_eq (he.symm.trans hk)) (pair_eq hk) h1 h2 h3 h5 h6 hd (hK2 _ _ _ _ _ h)
        | ireturn =>
          dsimp only [xi] at h
          obtain ⟨v, rfl, h1, h2⟩ := pI1_sp h
          have e : q = (.ireturn, 1) := by simpa [cands] using hm
          subst e
          exact s_ret hrt h1 h2 hd
        | return_ =>
          dsimp only [xi] at h
          obtain ⟨rfl, h1, h2⟩ := h
          have e : q = (.return_, 1) := by simpa [cands] using hm
          subst e
          exact s_retV hrt h1 h2 hd
        | invokeinterface y' c =>
          dsimp only [xi] at h
          obtain ⟨b, t, rfl, hbl, h⟩ := spl_sp _ _ _ _ h
          obtain ⟨h4, hrc, h⟩ := sh4_spec h
          rw [List.append_nil] at hrc h
          have hF : ∃ F, Call g d y' b.reverse I R (nx.take (c / 100000)) F ∧ ∀ rv I' R', F rv I' R' → AtP g (d + 1) y Q (pc + q.2) ls (rv.toList ++ t) I' R' (nx.drop (c / 100000)) := by
            split at h
            · exact ⟨_, h, fun rv I' R' hh => by
                obtain ⟨v, rfl, hx⟩ := hh
                exact hK2 _ _ _ _ _ hx⟩
            · exact ⟨_, h, fun rv I' R' hh => by
                obtain ⟨rfl, hx⟩ := hh
                exact hK2 _ _ _ _ _ hx⟩
          obtain ⟨F, hC, hF⟩ := hF
          simp only [cands] at hm
          by_cases hnp : decide (c / 10 % 10 = (mPl.getD y' (0, 0, 0, 0, 99)).2.2.2.2 + (if mS y' = true then 0 else 1)) = true
          · rw [if_pos hnp] at hm
            rcases List.mem_append.mp hm with hm | hm
            · simp only [List.mem_map, List.mem_filter, Bool.and_eq_true, beq_iff_eq, decide_eq_true_eq] at hm
              obtain ⟨z, ⟨hz, ⟨⟨hz1, hz2⟩, hz30⟩, hz31⟩, e⟩ := hm
              have hz3 := And.intro hz30 hz31
              have hlk := List.all_eq_true.mp lkM_k z hz
              simp only [Bool.and_eq_true, decide_eq_true_eq] at hlk
              obtain ⟨⟨⟨k1, k2⟩, k3⟩, k4⟩ := hlk
              have hl := inG_mem (List.all_eq_true.mp lkM_b z hz)
              rw [lkM_c, hz1, hz2] at hl
              rw [hz2] at k1 k3 k4
              subst e
              rcases (show z.2.2.2.1 = 0 ∨ z.2.2.2.1 = 1 ∨ z.2.2.2.1 = 2 by omega) with w | w | w
              · rw [w] at hd k3 k4
                simp only [if_true, if_false] at hd k3
                have hms : mS y' = false := by simpa using k3
                rw [hms] at hnp
                have hl2 : b.length = (mPl.getD y' (0, 0, 0, 0, 99)).2.2.2.2 + 1 := by simpa [hbl] using hnp
                obtain ⟨hc1, hc2⟩ := hz3.1 w
                rw [hc1] at hrc
                obtain ⟨o, as, e, hs⟩ := rcv_sp1 hrc hc2
                rw [e] at hC
                have eb : b = as.reverse ++ [.inr (.inr (some o))] := by rw [← List.reverse_reverse b, e, List.reverse_cons]
                have hlen : as.length = (mPl.getD y' (0, 0, 0, 0, 99)).2.2.2.2 := by
                  rw [eb] at hl2
                  simp only [List.length_append, List.length_reverse, List.length_singleton] at hl2
                  omega
                have := s_callV (t := t) k1 hl hms (fun z9 => by have := k4.mpr z9; omega) rfl hlen hs hc2 h4 hd hC hF
                rw [List.take_append_drop] at this
                rw [eb, List.append_assoc]
                exact this
              · rw [w] at hd k3
                simp only [if_true, if_false] at hd k3
                rw [k3] at hnp
                have hl2 : b.reverse.length = (mPl.getD y' (0, 0, 0, 0, 99)).2.2.2.2 := by rw [List.length_reverse]; simpa [hbl] using hnp
                have := s_callS (t := t) k1 hl k3 rfl hl2 h4 hd hC hF
                rw [List.take_append_drop, List.reverse_reverse] at this
                exact this
              · rw [w] at hd k3 k4
                rw [if_neg (by decide), if_neg (by decide)] at hd
                rw [if_neg (by decide)] at k3
                have hms : mS y' = false := by simpa using k3
                have hin := k4.mp rfl
                rw [hms] at hnp
                have hl2 : b.length = (mPl.getD y' (0, 0, 0, 0, 99)).2.2.2.2 + 1 := by simpa [hbl] using hnp
                rw [hz3.2 w] at hrc
                obtain ⟨o, as, e⟩ := rcv_sp9 hrc
                rw [e] at hC
                have eb : b = as.reverse ++ [.inr (.inr (some o))] := by rw [← List.reverse_reverse b, e, List.reverse_cons]
                have hlen : as.length = (mPl.getD y' (0, 0, 0, 0, 99)).2.2.2.2 := by
                  rw [eb] at hl2
                  simp only [List.length_append, List.length_reverse, List.length_singleton] at hl2
                  omega
                have := s_callI (t := t) hl k1 hms hin rfl hlen (init_void k1 hin) h4 hd hC hF
                rw [List.take_append_drop] at this
                rw [eb, List.append_assoc]
                exact this
            · simp only [List.mem_map, List.mem_filter, Bool.and_eq_true, beq_iff_eq, decide_eq_true_eq] at hm
              obtain ⟨z, ⟨hz, ⟨hz1, hz2⟩, hz3⟩, e⟩ := hm
              have hlk := List.all_eq_true.mp lkN_k z hz
              simp only [Bool.and_eq_true, decide_eq_true_eq] at hlk
              obtain ⟨⟨k1, k3⟩, k4⟩ := hlk
              rw [hz2] at k1 k3 k4
              subst e
              have hms : mS y' = false := by simpa using k3
              rw [hms] at hnp
              have hl2 : b.length = (mPl.getD y' (0, 0, 0, 0, 99)).2.2.2.2 + 1 := by simpa [hbl] using hnp
              rw [hz3] at hrc
              obtain ⟨o, as, e⟩ := rcv_sp9 hrc
              rw [e] at hC
              have eb : b = as.reverse ++ [.inr (.inr (some o))] := by rw [← List.reverse_reverse b, e, List.reverse_cons]
              have hlen : as.length = (mPl.getD y' (0, 0, 0, 0, 99)).2.2.2.2 := by
                rw [eb] at hl2
                simp only [List.length_append, List.length_reverse, List.length_singleton] at hl2
                omega
              have := s_callN (t := t) hz hz1 hz2 rfl k1 hms k4 rfl hlen (init_void k1 k4) h4 hd hC hF
              rw [List.take_append_drop] at this
              rw [eb, List.append_assoc]
              exact this
          · rw [if_neg hnp] at hm; exact absurd hm List.not_mem_nil
        | goto_w b => exact absurd ⟨b, rfl⟩ hG
        | _ => exact False.elim h
end SOUND
