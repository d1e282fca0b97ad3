/-! the text read as a game: all tokens in a row -/
def gNx (t : Nat → Int) (L : Nat) (st : ST) (p : Nat) : Int × ST := kTake st (kwK t L p) (kwV t L p) (kwS t L p)
def gRun (t : Nat → Int) (L : Nat) : Nat → ST → Nat → Int × ST
  | 0, st, _ => (-1, st)
  | k + 1, st, p => if (gNx t L st p).1 = 0 then (((kwS t L p : Nat) : Int), st) else if kwK t L p = 24 then (-1, (gNx t L st p).2) else gRun t L k (gNx t L st p).2 (kwE t L p)
theorem gRun_s {t : Nat → Int} {L k p : Nat} {st : ST} : gRun t L (k + 1) st p = if (gNx t L st p).1 = 0 then (((kwS t L p : Nat) : Int), st) else if kwK t L p = 24 then (-1, (gNx t L st p).2) else gRun t L k (gNx t L st p).2 (kwE t L p) := rfl
theorem gRun_f {t : Nat → Int} {L : Nat} : ∀ (k j : Nat) (st : ST) (p : Nat), p ≤ L → L < p + k → L < p + j → gRun t L k st p = gRun t L j st p
  | 0, j, st, p, h, h1, h2 => by omega
  | k + 1, 0, st, p, h, h1, h2 => by omega
  | k + 1, j + 1, st, p, h, h1, h2 => by
    rw [gRun_s, gRun_s]
    by_cases a : (gNx t L st p).1 = 0
    · rw [if_pos a, if_pos a]
    · rw [if_neg a, if_neg a]
      by_cases b : kwK t L p = 24
      · rw [if_pos b, if_pos b]
      · rw [if_neg b, if_neg b]
        have c := kwE_b (t := t) h
        have c2 := c.2 b
        exact gRun_f k j _ _ c.1 (by omega) (by omega)
def gG (t : Nat → Int) (L : Nat) (st : ST) (p : Nat) : Int × ST := gRun t L (L + 1 - p) st p
theorem gG_s {t : Nat → Int} {L p : Nat} {st : ST} (hp : p ≤ L) : gG t L st p = if (gNx t L st p).1 = 0 then (((kwS t L p : Nat) : Int), st) else if kwK t L p = 24 then (-1, (gNx t L st p).2) else gG t L (gNx t L st p).2 (kwE t L p) := by
  have e : gG t L st p = gRun t L (L - p + 1) st p := by unfold gG; rw [show L + 1 - p = L - p + 1 by omega]
  rw [e, gRun_s]
  by_cases a : (gNx t L st p).1 = 0
  · rw [if_pos a, if_pos a]
  · rw [if_neg a, if_neg a]
    by_cases b : kwK t L p = 24
    · rw [if_pos b, if_pos b]
    · rw [if_neg b, if_neg b]
      have c := kwE_b (t := t) hp
      have c2 := c.2 b
      exact gRun_f _ _ _ _ c.1 (by omega) (by omega)
/-- a token that the state takes, and is not the end -/
theorem gG_y {t : Nat → Int} {L p : Nat} {st s' : ST} (hp : p ≤ L) (h : gNx t L st p = (1, s')) (h24 : kwK t L p ≠ 24) : gG t L st p = gG t L s' (kwE t L p) := by
  rw [gG_s hp, h]
  show (if (1 : Int) = 0 then _ else _) = _
  rw [if_neg (by decide), if_neg h24]
theorem gG_n {t : Nat → Int} {L p : Nat} {st : ST} (hp : p ≤ L) (h : (gNx t L st p).1 = 0) : gG t L st p = (((kwS t L p : Nat) : Int), st) := by
  rw [gG_s hp, if_pos h]
theorem tooM_o {st : ST} {q : Int} {k x : Nat} (h : k ≠ 68) : tooM st q k x = st k x := by
  unfold tooM un
  split
  · exact if_neg h
  · rfl
theorem us_n {s : ST} {q p k x : Nat} {v : Int} (h : k ≠ q) : us s q p v k x = s k x := if_neg (fun z => h z.1)
theorem un_n {s : ST} {q k x : Nat} {v : Int} (h : k ≠ q) : un s q v k x = s k x := if_neg h
theorem un_y {s : ST} {q x : Nat} {v : Int} : un s q v q x = v := if_pos rfl
theorem pTest_o {st : ST} {b : Int} {k x : Nat} (h : k < 53 ∨ 56 < k) : pTest st b k x = st k x := by
  unfold pTest
  by_cases z : st 61 0 < 16 ∧ st 62 0 < 4
  · rw [if_pos z, us_n (by omega), us_n (by omega), us_n (by omega), us_n (by omega)]
  · rw [if_neg z]
theorem pLine_o {st : ST} {k x : Nat} (h : k ≠ 31 ∧ (k < 50 ∨ 52 < k)) : pLine st k x = st k x := by
  unfold pLine
  by_cases z : st 61 0 < 16 ∧ st 62 0 ≤ 4
  · rw [if_pos z, un_n (by omega), us_n (by omega), us_n (by omega), us_n (by omega)]
  · rw [if_neg z]
theorem mTest_o {st : ST} {q : Int} {k x : Nat} (h : k ≠ 68) : mTest st q k x = st k x := by
  unfold mTest
  split
  · rfl
  · exact tooM_o h
theorem mLine_o {st : ST} {q : Int} {k x : Nat} (h : k ≠ 68 ∧ k ≠ 62 ∧ k ≠ 67) : mLine st q k x = st k x := by
  unfold mLine
  rw [un_n h.2.2, un_n h.2.1]
  split
  · rfl
  · exact tooM_o h.1
def SC (st : ST) (p : Nat) : Prop := (0 ≤ st 60 0 ∧ st 60 0 ≤ 8) ∧ (0 ≤ st 61 0 ∧ st 61 0 ≤ p) ∧ (0 ≤ st 62 0 ∧ st 62 0 ≤ p)
theorem eTest_b {st : ST} {b : Int} {p : Nat} (h : SC st p) : SC (eTest st b) (p + 1) := by
  obtain ⟨h1, h2, h3⟩ := h
  unfold SC eTest
  rw [un_y, un_n (by decide), un_n (by decide), pTest_o (by omega), un_n (by decide), un_y]
  omega
theorem kAsk_b {st : ST} {k : Int} {p : Nat} (h : SC st p) : SC (kAsk st k).2 (p + 1) := by
  have h' : SC (un (un st 64 k) 65 23) p := by
    obtain ⟨h1, h2, h3⟩ := h
    unfold SC
    simp only [un_n (show (60 : Nat) ≠ 65 by decide), un_n (show (60 : Nat) ≠ 64 by decide), un_n (show (61 : Nat) ≠ 65 by decide), un_n (show (61 : Nat) ≠ 64 by decide), un_n (show (62 : Nat) ≠ 65 by decide), un_n (show (62 : Nat) ≠ 64 by decide)]
    exact ⟨h1, h2, h3⟩
  unfold kAsk
  split
  · exact eTest_b h'
  · obtain ⟨h1, h2, h3⟩ := h'
    show SC (un (un (un st 64 k) 65 23) 60 3) (p + 1)
    unfold SC
    rw [un_y, un_n (show (61 : Nat) ≠ 60 by decide), un_n (show (62 : Nat) ≠ 60 by decide)]
    omega
theorem kVerb_b {st : ST} {k : Int} {p : Nat} (h : SC st p) : SC (kVerb st k).2 (p + 1) := by
  obtain ⟨h1, h2, h3⟩ := h
  show SC (un (un st 66 k) 60 (if k = 6 then 8 else 7)) (p + 1)
  unfold SC
  rw [un_y, un_n (show (61 : Nat) ≠ 60 by decide), un_n (show (62 : Nat) ≠ 60 by decide), un_n (show (61 : Nat) ≠ 66 by decide), un_n (show (62 : Nat) ≠ 66 by decide)]
  split <;> omega
def SB (st : ST) (p : Nat) : Prop := (0 ≤ st 60 0 ∧ st 60 0 ≤ 8) ∧ (0 ≤ st 61 0 ∧ st 61 0 ≤ p) ∧ (st 60 0 ≠ 0 → 0 ≤ st 62 0 ∧ st 62 0 ≤ p)
theorem SC.b {st : ST} {p : Nat} (h : SC st p) : SB st p := ⟨h.1, h.2.1, fun _ => h.2.2⟩
theorem kTake_b {st : ST} {k v q : Int} {p : Nat} (h : SB st p) : SB (kTake st k v q).2 (p + 1) := by
  obtain ⟨h1, h2, h3⟩ := h
  unfold kTake
  split
  · rename_i z0
    split
    · show SB st (p + 1)
      exact ⟨h1, by omega, fun y => absurd z0 y⟩
    · have hm : SC (mLine st q) p := by
        unfold SC
        rw [mLine_o (by decide), mLine_o (by decide)]
        refine ⟨h1, h2, ?_⟩
        unfold mLine
        rw [un_n (by decide), un_y]
        omega
      refine SC.b ?_
      unfold kLine
      split
      · show SC (un (mLine st q) 60 1) (p + 1)
        obtain ⟨a1, a2, a3⟩ := hm
        unfold SC
        rw [un_y, un_n (show (61 : Nat) ≠ 60 by decide), un_n (show (62 : Nat) ≠ 60 by decide)]
        omega
      · exact kVerb_b hm
  · rename_i z0
    have h3 := h3 z0
    have hh : SC st p := ⟨h1, h2, h3⟩
    refine SC.b ?_
    split
    · have hm : ∀ b : Int, SC (un (mTest st q) 63 b) p := fun b => by
        unfold SC
        rw [un_n (by decide), un_n (by decide), un_n (by decide), mTest_o (by decide), mTest_o (by decide), mTest_o (by decide)]
        exact ⟨h1, h2, h3⟩
      unfold kTest
      split
      · obtain ⟨a1, a2, a3⟩ := hm 1
        show SC (un (un (mTest st q) 63 1) 60 2) (p + 1)
        unfold SC
        rw [un_y, un_n (show (61 : Nat) ≠ 60 by decide), un_n (show (62 : Nat) ≠ 60 by decide)]
        omega
      · exact kAsk_b (hm 0)
    · split
      · exact kAsk_b hh
      · split
        · show SC (un (un st 65 k) 60 4) (p + 1)
          unfold SC
          rw [un_y, un_n (show (61 : Nat) ≠ 60 by decide), un_n (show (62 : Nat) ≠ 60 by decide), un_n (show (61 : Nat) ≠ 65 by decide), un_n (show (62 : Nat) ≠ 65 by decide)]
          omega
        · split
          · exact eTest_b hh
          · split
            · show SC (un st 60 (if k = 1 then 1 else 6)) (p + 1)
              unfold SC
              rw [un_y, un_n (show (61 : Nat) ≠ 60 by decide), un_n (show (62 : Nat) ≠ 60 by decide)]
              split <;> omega
            · split
              · exact kVerb_b hh
              · split
                · show SC (un (un st 67 v) 60 8) (p + 1)
                  unfold SC
                  rw [un_y, un_n (show (61 : Nat) ≠ 60 by decide), un_n (show (62 : Nat) ≠ 60 by decide), un_n (show (61 : Nat) ≠ 67 by decide), un_n (show (62 : Nat) ≠ 67 by decide)]
                  omega
                · show SC (un (un (pLine st) 61 (st 61 0 + 1)) 60 0) (p + 1)
                  unfold SC
                  rw [un_y, un_n (show (61 : Nat) ≠ 60 by decide), un_n (show (62 : Nat) ≠ 60 by decide), un_y, un_n (show (62 : Nat) ≠ 61 by decide), pLine_o (by decide)]
                  omega
/-- what stands behind a number's sort counts in a number alone -/
theorem kTake_v {st : ST} {k v v' q : Int} (hk : k ≠ 18) : (kTake st k v q).1 = (kTake st k v' q).1 ∧ ((kTake st k v q).1 ≠ 0 → (kTake st k v q).2 = (kTake st k v' q).2) := by
  unfold kTake kBound kAmount
  repeat' split
  all_goals first | exact ⟨rfl, fun _ => rfl⟩ | exact ⟨rfl, fun z => absurd rfl z⟩ | contradiction
theorem kTake_1 {st : ST} {k v q : Int} : (kTake st k v q).1 = 0 ∨ (kTake st k v q).1 = 1 := by
  unfold kTake kLine kTest kAsk kSign kBound kJoint kVerb kAmount kClose
  repeat' split
  all_goals first | exact Or.inl rfl | exact Or.inr rfl | (dsimp only; split <;> first | exact Or.inl rfl | exact Or.inr rfl)
