/-! the abstract state: a kind and a place; how the class holds it (camp j), how the reference does (copy j) -/
def xs (j : Nat) (I : MI) (q k : Nat) : Int := match q with
  | 20 => I (64 * j) 1
  | 21 => I (64 * j) 2
  | 22 => I (64 * j) 4
  | 23 => I (64 * j) 6
  | 24 => I (64 * j) 8
  | 25 => I (64 * j) 9
  | 26 => I (64 * j) 10
  | 27 => I (64 * j) 13
  | 28 => I (64 * j) 14
  | 29 => I (64 * j) 15
  | 30 => I (64 * j) 17
  | 31 => I (64 * j + 5) 0
  | 40 => I (64 * j + 2) k
  | 41 => I (64 * j + 3) k
  | 42 => I (64 * j + 4) k
  | 43 => I (64 * j + 6) k
  | 44 => I (64 * j + 7) k
  | 50 => I (64 * j + 8) k
  | 51 => I (64 * j + 9) k
  | 52 => I (64 * j + 10) k
  | 53 => I (64 * j + 11) k
  | 54 => I (64 * j + 12) k
  | 55 => I (64 * j + 13) k
  | 56 => I (64 * j + 14) k
  | _ => 0
def xv (j : Nat) (I : MI) (q k : Nat) : Int := if q < 17 then I (cid j k) q else xs j I q k
theorem xv_lt {j q k : Nat} {I : MI} (h : q < 17) : xv j I q k = I (cid j k) q := if_pos h
theorem xv_ge {j q k : Nat} {I : MI} (h : ¬ q < 17) : xv j I q k = xs j I q k := if_neg h
def ma : Nat → Nat
  | 0 => 306
  | 1 => 307
  | 2 => 308
  | 3 => 320
  | 4 => 309
  | 5 => 310
  | 6 => 311
  | 7 => 312
  | 8 => 313
  | 9 => 314
  | 10 => 315
  | 11 => 316
  | 12 => 317
  | 13 => 318
  | 14 => 338
  | 16 => 341
  | 20 => 305
  | 21 => 319
  | 22 => 321
  | 23 => 332
  | 24 => 336
  | 25 => 323
  | 26 => 324
  | 27 => 302
  | 28 => 303
  | 29 => 304
  | 30 => 334
  | 31 => 325
  | 40 => 322
  | 41 => 333
  | 42 => 337
  | 43 => 301
  | 44 => 335
  | _ => 0
def msz : Nat → Nat
  | 40 => 6
  | 41 => 6
  | 42 => 192
  | 43 => 500
  | 44 => 14
  | q => if q < 17 then 24 else 1
/-- the reference's game: a line's act, number and tests against the class's -/
def MG (j : Nat) (I : MI) (s : Nat → Nat → Int) : Prop := ∀ l : Nat, (l : Int) < s 31 0 → I 330 (16 * j + l) + 3 = s 50 l ∧ I 331 (16 * j + l) = s 51 l ∧ I 326 (16 * j + l) = s 52 l ∧
  ∀ x : Nat, 4 * l ≤ x → (x : Int) < 4 * l + s 52 l → I 327 (64 * j + x) = s 54 x - 7 + 16 * s 53 x ∧ (11 ≤ s 54 x → I 329 (64 * j + x) = s 56 x ∧ ((s 55 x = 21 ∧ I 328 (64 * j + x) = 60) ∨ (s 55 x = 22 ∧ I 328 (64 * j + x) = 62) ∨ (s 55 x = 23 ∧ I 328 (64 * j + x) = 61))) ∧ (s 54 x < 11 → I 328 (64 * j + x) = 61 ∧ I 329 (64 * j + x) = 1)
def RM (j : Nat) (I : MI) (s : Nat → Nat → Int) : Prop := (∀ q, ma q ≠ 0 → ∀ k, k < msz q → I (ma q) (msz q * j + k) = s q k) ∧ (∀ k, k < 24 → I 340 (24 * j + k) - I 339 (24 * j + k) = s 15 k) ∧ MG j I s
def us (s : Nat → Nat → Int) (q k : Nat) (v : Int) : Nat → Nat → Int := fun q' k' => if q' = q ∧ k' = k then v else s q' k'
/-- a number alone -/
def un (s : Nat → Nat → Int) (q : Nat) (v : Int) : Nat → Nat → Int := fun q' k' => if q' = q then v else s q' k'
section MRS
variable {I : MI} {s : Nat → Nat → Int}
theorem mr0 (h : RM 0 I s) {k : Nat} (hk : k < 24) : I 306 k = s 0 k := by have := h.1 0 (by decide) k hk; simpa [ma, msz] using this
theorem mr1 (h : RM 0 I s) {k : Nat} (hk : k < 24) : I 307 k = s 1 k := by have := h.1 1 (by decide) k hk; simpa [ma, msz] using this
theorem mr2 (h : RM 0 I s) {k : Nat} (hk : k < 24) : I 308 k = s 2 k := by have := h.1 2 (by decide) k hk; simpa [ma, msz] using this
theorem mr3 (h : RM 0 I s) {k : Nat} (hk : k < 24) : I 320 k = s 3 k := by have := h.1 3 (by decide) k hk; simpa [ma, msz] using this
theorem mr4 (h : RM 0 I s) {k : Nat} (hk : k < 24) : I 309 k = s 4 k := by have := h.1 4 (by decide) k hk; simpa [ma, msz] using this
theorem mr5 (h : RM 0 I s) {k : Nat} (hk : k < 24) : I 310 k = s 5 k := by have := h.1 5 (by decide) k hk; simpa [ma, msz] using this
theorem mr6 (h : RM 0 I s) {k : Nat} (hk : k < 24) : I 311 k = s 6 k := by have := h.1 6 (by decide) k hk; simpa [ma, msz] using this
theorem mr7 (h : RM 0 I s) {k : Nat} (hk : k < 24) : I 312 k = s 7 k := by have := h.1 7 (by decide) k hk; simpa [ma, msz] using this
theorem mr8 (h : RM 0 I s) {k : Nat} (hk : k < 24) : I 313 k = s 8 k := by have := h.1 8 (by decide) k hk; simpa [ma, msz] using this
theorem mr9 (h : RM 0 I s) {k : Nat} (hk : k < 24) : I 314 k = s 9 k := by have := h.1 9 (by decide) k hk; simpa [ma, msz] using this
theorem mr10 (h : RM 0 I s) {k : Nat} (hk : k < 24) : I 315 k = s 10 k := by have := h.1 10 (by decide) k hk; simpa [ma, msz] using this
theorem mr11 (h : RM 0 I s) {k : Nat} (hk : k < 24) : I 316 k = s 11 k := by have := h.1 11 (by decide) k hk; simpa [ma, msz] using this
theorem mr12 (h : RM 0 I s) {k : Nat} (hk : k < 24) : I 317 k = s 12 k := by have := h.1 12 (by decide) k hk; simpa [ma, msz] using this
theorem mr13 (h : RM 0 I s) {k : Nat} (hk : k < 24) : I 318 k = s 13 k := by have := h.1 13 (by decide) k hk; simpa [ma, msz] using this
theorem mr14 (h : RM 0 I s) {k : Nat} (hk : k < 24) : I 338 k = s 14 k := by have := h.1 14 (by decide) k hk; simpa [ma, msz] using this
theorem mr16 (h : RM 0 I s) {k : Nat} (hk : k < 24) : I 341 k = s 16 k := by have := h.1 16 (by decide) k hk; simpa [ma, msz] using this
theorem mr20 (h : RM 0 I s) : I 305 0 = s 20 0 := by have := h.1 20 (by decide) 0 (by decide); simpa [ma, msz] using this
theorem mr21 (h : RM 0 I s) : I 319 0 = s 21 0 := by have := h.1 21 (by decide) 0 (by decide); simpa [ma, msz] using this
theorem mr22 (h : RM 0 I s) : I 321 0 = s 22 0 := by have := h.1 22 (by decide) 0 (by decide); simpa [ma, msz] using this
theorem mr23 (h : RM 0 I s) : I 332 0 = s 23 0 := by have := h.1 23 (by decide) 0 (by decide); simpa [ma, msz] using this
theorem mr24 (h : RM 0 I s) : I 336 0 = s 24 0 := by have := h.1 24 (by decide) 0 (by decide); simpa [ma, msz] using this
theorem mr25 (h : RM 0 I s) : I 323 0 = s 25 0 := by have := h.1 25 (by decide) 0 (by decide); simpa [ma, msz] using this
theorem mr26 (h : RM 0 I s) : I 324 0 = s 26 0 := by have := h.1 26 (by decide) 0 (by decide); simpa [ma, msz] using this
theorem mr27 (h : RM 0 I s) : I 302 0 = s 27 0 := by have := h.1 27 (by decide) 0 (by decide); simpa [ma, msz] using this
theorem mr28 (h : RM 0 I s) : I 303 0 = s 28 0 := by have := h.1 28 (by decide) 0 (by decide); simpa [ma, msz] using this
theorem mr29 (h : RM 0 I s) : I 304 0 = s 29 0 := by have := h.1 29 (by decide) 0 (by decide); simpa [ma, msz] using this
theorem mr30 (h : RM 0 I s) : I 334 0 = s 30 0 := by have := h.1 30 (by decide) 0 (by decide); simpa [ma, msz] using this
theorem mr31 (h : RM 0 I s) : I 325 0 = s 31 0 := by have := h.1 31 (by decide) 0 (by decide); simpa [ma, msz] using this
theorem mr40 (h : RM 0 I s) {k : Nat} (hk : k < 6) : I 322 k = s 40 k := by have := h.1 40 (by decide) k hk; simpa [ma, msz] using this
theorem mr41 (h : RM 0 I s) {k : Nat} (hk : k < 6) : I 333 k = s 41 k := by have := h.1 41 (by decide) k hk; simpa [ma, msz] using this
theorem mr42 (h : RM 0 I s) {k : Nat} (hk : k < 192) : I 337 k = s 42 k := by have := h.1 42 (by decide) k hk; simpa [ma, msz] using this
theorem mr43 (h : RM 0 I s) {k : Nat} (hk : k < 500) : I 301 k = s 43 k := by have := h.1 43 (by decide) k hk; simpa [ma, msz] using this
theorem mr44 (h : RM 0 I s) {k : Nat} (hk : k < 14) : I 335 k = s 44 k := by have := h.1 44 (by decide) k hk; simpa [ma, msz] using this
theorem mr15 (h : RM 0 I s) {k : Nat} (hk : k < 24) : I 340 k - I 339 k = s 15 k := by have := h.2.1 k hk; simpa using this
end MRS
theorem cid_inj {j k j' k' : Nat} (hj : j < 4) (hj' : j' < 4) : cid j k = cid j' k' ↔ j = j' ∧ k = k' := by unfold cid; omega
theorem cid_ge (j k : Nat) : 1000 ≤ cid j k := by unfold cid; omega
section XVU
variable {I : MI} {v : Int}
theorem xv_c {j p q : Nat} (hj : j < 4) (hq : q < 17) : xv j (upI I (cid j p) q v) = us (xv j I) q p v := by
  funext q' k'
  simp only [us]
  by_cases h : q' < 17
  · rw [xv_lt h, xv_lt h]
    by_cases e : cid j k' = cid j p
    · have := ((cid_inj hj hj).mp e).2
      subst this
      rw [upI_eq]
      by_cases z : q' = q <;> simp [z]
    · rw [upI_ne e, if_neg (fun z => e (by rw [z.2]))]
  · rw [xv_ge h, xv_ge h, if_neg (fun z => h (by omega))]
    unfold xs
    have := cid_ge j p
    have g : ∀ r, r < 64 → upI I (cid j p) q v (64 * j + r) = I (64 * j + r) := fun r hr => upI_ne (by omega)
    have g0 : upI I (cid j p) q v (64 * j) = I (64 * j) := upI_ne (by omega)
    split <;> (try simp only [g0]) <;> first | rfl | rw [g _ (by omega)]
/-- a write to a cell that is not of camp j -/
theorem xv_o {j o p : Nat} (ho : o < 1000) (h2 : o < 64 * j ∨ 64 * j + 15 ≤ o) : xv j (upI I o p v) = xv j I := by
  funext q' k'
  by_cases h : q' < 17
  · rw [xv_lt h, xv_lt h, upI_ne (by have := cid_ge j k'; omega)]
  · rw [xv_ge h, xv_ge h]
    unfold xs
    have g : ∀ r, r < 15 → upI I o p v (64 * j + r) = I (64 * j + r) := fun r hr => upI_ne (by omega)
    have g0 : upI I o p v (64 * j) = I (64 * j) := upI_ne (by omega)
    split <;> (try simp only [g0]) <;> first | rfl | rw [g _ (by omega)]
theorem xv_oc {j i p q : Nat} (hj : j < 4) (hi : i < 4) (hn : i ≠ j) : xv j (upI I (cid i p) q v) = xv j I := by
  funext q' k'
  by_cases h : q' < 17
  · rw [xv_lt h, xv_lt h, upI_ne (fun e => hn ((cid_inj hj hi).mp e).1.symm)]
  · rw [xv_ge h, xv_ge h]
    unfold xs
    have := cid_ge i p
    have g : ∀ r, r < 64 → upI I (cid i p) q v (64 * j + r) = I (64 * j + r) := fun r hr => upI_ne (by omega)
    have g0 : upI I (cid i p) q v (64 * j) = I (64 * j) := upI_ne (by omega)
    split <;> (try simp only [g0]) <;> first | rfl | rw [g _ (by omega)]
theorem xv_s20 {j : Nat} (hj : j < 4) : xv j (upI I (64 * j) 1 v) = un (xv j I) 20 v := by
  funext q' k'
  simp only [un]
  by_cases h : q' < 17
  · rw [xv_lt h, xv_lt h, if_neg (by omega), upI_ne (by have := cid_ge j k'; omega)]
  · rw [xv_ge h, xv_ge h]
    unfold xs
    have g : ∀ r, 0 < r → upI I (64 * j) 1 v (64 * j + r) = I (64 * j + r) := fun r hr => upI_ne (by omega)
    split <;> first | (rw [if_neg (by omega), g _ (by omega)]) | (rw [upI_eq]; simp) | (rw [if_neg (by simp_all)])
theorem xv_s21 {j : Nat} (hj : j < 4) : xv j (upI I (64 * j) 2 v) = un (xv j I) 21 v := by
  funext q' k'
  simp only [un]
  by_cases h : q' < 17
  · rw [xv_lt h, xv_lt h, if_neg (by omega), upI_ne (by have := cid_ge j k'; omega)]
  · rw [xv_ge h, xv_ge h]
    unfold xs
    have g : ∀ r, 0 < r → upI I (64 * j) 2 v (64 * j + r) = I (64 * j + r) := fun r hr => upI_ne (by omega)
    split <;> first | (rw [if_neg (by omega), g _ (by omega)]) | (rw [upI_eq]; simp) | (rw [if_neg (by simp_all)])
theorem xv_s22 {j : Nat} (hj : j < 4) : xv j (upI I (64 * j) 4 v) = un (xv j I) 22 v := by
  funext q' k'
  simp only [un]
  by_cases h : q' < 17
  · rw [xv_lt h, xv_lt h, if_neg (by omega), upI_ne (by have := cid_ge j k'; omega)]
  · rw [xv_ge h, xv_ge h]
    unfold xs
    have g : ∀ r, 0 < r → upI I (64 * j) 4 v (64 * j + r) = I (64 * j + r) := fun r hr => upI_ne (by omega)
    split <;> first | (rw [if_neg (by omega), g _ (by omega)]) | (rw [upI_eq]; simp) | (rw [if_neg (by simp_all)])
theorem xv_s23 {j : Nat} (hj : j < 4) : xv j (upI I (64 * j) 6 v) = un (xv j I) 23 v := by
  funext q' k'
  simp only [un]
  by_cases h : q' < 17
  · rw [xv_lt h, xv_lt h, if_neg (by omega), upI_ne (by have := cid_ge j k'; omega)]
  · rw [xv_ge h, xv_ge h]
    unfold xs
    have g : ∀ r, 0 < r → upI I (64 * j) 6 v (64 * j + r) = I (64 * j + r) := fun r hr => upI_ne (by omega)
    split <;> first | (rw [if_neg (by omega), g _ (by omega)]) | (rw [upI_eq]; simp) | (rw [if_neg (by simp_all)])
theorem xv_s24 {j : Nat} (hj : j < 4) : xv j (upI I (64 * j) 8 v) = un (xv j I) 24 v := by
  funext q' k'
  simp only [un]
  by_cases h : q' < 17
  · rw [xv_lt h, xv_lt h, if_neg (by omega), upI_ne (by have := cid_ge j k'; omega)]
  · rw [xv_ge h, xv_ge h]
    unfold xs
    have g : ∀ r, 0 < r → upI I (64 * j) 8 v (64 * j + r) = I (64 * j + r) := fun r hr => upI_ne (by omega)
    split <;> first | (rw [if_neg (by omega), g _ (by omega)]) | (rw [upI_eq]; simp) | (rw [if_neg (by simp_all)])
theorem xv_s25 {j : Nat} (hj : j < 4) : xv j (upI I (64 * j) 9 v) = un (xv j I) 25 v := by
  funext q' k'
  simp only [un]
  by_cases h : q' < 17
  · rw [xv_lt h, xv_lt h, if_neg (by omega), upI_ne (by have := cid_ge j k'; omega)]
  · rw [xv_ge h, xv_ge h]
    unfold xs
    have g : ∀ r, 0 < r → upI I (64 * j) 9 v (64 * j + r) = I (64 * j + r) := fun r hr => upI_ne (by omega)
    split <;> first | (rw [if_neg (by omega), g _ (by omega)]) | (rw [upI_eq]; simp) | (rw [if_neg (by simp_all)])
theorem xv_s26 {j : Nat} (hj : j < 4) : xv j (upI I (64 * j) 10 v) = un (xv j I) 26 v := by
  funext q' k'
  simp only [un]
  by_cases h : q' < 17
  · rw [xv_lt h, xv_lt h, if_neg (by omega), upI_ne (by have := cid_ge j k'; omega)]
  · rw [xv_ge h, xv_ge h]
    unfold xs
    have g : ∀ r, 0 < r → upI I (64 * j) 10 v (64 * j + r) = I (64 * j + r) := fun r hr => upI_ne (by omega)
    split <;> first | (rw [if_neg (by omega), g _ (by omega)]) | (rw [upI_eq]; simp) | (rw [if_neg (by simp_all)])
theorem xv_s27 {j : Nat} (hj : j < 4) : xv j (upI I (64 * j) 13 v) = un (xv j I) 27 v := by
  funext q' k'
  simp only [un]
  by_cases h : q' < 17
  · rw [xv_lt h, xv_lt h, if_neg (by omega), upI_ne (by have := cid_ge j k'; omega)]
  · rw [xv_ge h, xv_ge h]
    unfold xs
    have g : ∀ r, 0 < r → upI I (64 * j) 13 v (64 * j + r) = I (64 * j + r) := fun r hr => upI_ne (by omega)
    split <;> first | (rw [if_neg (by omega), g _ (by omega)]) | (rw [upI_eq]; simp) | (rw [if_neg (by simp_all)])
theorem xv_s28 {j : Nat} (hj : j < 4) : xv j (upI I (64 * j) 14 v) = un (xv j I) 28 v := by
  funext q' k'
  simp only [un]
  by_cases h : q' < 17
  · rw [xv_lt h, xv_lt h, if_neg (by omega), upI_ne (by have := cid_ge j k'; omega)]
  · rw [xv_ge h, xv_ge h]
    unfold xs
    have g : ∀ r, 0 < r → upI I (64 * j) 14 v (64 * j + r) = I (64 * j + r) := fun r hr => upI_ne (by omega)
    split <;> first | (rw [if_neg (by omega), g _ (by omega)]) | (rw [upI_eq]; simp) | (rw [if_neg (by simp_all)])
theorem xv_s29 {j : Nat} (hj : j < 4) : xv j (upI I (64 * j) 15 v) = un (xv j I) 29 v := by
  funext q' k'
  simp only [un]
  by_cases h : q' < 17
  · rw [xv_lt h, xv_lt h, if_neg (by omega), upI_ne (by have := cid_ge j k'; omega)]
  · rw [xv_ge h, xv_ge h]
    unfold xs
    have g : ∀ r, 0 < r → upI I (64 * j) 15 v (64 * j + r) = I (64 * j + r) := fun r hr => upI_ne (by omega)
    split <;> first | (rw [if_neg (by omega), g _ (by omega)]) | (rw [upI_eq]; simp) | (rw [if_neg (by simp_all)])
theorem xv_s30 {j : Nat} (hj : j < 4) : xv j (upI I (64 * j) 17 v) = un (xv j I) 30 v := by
  funext q' k'
  simp only [un]
  by_cases h : q' < 17
  · rw [xv_lt h, xv_lt h, if_neg (by omega), upI_ne (by have := cid_ge j k'; omega)]
  · rw [xv_ge h, xv_ge h]
    unfold xs
    have g : ∀ r, 0 < r → upI I (64 * j) 17 v (64 * j + r) = I (64 * j + r) := fun r hr => upI_ne (by omega)
    split <;> first | (rw [if_neg (by omega), g _ (by omega)]) | (rw [upI_eq]; simp) | (rw [if_neg (by simp_all)])
theorem xv_s31 {j : Nat} (hj : j < 4) : xv j (upI I (64 * j + 5) 0 v) = un (xv j I) 31 v := by
  funext q' k'
  simp only [un]
  by_cases h : q' < 17
  · rw [xv_lt h, xv_lt h, if_neg (by omega), upI_ne (by have := cid_ge j k'; omega)]
  · rw [xv_ge h, xv_ge h]
    unfold xs
    have g : ∀ r, r ≠ 5 → upI I (64 * j + 5) 0 v (64 * j + r) = I (64 * j + r) := fun r hr => upI_ne (by omega)
    have g0 : upI I (64 * j + 5) 0 v (64 * j) = I (64 * j) := upI_ne (by omega)
    split <;> (try simp only [g0]) <;> first | (rw [if_neg (by omega), g _ (by omega)]) | (rw [if_neg (by omega)]) | (rw [upI_eq]; simp) | (rw [if_neg (by simp_all)])
theorem xv_a40 {j p : Nat} (hj : j < 4) : xv j (upI I (64 * j + 2) p v) = us (xv j I) 40 p v := by
  funext q' k'
  simp only [us]
  by_cases h : q' < 17
  · rw [xv_lt h, xv_lt h, if_neg (by omega), upI_ne (by have := cid_ge j k'; omega)]
  · rw [xv_ge h, xv_ge h]
    unfold xs
    have g : ∀ r, r ≠ 2 → upI I (64 * j + 2) p v (64 * j + r) = I (64 * j + r) := fun r hr => upI_ne (by omega)
    have g0 : upI I (64 * j + 2) p v (64 * j) = I (64 * j) := upI_ne (by omega)
    split <;> (try simp only [g0]) <;> first | (rw [if_neg (by omega), g _ (by omega)]) | (rw [if_neg (by omega)]) | (rw [upI_eq]; simp) | (rw [if_neg (by simp_all)])
theorem xv_a41 {j p : Nat} (hj : j < 4) : xv j (upI I (64 * j + 3) p v) = us (xv j I) 41 p v := by
  funext q' k'
  simp only [us]
  by_cases h : q' < 17
  · rw [xv_lt h, xv_lt h, if_neg (by omega), upI_ne (by have := cid_ge j k'; omega)]
  · rw [xv_ge h, xv_ge h]
    unfold xs
    have g : ∀ r, r ≠ 3 → upI I (64 * j + 3) p v (64 * j + r) = I (64 * j + r) := fun r hr => upI_ne (by omega)
    have g0 : upI I (64 * j + 3) p v (64 * j) = I (64 * j) := upI_ne (by omega)
    split <;> (try simp only [g0]) <;> first | (rw [if_neg (by omega), g _ (by omega)]) | (rw [if_neg (by omega)]) | (rw [upI_eq]; simp) | (rw [if_neg (by simp_all)])
theorem xv_a42 {j p : Nat} (hj : j < 4) : xv j (upI I (64 * j + 4) p v) = us (xv j I) 42 p v := by
  funext q' k'
  simp only [us]
  by_cases h : q' < 17
  · rw [xv_lt h, xv_lt h, if_neg (by omega), upI_ne (by have := cid_ge j k'; omega)]
  · rw [xv_ge h, xv_ge h]
    unfold xs
    have g : ∀ r, r ≠ 4 → upI I (64 * j + 4) p v (64 * j + r) = I (64 * j + r) := fun r hr => upI_ne (by omega)
    have g0 : upI I (64 * j + 4) p v (64 * j) = I (64 * j) := upI_ne (by omega)
    split <;> (try simp only [g0]) <;> first | (rw [if_neg (by omega), g _ (by omega)]) | (rw [if_neg (by omega)]) | (rw [upI_eq]; simp) | (rw [if_neg (by simp_all)])
theorem xv_a43 {j p : Nat} (hj : j < 4) : xv j (upI I (64 * j + 6) p v) = us (xv j I) 43 p v := by
  funext q' k'
  simp only [us]
  by_cases h : q' < 17
  · rw [xv_lt h, xv_lt h, if_neg (by omega), upI_ne (by have := cid_ge j k'; omega)]
  · rw [xv_ge h, xv_ge h]
    unfold xs
    have g : ∀ r, r ≠ 6 → upI I (64 * j + 6) p v (64 * j + r) = I (64 * j + r) := fun r hr => upI_ne (by omega)
    have g0 : upI I (64 * j + 6) p v (64 * j) = I (64 * j) := upI_ne (by omega)
    split <;> (try simp only [g0]) <;> first | (rw [if_neg (by omega), g _ (by omega)]) | (rw [if_neg (by omega)]) | (rw [upI_eq]; simp) | (rw [if_neg (by simp_all)])
theorem xv_a44 {j p : Nat} (hj : j < 4) : xv j (upI I (64 * j + 7) p v) = us (xv j I) 44 p v := by
  funext q' k'
  simp only [us]
  by_cases h : q' < 17
  · rw [xv_lt h, xv_lt h, if_neg (by omega), upI_ne (by have := cid_ge j k'; omega)]
  · rw [xv_ge h, xv_ge h]
    unfold xs
    have g : ∀ r, r ≠ 7 → upI I (64 * j + 7) p v (64 * j + r) = I (64 * j + r) := fun r hr => upI_ne (by omega)
    have g0 : upI I (64 * j + 7) p v (64 * j) = I (64 * j) := upI_ne (by omega)
    split <;> (try simp only [g0]) <;> first | (rw [if_neg (by omega), g _ (by omega)]) | (rw [if_neg (by omega)]) | (rw [upI_eq]; simp) | (rw [if_neg (by simp_all)])
theorem xv_a50 {j p : Nat} (hj : j < 4) : xv j (upI I (64 * j + 8) p v) = us (xv j I) 50 p v := by
  funext q' k'
  simp only [us]
  by_cases h : q' < 17
  · rw [xv_lt h, xv_lt h, if_neg (by omega), upI_ne (by have := cid_ge j k'; omega)]
  · rw [xv_ge h, xv_ge h]
    unfold xs
    have g : ∀ r, r ≠ 8 → upI I (64 * j + 8) p v (64 * j + r) = I (64 * j + r) := fun r hr => upI_ne (by omega)
    have g0 : upI I (64 * j + 8) p v (64 * j) = I (64 * j) := upI_ne (by omega)
    split <;> (try simp only [g0]) <;> first | (rw [if_neg (by omega), g _ (by omega)]) | (rw [if_neg (by omega)]) | (rw [upI_eq]; simp) | (rw [if_neg (by simp_all)])
theorem xv_a51 {j p : Nat} (hj : j < 4) : xv j (upI I (64 * j + 9) p v) = us (xv j I) 51 p v := by
  funext q' k'
  simp only [us]
  by_cases h : q' < 17
  · rw [xv_lt h, xv_lt h, if_neg (by omega), upI_ne (by have := cid_ge j k'; omega)]
  · rw [xv_ge h, xv_ge h]
    unfold xs
    have g : ∀ r, r ≠ 9 → upI I (64 * j + 9) p v (64 * j + r) = I (64 * j + r) := fun r hr => upI_ne (by omega)
    have g0 : upI I (64 * j + 9) p v (64 * j) = I (64 * j) := upI_ne (by omega)
    split <;> (try simp only [g0]) <;> first | (rw [if_neg (by omega), g _ (by omega)]) | (rw [if_neg (by omega)]) | (rw [upI_eq]; simp) | (rw [if_neg (by simp_all)])
theorem xv_a52 {j p : Nat} (hj : j < 4) : xv j (upI I (64 * j + 10) p v) = us (xv j I) 52 p v := by
  funext q' k'
  simp only [us]
  by_cases h : q' < 17
  · rw [xv_lt h, xv_lt h, if_neg (by omega), upI_ne (by have := cid_ge j k'; omega)]
  · rw [xv_ge h, xv_ge h]
    unfold xs
    have g : ∀ r, r ≠ 10 → upI I (64 * j + 10) p v (64 * j + r) = I (64 * j + r) := fun r hr => upI_ne (by omega)
    have g0 : upI I (64 * j + 10) p v (64 * j) = I (64 * j) := upI_ne (by omega)
    split <;> (try simp only [g0]) <;> first | (rw [if_neg (by omega), g _ (by omega)]) | (rw [if_neg (by omega)]) | (rw [upI_eq]; simp) | (rw [if_neg (by simp_all)])
theorem xv_a53 {j p : Nat} (hj : j < 4) : xv j (upI I (64 * j + 11) p v) = us (xv j I) 53 p v := by
  funext q' k'
  simp only [us]
  by_cases h : q' < 17
  · rw [xv_lt h, xv_lt h, if_neg (by omega), upI_ne (by have := cid_ge j k'; omega)]
  · rw [xv_ge h, xv_ge h]
    unfold xs
    have g : ∀ r, r ≠ 11 → upI I (64 * j + 11) p v (64 * j + r) = I (64 * j + r) := fun r hr => upI_ne (by omega)
    have g0 : upI I (64 * j + 11) p v (64 * j) = I (64 * j) := upI_ne (by omega)
    split <;> (try simp only [g0]) <;> first | (rw [if_neg (by omega), g _ (by omega)]) | (rw [if_neg (by omega)]) | (rw [upI_eq]; simp) | (rw [if_neg (by simp_all)])
theorem xv_a54 {j p : Nat} (hj : j < 4) : xv j (upI I (64 * j + 12) p v) = us (xv j I) 54 p v := by
  funext q' k'
  simp only [us]
  by_cases h : q' < 17
  · rw [xv_lt h, xv_lt h, if_neg (by omega), upI_ne (by have := cid_ge j k'; omega)]
  · rw [xv_ge h, xv_ge h]
    unfold xs
    have g : ∀ r, r ≠ 12 → upI I (64 * j + 12) p v (64 * j + r) = I (64 * j + r) := fun r hr => upI_ne (by omega)
    have g0 : upI I (64 * j + 12) p v (64 * j) = I (64 * j) := upI_ne (by omega)
    split <;> (try simp only [g0]) <;> first | (rw [if_neg (by omega), g _ (by omega)]) | (rw [if_neg (by omega)]) | (rw [upI_eq]; simp) | (rw [if_neg (by simp_all)])
theorem xv_a55 {j p : Nat} (hj : j < 4) : xv j (upI I (64 * j + 13) p v) = us (xv j I) 55 p v := by
  funext q' k'
  simp only [us]
  by_cases h : q' < 17
  · rw [xv_lt h, xv_lt h, if_neg (by omega), upI_ne (by have := cid_ge j k'; omega)]
  · rw [xv_ge h, xv_ge h]
    unfold xs
    have g : ∀ r, r ≠ 13 → upI I (64 * j + 13) p v (64 * j + r) = I (64 * j + r) := fun r hr => upI_ne (by omega)
    have g0 : upI I (64 * j + 13) p v (64 * j) = I (64 * j) := upI_ne (by omega)
    split <;> (try simp only [g0]) <;> first | (rw [if_neg (by omega), g _ (by omega)]) | (rw [if_neg (by omega)]) | (rw [upI_eq]; simp) | (rw [if_neg (by simp_all)])
theorem xv_a56 {j p : Nat} (hj : j < 4) : xv j (upI I (64 * j + 14) p v) = us (xv j I) 56 p v := by
  funext q' k'
  simp only [us]
  by_cases h : q' < 17
  · rw [xv_lt h, xv_lt h, if_neg (by omega), upI_ne (by have := cid_ge j k'; omega)]
  · rw [xv_ge h, xv_ge h]
    unfold xs
    have g : ∀ r, r ≠ 14 → upI I (64 * j + 14) p v (64 * j + r) = I (64 * j + r) := fun r hr => upI_ne (by omega)
    have g0 : upI I (64 * j + 14) p v (64 * j) = I (64 * j) := upI_ne (by omega)
    split <;> (try simp only [g0]) <;> first | (rw [if_neg (by omega), g _ (by omega)]) | (rw [if_neg (by omega)]) | (rw [upI_eq]; simp) | (rw [if_neg (by simp_all)])
theorem xv0_s20 : xv 0 (upI I 0 1 v) = un (xv 0 I) 20 v := xv_s20 (j := 0) (by decide)
theorem xv0_s21 : xv 0 (upI I 0 2 v) = un (xv 0 I) 21 v := xv_s21 (j := 0) (by decide)
theorem xv0_s22 : xv 0 (upI I 0 4 v) = un (xv 0 I) 22 v := xv_s22 (j := 0) (by decide)
theorem xv0_s23 : xv 0 (upI I 0 6 v) = un (xv 0 I) 23 v := xv_s23 (j := 0) (by decide)
theorem xv0_s24 : xv 0 (upI I 0 8 v) = un (xv 0 I) 24 v := xv_s24 (j := 0) (by decide)
theorem xv0_s25 : xv 0 (upI I 0 9 v) = un (xv 0 I) 25 v := xv_s25 (j := 0) (by decide)
theorem xv0_s26 : xv 0 (upI I 0 10 v) = un (xv 0 I) 26 v := xv_s26 (j := 0) (by decide)
theorem xv0_s27 : xv 0 (upI I 0 13 v) = un (xv 0 I) 27 v := xv_s27 (j := 0) (by decide)
theorem xv0_s28 : xv 0 (upI I 0 14 v) = un (xv 0 I) 28 v := xv_s28 (j := 0) (by decide)
theorem xv0_s29 : xv 0 (upI I 0 15 v) = un (xv 0 I) 29 v := xv_s29 (j := 0) (by decide)
theorem xv0_s30 : xv 0 (upI I 0 17 v) = un (xv 0 I) 30 v := xv_s30 (j := 0) (by decide)
theorem xv0_s31 : xv 0 (upI I 5 0 v) = un (xv 0 I) 31 v := xv_s31 (j := 0) (by decide)
theorem xv0_a40 {p : Nat} : xv 0 (upI I 2 p v) = us (xv 0 I) 40 p v := xv_a40 (j := 0) (by decide)
theorem xv0_a41 {p : Nat} : xv 0 (upI I 3 p v) = us (xv 0 I) 41 p v := xv_a41 (j := 0) (by decide)
theorem xv0_a42 {p : Nat} : xv 0 (upI I 4 p v) = us (xv 0 I) 42 p v := xv_a42 (j := 0) (by decide)
theorem xv0_a43 {p : Nat} : xv 0 (upI I 6 p v) = us (xv 0 I) 43 p v := xv_a43 (j := 0) (by decide)
theorem xv0_a44 {p : Nat} : xv 0 (upI I 7 p v) = us (xv 0 I) 44 p v := xv_a44 (j := 0) (by decide)
theorem xv0_a50 {p : Nat} : xv 0 (upI I 8 p v) = us (xv 0 I) 50 p v := xv_a50 (j := 0) (by decide)
theorem xv0_a51 {p : Nat} : xv 0 (upI I 9 p v) = us (xv 0 I) 51 p v := xv_a51 (j := 0) (by decide)
theorem xv0_a52 {p : Nat} : xv 0 (upI I 10 p v) = us (xv 0 I) 52 p v := xv_a52 (j := 0) (by decide)
theorem xv0_a53 {p : Nat} : xv 0 (upI I 11 p v) = us (xv 0 I) 53 p v := xv_a53 (j := 0) (by decide)
theorem xv0_a54 {p : Nat} : xv 0 (upI I 12 p v) = us (xv 0 I) 54 p v := xv_a54 (j := 0) (by decide)
theorem xv0_a55 {p : Nat} : xv 0 (upI I 13 p v) = us (xv 0 I) 55 p v := xv_a55 (j := 0) (by decide)
theorem xv0_a56 {p : Nat} : xv 0 (upI I 14 p v) = us (xv 0 I) 56 p v := xv_a56 (j := 0) (by decide)
theorem xv0_c {p q : Nat} (hq : q < 17) : xv 0 (upI I (cid 0 p) q v) = us (xv 0 I) q p v := xv_c (by decide) hq
theorem xv0_o {o p : Nat} (ho : o < 1000) (h2 : 15 ≤ o) : xv 0 (upI I o p v) = xv 0 I := xv_o ho (Or.inr (by omega))
end XVU
