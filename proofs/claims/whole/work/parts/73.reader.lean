/-! the reader: its state, and what a token does to it -/
def rdv (I : MI) (q k : Nat) : Int := match q with
  | 31 => I 275 0
  | 50 => I 276 k
  | 51 => I 277 k
  | 52 => I 278 k
  | 53 => I 279 k
  | 54 => I 280 k
  | 55 => I 281 k
  | 56 => I 282 k
  | 60 => I 260 6
  | 61 => I 260 7
  | 62 => I 260 8
  | 63 => I 260 9
  | 64 => I 260 10
  | 65 => I 260 11
  | 66 => I 260 12
  | 67 => I 260 13
  | 68 => I 260 15
  | _ => 0
section RDV
variable {I : MI} {v : Int} {p : Nat}
theorem rv60 : rdv (upI I 260 6 v) = un (rdv I) 60 v := by
  funext q k
  unfold un
  by_cases h : q = 60
  · subst h; rw [if_pos rfl]; exact up_is
  · rw [if_neg h]; unfold rdv; split <;> first | exact absurd rfl h | exact up_at (by decide) | (rw [upI_ne (by decide)]) | rfl
theorem rv61 : rdv (upI I 260 7 v) = un (rdv I) 61 v := by
  funext q k
  unfold un
  by_cases h : q = 61
  · subst h; rw [if_pos rfl]; exact up_is
  · rw [if_neg h]; unfold rdv; split <;> first | exact absurd rfl h | exact up_at (by decide) | (rw [upI_ne (by decide)]) | rfl
theorem rv62 : rdv (upI I 260 8 v) = un (rdv I) 62 v := by
  funext q k
  unfold un
  by_cases h : q = 62
  · subst h; rw [if_pos rfl]; exact up_is
  · rw [if_neg h]; unfold rdv; split <;> first | exact absurd rfl h | exact up_at (by decide) | (rw [upI_ne (by decide)]) | rfl
theorem rv63 : rdv (upI I 260 9 v) = un (rdv I) 63 v := by
  funext q k
  unfold un
  by_cases h : q = 63
  · subst h; rw [if_pos rfl]; exact up_is
  · rw [if_neg h]; unfold rdv; split <;> first | exact absurd rfl h | exact up_at (by decide) | (rw [upI_ne (by decide)]) | rfl
theorem rv64 : rdv (upI I 260 10 v) = un (rdv I) 64 v := by
  funext q k
  unfold un
  by_cases h : q = 64
  · subst h; rw [if_pos rfl]; exact up_is
  · rw [if_neg h]; unfold rdv; split <;> first | exact absurd rfl h | exact up_at (by decide) | (rw [upI_ne (by decide)]) | rfl
theorem rv65 : rdv (upI I 260 11 v) = un (rdv I) 65 v := by
  funext q k
  unfold un
  by_cases h : q = 65
  · subst h; rw [if_pos rfl]; exact up_is
  · rw [if_neg h]; unfold rdv; split <;> first | exact absurd rfl h | exact up_at (by decide) | (rw [upI_ne (by decide)]) | rfl
theorem rv66 : rdv (upI I 260 12 v) = un (rdv I) 66 v := by
  funext q k
  unfold un
  by_cases h : q = 66
  · subst h; rw [if_pos rfl]; exact up_is
  · rw [if_neg h]; unfold rdv; split <;> first | exact absurd rfl h | exact up_at (by decide) | (rw [upI_ne (by decide)]) | rfl
theorem rv67 : rdv (upI I 260 13 v) = un (rdv I) 67 v := by
  funext q k
  unfold un
  by_cases h : q = 67
  · subst h; rw [if_pos rfl]; exact up_is
  · rw [if_neg h]; unfold rdv; split <;> first | exact absurd rfl h | exact up_at (by decide) | (rw [upI_ne (by decide)]) | rfl
theorem rv68 : rdv (upI I 260 15 v) = un (rdv I) 68 v := by
  funext q k
  unfold un
  by_cases h : q = 68
  · subst h; rw [if_pos rfl]; exact up_is
  · rw [if_neg h]; unfold rdv; split <;> first | exact absurd rfl h | exact up_at (by decide) | (rw [upI_ne (by decide)]) | rfl
theorem rvo2 : rdv (upI I 260 2 v) = rdv I := by
  funext q k
  unfold rdv
  split <;> first | exact up_at (by decide) | (rw [upI_ne (by decide)]) | rfl
theorem rvo3 : rdv (upI I 260 3 v) = rdv I := by
  funext q k
  unfold rdv
  split <;> first | exact up_at (by decide) | (rw [upI_ne (by decide)]) | rfl
theorem rvo4 : rdv (upI I 260 4 v) = rdv I := by
  funext q k
  unfold rdv
  split <;> first | exact up_at (by decide) | (rw [upI_ne (by decide)]) | rfl
theorem rvo5 : rdv (upI I 260 5 v) = rdv I := by
  funext q k
  unfold rdv
  split <;> first | exact up_at (by decide) | (rw [upI_ne (by decide)]) | rfl
theorem rvo14 : rdv (upI I 260 14 v) = rdv I := by
  funext q k
  unfold rdv
  split <;> first | exact up_at (by decide) | (rw [upI_ne (by decide)]) | rfl
theorem rv31 : rdv (upI I 275 0 v) = un (rdv I) 31 v := by
  funext q k
  unfold un
  by_cases h : q = 31
  · subst h; rw [if_pos rfl]; exact up_is
  · rw [if_neg h]; unfold rdv; split <;> first | exact absurd rfl h | (rw [upI_ne (by decide)]) | rfl
theorem rv50 : rdv (upI I 276 p v) = us (rdv I) 50 p v := by
  funext q k
  unfold us
  by_cases h : q = 50
  · subst h
    show upI I 276 p v 276 k = _
    rw [upI_eq]
    by_cases z : k = p
    · rw [if_pos z, if_pos ⟨rfl, z⟩]
    · rw [if_neg z, if_neg (fun y => z y.2)]; rfl
  · rw [if_neg (fun y => h y.1)]; unfold rdv; split <;> first | exact absurd rfl h | (rw [upI_ne (by decide)]) | rfl
theorem rv51 : rdv (upI I 277 p v) = us (rdv I) 51 p v := by
  funext q k
  unfold us
  by_cases h : q = 51
  · subst h
    show upI I 277 p v 277 k = _
    rw [upI_eq]
    by_cases z : k = p
    · rw [if_pos z, if_pos ⟨rfl, z⟩]
    · rw [if_neg z, if_neg (fun y => z y.2)]; rfl
  · rw [if_neg (fun y => h y.1)]; unfold rdv; split <;> first | exact absurd rfl h | (rw [upI_ne (by decide)]) | rfl
theorem rv52 : rdv (upI I 278 p v) = us (rdv I) 52 p v := by
  funext q k
  unfold us
  by_cases h : q = 52
  · subst h
    show upI I 278 p v 278 k = _
    rw [upI_eq]
    by_cases z : k = p
    · rw [if_pos z, if_pos ⟨rfl, z⟩]
    · rw [if_neg z, if_neg (fun y => z y.2)]; rfl
  · rw [if_neg (fun y => h y.1)]; unfold rdv; split <;> first | exact absurd rfl h | (rw [upI_ne (by decide)]) | rfl
theorem rv53 : rdv (upI I 279 p v) = us (rdv I) 53 p v := by
  funext q k
  unfold us
  by_cases h : q = 53
  · subst h
    show upI I 279 p v 279 k = _
    rw [upI_eq]
    by_cases z : k = p
    · rw [if_pos z, if_pos ⟨rfl, z⟩]
    · rw [if_neg z, if_neg (fun y => z y.2)]; rfl
  · rw [if_neg (fun y => h y.1)]; unfold rdv; split <;> first | exact absurd rfl h | (rw [upI_ne (by decide)]) | rfl
theorem rv54 : rdv (upI I 280 p v) = us (rdv I) 54 p v := by
  funext q k
  unfold us
  by_cases h : q = 54
  · subst h
    show upI I 280 p v 280 k = _
    rw [upI_eq]
    by_cases z : k = p
    · rw [if_pos z, if_pos ⟨rfl, z⟩]
    · rw [if_neg z, if_neg (fun y => z y.2)]; rfl
  · rw [if_neg (fun y => h y.1)]; unfold rdv; split <;> first | exact absurd rfl h | (rw [upI_ne (by decide)]) | rfl
theorem rv55 : rdv (upI I 281 p v) = us (rdv I) 55 p v := by
  funext q k
  unfold us
  by_cases h : q = 55
  · subst h
    show upI I 281 p v 281 k = _
    rw [upI_eq]
    by_cases z : k = p
    · rw [if_pos z, if_pos ⟨rfl, z⟩]
    · rw [if_neg z, if_neg (fun y => z y.2)]; rfl
  · rw [if_neg (fun y => h y.1)]; unfold rdv; split <;> first | exact absurd rfl h | (rw [upI_ne (by decide)]) | rfl
theorem rv56 : rdv (upI I 282 p v) = us (rdv I) 56 p v := by
  funext q k
  unfold us
  by_cases h : q = 56
  · subst h
    show upI I 282 p v 282 k = _
    rw [upI_eq]
    by_cases z : k = p
    · rw [if_pos z, if_pos ⟨rfl, z⟩]
    · rw [if_neg z, if_neg (fun y => z y.2)]; rfl
  · rw [if_neg (fun y => h y.1)]; unfold rdv; split <;> first | exact absurd rfl h | (rw [upI_ne (by decide)]) | rfl
end RDV
def RF (I I' : MI) : Prop := (∀ o, o ≠ 260 → o < 275 ∨ 282 < o → I' o = I o) ∧ ∀ p, p < 6 ∨ p = 14 → I' 260 p = I 260 p
theorem RF.rf {I : MI} : RF I I := ⟨fun _ _ _ => rfl, fun _ _ => rfl⟩
theorem RF.tr {I I1 I2 : MI} (h : RF I I1) (k : RF I1 I2) : RF I I2 := ⟨fun o a b => (k.1 o a b).trans (h.1 o a b), fun p a => (k.2 p a).trans (h.2 p a)⟩
theorem RF.f {I I1 : MI} {p : Nat} {v : Int} (h : RF I I1) (hp : 6 ≤ p ∧ p ≠ 14) : RF I (upI I1 260 p v) := ⟨fun o a b => by rw [upI_ne a]; exact h.1 o a b, fun q a => by rw [up_at (by omega)]; exact h.2 q a⟩
theorem RF.r {I I1 : MI} {o p : Nat} {v : Int} (h : RF I I1) (ho : 275 ≤ o ∧ o ≤ 282) : RF I (upI I1 o p v) := ⟨fun q a b => by rw [upI_ne (by omega)]; exact h.1 q a b, fun q a => by rw [upI_ne (by omega)]; exact h.2 q a⟩
def tooM (st : ST) (q : Int) : ST := if st 68 0 = -1 then un st 68 q else st
def pTest (st : ST) (b : Int) : ST := if st 61 0 < 16 ∧ st 62 0 < 4 then us (us (us (us st 53 (4 * st 61 0 + st 62 0).toNat (if st 63 0 = 0 then 0 else 1)) 54 (4 * st 61 0 + st 62 0).toNat (st 64 0)) 55 (4 * st 61 0 + st 62 0).toNat (st 65 0)) 56 (4 * st 61 0 + st 62 0).toNat b else st
def eTest (st : ST) (b : Int) : ST := un (un (pTest st b) 62 (st 62 0 + 1)) 60 5
def pLine (st : ST) : ST := if st 61 0 < 16 ∧ st 62 0 ≤ 4 then un (us (us (us st 50 (st 61 0).toNat (st 66 0)) 51 (st 61 0).toNat (st 67 0)) 52 (st 61 0).toNat (st 62 0)) 31 (st 61 0 + 1) else st
def kAsk (st : ST) (k : Int) : Int × ST := if 7 ≤ k ∧ k ≤ 10 then (1, eTest (un (un st 64 k) 65 23) 0) else (if 11 ≤ k ∧ k ≤ 17 then 1 else 0, un (un (un st 64 k) 65 23) 60 3)
def mTest (st : ST) (q : Int) : ST := if st 62 0 < 4 then st else tooM st q
def kTest (st : ST) (k q : Int) : Int × ST := if k = 2 then (1, un (un (mTest st q) 63 1) 60 2) else kAsk (un (mTest st q) 63 0) k
def kSign (st : ST) (k : Int) : Int × ST := (if k = 21 ∨ k = 22 ∨ k = 23 then 1 else 0, un (un st 65 k) 60 4)
def kBound (st : ST) (k v : Int) : Int × ST := (if k = 18 then 1 else 0, eTest st v)
def kJoint (st : ST) (k : Int) : Int × ST := (if k = 1 ∨ k = 19 then 1 else 0, un st 60 (if k = 1 then 1 else 6))
def kVerb (st : ST) (k : Int) : Int × ST := (if 3 ≤ k ∧ k ≤ 6 then 1 else 0, un (un st 66 k) 60 (if k = 6 then 8 else 7))
def kAmount (st : ST) (k v : Int) : Int × ST := (if k = 18 then 1 else 0, un (un st 67 v) 60 8)
def kClose (st : ST) (k : Int) : Int × ST := (if k = 20 then 1 else 0, un (un (pLine st) 61 (st 61 0 + 1)) 60 0)
def mLine (st : ST) (q : Int) : ST := un (un (if st 61 0 < 16 then st else tooM st q) 62 0) 67 0
def kLine (st : ST) (k q : Int) : Int × ST := if k = 0 then (1, un (mLine st q) 60 1) else kVerb (mLine st q) k
def kTake (st : ST) (k v q : Int) : Int × ST := if st 60 0 = 0 then (if k = 24 then (1, st) else kLine st k q) else if st 60 0 = 1 then kTest st k q else if st 60 0 = 2 then kAsk st k else if st 60 0 = 3 then kSign st k else if st 60 0 = 4 then kBound st k v else if st 60 0 = 5 then kJoint st k else if st 60 0 = 6 then kVerb st k else if st 60 0 = 7 then kAmount st k v else kClose st k
section CREAD
variable {g : GX} {d : Nat} {I : MI} {f : Nat → Bool}
theorem c_tooMany {φ : MI → MR → Prop} (H : ∀ I', rdv I' = tooM (rdv I) (I 260 4) → RF I I' → φ I' (gW f)) : cV (Call g (d + 1)) 84 [.inr (.inr (some (260)))] I (gW f) [] φ := by
  have e : rdv I 68 0 = I 260 15 := rfl
  unfold tooM at H
  refine callOf mX8_tooMany [some (.inr (.inr (some (260))))] rfl (Nat.le_of_ble_eq_true rfl) (atOf mX8_tooMany 0 rfl ?_)
  simp +decide -implicitDefEqProofs -failIfUnchanged only [x_iload, x_lload, x_aload, x_istore, x_astore, x_iinc, x_iconst, x_ldc2, x_iadd, x_isub, x_imul, x_iand, x_ior, x_ixor, x_ishl, x_ishr, x_iushr, x_idiv, x_irem, x_ineg, x_i2b, x_i2l, x_land, x_lor, x_lshl, x_lushr, x_lcmp, x_dupI, x_dupR, x_dup2, x_dup2I, x_icmp_eq, x_if_eq, x_icmp_ne, x_if_ne, x_icmp_lt, x_if_lt, x_icmp_ge, x_if_ge, x_icmp_gt, x_if_gt, x_icmp_le, x_if_le, x_ifnn_s, x_goto, x_fall, x_tsw, x_iaload, x_baload, x_laload, x_aaload, x_iastore, x_bastore, x_lastore, x_aastore, x_alen, x_getf, x_getr, x_getl, x_putf, x_putz, x_putl, x_putr, x_new, x_newa, x_anewa, x_max, x_min, x_abs, x_pop, x_copy, x_call, gr_256_0, gr_256_1, gr_256_2, gr_256_3, gr_256_4, gr_256_5, gr_256_6, gr_256_7, gr_256_8, gr_256_9, gr_258_0, gr_258_1, gr_258_2, gr_258_3, gr_258_4, gr_258_5, gr_258_6, gr_259_0, gr_259_1, gr_259_2, gr_259_3, gr_260_1, gr_260_0, gr_262_0, gr_262_1, gr_262_2, gr_262_3, gr_263_0, gr_263_1, gr_264_2, gr_264_3, gr_264_4, gr_264_5, gr_275_1, gr_275_2, gr_275_3, gr_275_4, gr_275_5, gr_275_6, gr_275_7, gr_300_1, gr_300_2, gr_300_3, gr_300_4, gr_300_5, gr_300_6, gr_300_7, gr_300_8, gr_300_9, gr_300_10, gr_300_11, gr_300_12, gr_300_13, gr_300_14, gr_300_15, gr_300_16, gr_300_17, gr_300_18, gr_300_19, gr_300_20, gr_300_21, gr_300_22, gr_300_23, gr_300_24, gr_300_25, gr_300_26, gr_300_27, gr_300_28, gr_300_29, gr_300_30, gr_300_31, gr_300_32, gr_300_33, gr_300_34, gr_300_35, gr_300_36, gr_300_37, gr_300_38, gr_300_39, gr_300_40, gr_300_41, gr_300_42, gr_300_43, gr_300_44, gr_300_45, gr_300_46, gr_300_56, gr_300_57, gr_300_58, gr_300_59, gr_300_60, gr_300_61, gr_300_62, gr_300_63, gr_300_64, gr_300_65, gr_300_66, gr_0_0, gr_0_3, gr_0_5, gr_0_7, gr_0_11, gr_0_12, gr_0_16, gr_5_1, gr_5_2, gr_5_3, gr_5_4, gr_5_5, gr_5_6, gr_5_7, gr_1, sh_0, sh_1, sh_2, sh_3, sh_4, sh_5, sh_6, sh_7, sh_8, sh_9, sh_10, sh_11, sh_12, sh_13, sh_14, sh_64, sh_65, sh_66, sh_67, sh_68, sh_69, sh_70, sh_71, sh_72, sh_73, sh_74, sh_75, sh_76, sh_77, sh_78, sh_128, sh_129, sh_130, sh_131, sh_132, sh_133, sh_134, sh_135, sh_136, sh_137, sh_138, sh_139, sh_140, sh_141, sh_142, sh_192, sh_193, sh_194, sh_195, sh_196, sh_197, sh_198, sh_199, sh_200, sh_201, sh_202, sh_203, sh_204, sh_205, sh_206, sh_256, sh_257, sh_258, sh_259, sh_260, sh_261, sh_262, sh_263, sh_264, sh_265, sh_266, sh_267, sh_268, sh_269, sh_270, sh_271, sh_272, sh_273, sh_274, sh_275, sh_276, sh_277, sh_278, sh_279, sh_280, sh_281, sh_282, sh_283, sh_284, sh_285, sh_286, sh_287, sh_288, sh_289, sh_300, sh_301, sh_302, sh_303, sh_304, sh_305, sh_306, sh_307, sh_308, sh_309, sh_310, sh_311, sh_312, sh_313, sh_314, sh_315, sh_316, sh_317, sh_318, sh_319, sh_320, sh_321, sh_322, sh_323, sh_324, sh_325, sh_326, sh_327, sh_328, sh_329, sh_330, sh_331, sh_332, sh_333, sh_334, sh_335, sh_336, sh_337, sh_338, sh_339, sh_340, sh_341, sh_342, sh_343, sh_344, sh_345, sh_346, sh_347, sh_348, sh_349, sh_350, sh_351, sh_352, sh_353, sh_354, sh_355, sh_356, sh_357, ldS_265, ldS_266, ldS_267, ldS_268, ldS_269, ldS_270, ldS_271, ldS_272, ldS_273, ldS_274, ldS_276, ldS_277, ldS_278, ldS_279, ldS_280, ldS_281, ldS_282, ldS_283, ldS_284, ldS_286, ldS_287, ldS_288, ldS_289, ldS_302, ldS_303, ldS_304, ldS_305, ldS_306, ldS_307, ldS_309, ldS_310, ldS_311, ldS_312, ldS_313, ldS_314, ldS_315, ldS_316, ldS_318, ldS_319, ldS_320, ldS_321, ldS_322, ldS_323, ldS_324, ldS_325, ldS_326, ldS_327, ldS_328, ldS_329, ldS_330, ldS_331, ldS_332, ldS_333, ldS_334, ldS_335, ldS_336, ldS_337, ldS_339, ldS_340, ldS_341, ldS_342, ldS_343, ldS_344, ldS_345, ldS_346, ldS_347, ldS_348, ldS_349, ldS_350, ldS_351, ldS_352, ldS_353, ldS_355, ldS_356, ldS_2, ldS_3, ldS_4, ldS_7, ldS_8, ldS_9, ldS_10, ldS_11, ldS_12, ldS_13, ldS_14, ldS_66, ldS_67, ldS_68, ldS_71, ldS_72, ldS_73, ldS_74, ldS_75, ldS_76, ldS_77, ldS_78, ldS_130, ldS_131, ldS_132, ldS_135, ldS_136, ldS_137, ldS_138, ldS_139, ldS_140, ldS_141, ldS_142, ldS_194, ldS_195, ldS_196, ldS_199, ldS_200, ldS_201, ldS_202, ldS_203, ldS_204, ldS_205, ldS_206, stB_2, stB_3, upI_oc, upI_co, upI_ne, upI_eq, sh_c, rcvC_1, rcvC_2, rcvC_3, rcvC_4, rcvC_5, rcvC_6, rcvC_7, rcvC_8, rcvC_9, rcvC_10, rcvC_11, rcvC_12, x_iret1, x_iret2, x_ret0, ex_I, ex_V, ldA_k, ldS_x, gI_0, gI_s, gL_0, gL_s, gR_0, gR_s, stl_def, nlg_n, nlg_i, nlg_r, setl_0, setl_s, nth_0, nth_s, List.length_cons, List.length_nil, true_or, or_true, true_implies, false_implies, Int.reduceLE, Int.reduceLT, Int.reduceMod, Int.le_refl, Int.cast_ofNat_Int, sh4_0, sh4_1, sh4_2, sh4_3, sh4_4, rcv_0, rcv_9, spl_0, spl_s, List.getD_cons_zero, List.getD_cons_succ, List.take_zero, List.drop_zero, Nat.reduceLT, Nat.reduceDiv, Nat.reduceMod, Nat.reduceAdd, Nat.reduceSub, Int.reduceToNat, jm_b, jm_h, if_true, if_false, Nat.reduceEqDiff, true_and, and_true, Int.natCast_nonneg, Int.toNat_natCast, Int.lt_irrefl, false_implies, and_true, true_and, Int.le_refl, true_implies, bX8_tooMany, bX8_tooMany_0, bX8_tooMany_1]
  by_cases z : I 260 15 = -1
  · rw [if_pos (e.trans z)] at H
    have := H _ rv68 (RF.rf.f (by decide))
    simp only [z]
    first | exact this | exact ⟨fun y => absurd rfl y, fun _ => this⟩
  · rw [if_neg (fun y => z (e.symm.trans y))] at H
    have := H I rfl RF.rf
    simp only [z]
    exact ⟨fun _ => this, fun y => y.elim⟩
theorem c_putTest {l x : Nat} {n a sg b : Int} {φ : MI → MR → Prop} (hl : l ≤ 1000) (hx : x ≤ 1000) (H : ∀ I', rdv I' = (if l < 16 ∧ x < 4 then us (us (us (us (rdv I) 53 (4 * l + x) (if n = 0 then 0 else 1)) 54 (4 * l + x) a) 55 (4 * l + x) sg) 56 (4 * l + x) b else rdv I) → RF I I' → φ I' (gW f)) : cV (Call g (d + 1)) 18 [.inr (.inr (some (275))), .inl (l), .inl (x), .inl (n), .inl (a), .inl (sg), .inl (b)] I (gW f) [] φ := by
  have e4 : w32 ((l : Int) * 4) = ((4 * l : Nat) : Int) := by rw [w32_id (by omega) (by omega)]; omega
  have ex : w32 (((4 * l : Nat) : Int) + x) = ((4 * l + x : Nat) : Int) := by rw [w32_id (by omega) (by omega)]; omega
  have HN : ¬ (l < 16 ∧ x < 4) → φ I (gW f) := fun z => H I (by rw [if_neg z]) RF.rf
  have HY : l < 16 → x < 4 → ∀ v : Int, v = (if n = 0 then 0 else 1) → φ (upI (upI (upI (upI I 279 (4 * l + x) v) 280 (4 * l + x) a) 281 (4 * l + x) sg) 282 (4 * l + x) b) (gW f) := fun z y v hv => H _ (by rw [if_pos ⟨z, y⟩, rv56, rv55, rv54, rv53, hv]) ((((RF.rf.r (by decide)).r (by decide)).r (by decide)).r (by decide))
  refine callOf mX2_putTest [some (.inr (.inr (some (275)))), some (.inl (l)), some (.inl (x)), some (.inl (n)), some (.inl (a)), some (.inl (sg)), some (.inl (b)), none] rfl (Nat.le_of_ble_eq_true rfl) (atOf mX2_putTest 0 rfl ?_)
  simp +decide -implicitDefEqProofs -failIfUnchanged only [x_iload, x_lload, x_aload, x_istore, x_astore, x_iinc, x_iconst, x_ldc2, x_iadd, x_isub, x_imul, x_iand, x_ior, x_ixor, x_ishl, x_ishr, x_iushr, x_idiv, x_irem, x_ineg, x_i2b, x_i2l, x_land, x_lor, x_lshl, x_lushr, x_lcmp, x_dupI, x_dupR, x_dup2, x_dup2I, x_icmp_eq, x_if_eq, x_icmp_ne, x_if_ne, x_icmp_lt, x_if_lt, x_icmp_ge, x_if_ge, x_icmp_gt, x_if_gt, x_icmp_le, x_if_le, x_ifnn_s, x_goto, x_fall, x_tsw, x_iaload, x_baload, x_laload, x_aaload, x_iastore, x_bastore, x_lastore, x_aastore, x_alen, x_getf, x_getr, x_getl, x_putf, x_putz, x_putl, x_putr, x_new, x_newa, x_anewa, x_max, x_min, x_abs, x_pop, x_copy, x_call, gr_256_0, gr_256_1, gr_256_2, gr_256_3, gr_256_4, gr_256_5, gr_256_6, gr_256_7, gr_256_8, gr_256_9, gr_258_0, gr_258_1, gr_258_2, gr_258_3, gr_258_4, gr_258_5, gr_258_6, gr_259_0, gr_259_1, gr_259_2, gr_259_3, gr_260_1, gr_260_0, gr_262_0, gr_262_1, gr_262_2, gr_262_3, gr_263_0, gr_263_1, gr_264_2, gr_264_3, gr_264_4, gr_264_5, gr_275_1, gr_275_2, gr_275_3, gr_275_4, gr_275_5, gr_275_6, gr_275_7, gr_300_1, gr_300_2, gr_300_3, gr_300_4, gr_300_5, gr_300_6, gr_300_7, gr_300_8, gr_300_9, gr_300_10, gr_300_11, gr_300_12, gr_300_13, gr_300_14, gr_300_15, gr_300_16, gr_300_17, gr_300_18, gr_300_19, gr_300_20, gr_300_21, gr_300_22, gr_300_23, gr_300_24, gr_300_25, gr_300_26, gr_300_27, gr_300_28, gr_300_29, gr_300_30, gr_300_31, gr_300_32, gr_300_33, gr_300_34, gr_300_35, gr_300_36, gr_300_37, gr_300_38, gr_300_39, gr_300_40, gr_300_41, gr_300_42, gr_300_43, gr_300_44, gr_300_45, gr_300_46, gr_300_56, gr_300_57, gr_300_58, gr_300_59, gr_300_60, gr_300_61, gr_300_62, gr_300_63, gr_300_64, gr_300_65, gr_300_66, gr_0_0, gr_0_3, gr_0_5, gr_0_7, gr_0_11, gr_0_12, gr_0_16, gr_5_1, gr_5_2, gr_5_3, gr_5_4, gr_5_5, gr_5_6, gr_5_7, gr_1, sh_0, sh_1, sh_2, sh_3, sh_4, sh_5, sh_6, sh_7, sh_8, sh_9, sh_10, sh_11, sh_12, sh_13, sh_14, sh_64, sh_65, sh_66, sh_67, sh_68, sh_69, sh_70, sh_71, sh_72, sh_73, sh_74, sh_75, sh_76, sh_77, sh_78, sh_128, sh_129, sh_130, sh_131, sh_132, sh_133, sh_134, sh_135, sh_136, sh_137, sh_138, sh_139, sh_140, sh_141, sh_142, sh_192, sh_193, sh_194, sh_195, sh_196, sh_197, sh_198, sh_199, sh_200, sh_201, sh_202, sh_203, sh_204, sh_205, sh_206, sh_256, sh_257, sh_258, sh_259, sh_260, sh_261, sh_262, sh_263, sh_264, sh_265, sh_266, sh_267, sh_268, sh_269, sh_270, sh_271, sh_272, sh_273, sh_274, sh_275, sh_276, sh_277, sh_278, sh_279, sh_280, sh_281, sh_282, sh_283, sh_284, sh_285, sh_286, sh_287, sh_288, sh_289, sh_300, sh_301, sh_302, sh_303, sh_304, sh_305, sh_306, sh_307, sh_308, sh_309, sh_310, sh_311, sh_312, sh_313, sh_314, sh_315, sh_316, sh_317, sh_318, sh_319, sh_320, sh_321, sh_322, sh_323, sh_324, sh_325, sh_326, sh_327, sh_328, sh_329, sh_330, sh_331, sh_332, sh_333, sh_334, sh_335, sh_336, sh_337, sh_338, sh_339, sh_340, sh_341, sh_342, sh_343, sh_344, sh_345, sh_346, sh_347, sh_348, sh_349, sh_350, sh_351, sh_352, sh_353, sh_354, sh_355, sh_356, sh_357, ldS_265, ldS_266, ldS_267, ldS_268, ldS_269, ldS_270, ldS_271, ldS_272, ldS_273, ldS_274, ldS_276, ldS_277, ldS_278, ldS_279, ldS_280, ldS_281, ldS_282, ldS_283, ldS_284, ldS_286, ldS_287, ldS_288, ldS_289, ldS_302, ldS_303, ldS_304, ldS_305, ldS_306, ldS_307, ldS_309, ldS_310, ldS_311, ldS_312, ldS_313, ldS_314, ldS_315, ldS_316, ldS_318, ldS_319, ldS_320, ldS_321, ldS_322, ldS_323, ldS_324, ldS_325, ldS_326, ldS_327, ldS_328, ldS_329, ldS_330, ldS_331, ldS_332, ldS_333, ldS_334, ldS_335, ldS_336, ldS_337, ldS_339, ldS_340, ldS_341, ldS_342, ldS_343, ldS_344, ldS_345, ldS_346, ldS_347, ldS_348, ldS_349, ldS_350, ldS_351, ldS_352, ldS_353, ldS_355, ldS_356, ldS_2, ldS_3, ldS_4, ldS_7, ldS_8, ldS_9, ldS_10, ldS_11, ldS_12, ldS_13, ldS_14, ldS_66, ldS_67, ldS_68, ldS_71, ldS_72, ldS_73, ldS_74, ldS_75, ldS_76, ldS_77, ldS_78, ldS_130, ldS_131, ldS_132, ldS_135, ldS_136, ldS_137, ldS_138, ldS_139, ldS_140, ldS_141, ldS_142, ldS_194, ldS_195, ldS_196, ldS_199, ldS_200, ldS_201, ldS_202, ldS_203, ldS_204, ldS_205, ldS_206, stB_2, stB_3, upI_oc, upI_co, upI_ne, upI_eq, sh_c, rcvC_1, rcvC_2, rcvC_3, rcvC_4, rcvC_5, rcvC_6, rcvC_7, rcvC_8, rcvC_9, rcvC_10, rcvC_11, rcvC_12, x_iret1, x_iret2, x_ret0, ex_I, ex_V, ldA_k, ldS_x, gI_0, gI_s, gL_0, gL_s, gR_0, gR_s, stl_def, nlg_n, nlg_i, nlg_r, setl_0, setl_s, nth_0, nth_s, List.length_cons, List.length_nil, true_or, or_true, true_implies, false_implies, Int.reduceLE, Int.reduceLT, Int.reduceMod, Int.le_refl, Int.cast_ofNat_Int, sh4_0, sh4_1, sh4_2, sh4_3, sh4_4, rcv_0, rcv_9, spl_0, spl_s, List.getD_cons_zero, List.getD_cons_succ, List.take_zero, List.drop_zero, Nat.reduceLT, Nat.reduceDiv, Nat.reduceMod, Nat.reduceAdd, Nat.reduceSub, Int.reduceToNat, jm_b, jm_h, if_true, if_false, Nat.reduceEqDiff, true_and, and_true, Int.natCast_nonneg, Int.toNat_natCast, Int.lt_irrefl, false_implies, and_true, true_and, Int.le_refl, true_implies, bX2_putTest, bX2_putTest_0, bX2_putTest_1, bX2_putTest_2, bX2_putTest_3, bX2_putTest_4, e4, ex]
  exact ⟨fun z => HN (by omega), fun z => ⟨fun y => ⟨fun w => ⟨by omega, by omega, by omega, by omega, HY (by omega) (by omega) 0 (by rw [if_pos w])⟩, fun w => ⟨by omega, by omega, by omega, by omega, HY (by omega) (by omega) 1 (by rw [if_neg w])⟩⟩, fun y => HN (by omega)⟩⟩
theorem c_putLine {l x : Nat} {a b : Int} {φ : MI → MR → Prop} (hl : l ≤ 1000) (hx : x ≤ 1000) (H : ∀ I', rdv I' = (if l < 16 ∧ x ≤ 4 then un (us (us (us (rdv I) 50 l a) 51 l b) 52 l x) 31 (l + 1) else rdv I) → RF I I' → φ I' (gW f)) : cV (Call g (d + 1)) 19 [.inr (.inr (some (275))), .inl (l), .inl (a), .inl (b), .inl (x)] I (gW f) [] φ := by
  have HN : ¬ (l < 16 ∧ x ≤ 4) → φ I (gW f) := fun z => H I (by rw [if_neg z]) RF.rf
  have HY : l < 16 → x ≤ 4 → φ (upI (upI (upI (upI I 276 l a) 277 l b) 278 l x) 275 0 ((l + 1 : Nat) : Int)) (gW f) := fun z y => H _ (by rw [if_pos ⟨z, y⟩, rv31, rv52, rv51, rv50]; rfl) ((((RF.rf.r (by decide)).r (by decide)).r (by decide)).r (by decide))
  refine callOf mX2_putLine [some (.inr (.inr (some (275)))), some (.inl (l)), some (.inl (a)), some (.inl (b)), some (.inl (x))] rfl (Nat.le_of_ble_eq_true rfl) (atOf mX2_putLine 0 rfl ?_)
  simp +decide -implicitDefEqProofs -failIfUnchanged only [x_iload, x_lload, x_aload, x_istore, x_astore, x_iinc, x_iconst, x_ldc2, x_iadd, x_isub, x_imul, x_iand, x_ior, x_ixor, x_ishl, x_ishr, x_iushr, x_idiv, x_irem, x_ineg, x_i2b, x_i2l, x_land, x_lor, x_lshl, x_lushr, x_lcmp, x_dupI, x_dupR, x_dup2, x_dup2I, x_icmp_eq, x_if_eq, x_icmp_ne, x_if_ne, x_icmp_lt, x_if_lt, x_icmp_ge, x_if_ge, x_icmp_gt, x_if_gt, x_icmp_le, x_if_le, x_ifnn_s, x_goto, x_fall, x_tsw, x_iaload, x_baload, x_laload, x_aaload, x_iastore, x_bastore, x_lastore, x_aastore, x_alen, x_getf, x_getr, x_getl, x_putf, x_putz, x_putl, x_putr, x_new, x_newa, x_anewa, x_max, x_min, x_abs, x_pop, x_copy, x_call, gr_256_0, gr_256_1, gr_256_2, gr_256_3, gr_256_4, gr_256_5, gr_256_6, gr_256_7, gr_256_8, gr_256_9, gr_258_0, gr_258_1, gr_258_2, gr_258_3, gr_258_4, gr_258_5, gr_258_6, gr_259_0, gr_259_1, gr_259_2, gr_259_3, gr_260_1, gr_260_0, gr_262_0, gr_262_1, gr_262_2, gr_262_3, gr_263_0, gr_263_1, gr_264_2, gr_264_3, gr_264_4, gr_264_5, gr_275_1, gr_275_2, gr_275_3, gr_275_4, gr_275_5, gr_275_6, gr_275_7, gr_300_1, gr_300_2, gr_300_3, gr_300_4, gr_300_5, gr_300_6, gr_300_7, gr_300_8, gr_300_9, gr_300_10, gr_300_11, gr_300_12, gr_300_13, gr_300_14, gr_300_15, gr_300_16, gr_300_17, gr_300_18, gr_300_19, gr_300_20, gr_300_21, gr_300_22, gr_300_23, gr_300_24, gr_300_25, gr_300_26, gr_300_27, gr_300_28, gr_300_29, gr_300_30, gr_300_31, gr_300_32, gr_300_33, gr_300_34, gr_300_35, gr_300_36, gr_300_37, gr_300_38, gr_300_39, gr_300_40, gr_300_41, gr_300_42, gr_300_43, gr_300_44, gr_300_45, gr_300_46, gr_300_56, gr_300_57, gr_300_58, gr_300_59, gr_300_60, gr_300_61, gr_300_62, gr_300_63, gr_300_64, gr_300_65, gr_300_66, gr_0_0, gr_0_3, gr_0_5, gr_0_7, gr_0_11, gr_0_12, gr_0_16, gr_5_1, gr_5_2, gr_5_3, gr_5_4, gr_5_5, gr_5_6, gr_5_7, gr_1, sh_0, sh_1, sh_2, sh_3, sh_4, sh_5, sh_6, sh_7, sh_8, sh_9, sh_10, sh_11, sh_12, sh_13, sh_14, sh_64, sh_65, sh_66, sh_67, sh_68, sh_69, sh_70, sh_71, sh_72, sh_73, sh_74, sh_75, sh_76, sh_77, sh_78, sh_128, sh_129, sh_130, sh_131, sh_132, sh_133, sh_134, sh_135, sh_136, sh_137, sh_138, sh_139, sh_140, sh_141, sh_142, sh_192, sh_193, sh_194, sh_195, sh_196, sh_197, sh_198, sh_199, sh_200, sh_201, sh_202, sh_203, sh_204, sh_205, sh_206, sh_256, sh_257, sh_258, sh_259, sh_260, sh_261, sh_262, sh_263, sh_264, sh_265, sh_266, sh_267, sh_268, sh_269, sh_270, sh_271, sh_272, sh_273, sh_274, sh_275, sh_276, sh_277, sh_278, sh_279, sh_280, sh_281, sh_282, sh_283, sh_284, sh_285, sh_286, sh_287, sh_288, sh_289, sh_300, sh_301, sh_302, sh_303, sh_304, sh_305, sh_306, sh_307, sh_308, sh_309, sh_310, sh_311, sh_312, sh_313, sh_314, sh_315, sh_316, sh_317, sh_318, sh_319, sh_320, sh_321, sh_322, sh_323, sh_324, sh_325, sh_326, sh_327, sh_328, sh_329, sh_330, sh_331, sh_332, sh_333, sh_334, sh_335, sh_336, sh_337, sh_338, sh_339, sh_340, sh_341, sh_342, sh_343, sh_344, sh_345, sh_346, sh_347, sh_348, sh_349, sh_350, sh_351, sh_352, sh_353, sh_354, sh_355, sh_356, sh_357, ldS_265, ldS_266, ldS_267, ldS_268, ldS_269, ldS_270, ldS_271, ldS_272, ldS_273, ldS_274, ldS_276, ldS_277, ldS_278, ldS_279, ldS_280, ldS_281, ldS_282, ldS_283, ldS_284, ldS_286, ldS_287, ldS_288, ldS_289, ldS_302, ldS_303, ldS_304, ldS_305, ldS_306, ldS_307, ldS_309, ldS_310, ldS_311, ldS_312, ldS_313, ldS_314, ldS_315, ldS_316, ldS_318, ldS_319, ldS_320, ldS_321, ldS_322, ldS_323, ldS_324, ldS_325, ldS_326, ldS_327, ldS_328, ldS_329, ldS_330, ldS_331, ldS_332, ldS_333, ldS_334, ldS_335, ldS_336, ldS_337, ldS_339, ldS_340, ldS_341, ldS_342, ldS_343, ldS_344, ldS_345, ldS_346, ldS_347, ldS_348, ldS_349, ldS_350, ldS_351, ldS_352, ldS_353, ldS_355, ldS_356, ldS_2, ldS_3, ldS_4, ldS_7, ldS_8, ldS_9, ldS_10, ldS_11, ldS_12, ldS_13, ldS_14, ldS_66, ldS_67, ldS_68, ldS_71, ldS_72, ldS_73, ldS_74, ldS_75, ldS_76, ldS_77, ldS_78, ldS_130, ldS_131, ldS_132, ldS_135, ldS_136, ldS_137, ldS_138, ldS_139, ldS_140, ldS_141, ldS_142, ldS_194, ldS_195, ldS_196, ldS_199, ldS_200, ldS_201, ldS_202, ldS_203, ldS_204, ldS_205, ldS_206, stB_2, stB_3, upI_oc, upI_co, upI_ne, upI_eq, sh_c, rcvC_1, rcvC_2, rcvC_3, rcvC_4, rcvC_5, rcvC_6, rcvC_7, rcvC_8, rcvC_9, rcvC_10, rcvC_11, rcvC_12, x_iret1, x_iret2, x_ret0, ex_I, ex_V, ldA_k, ldS_x, gI_0, gI_s, gL_0, gL_s, gR_0, gR_s, stl_def, nlg_n, nlg_i, nlg_r, setl_0, setl_s, nth_0, nth_s, List.length_cons, List.length_nil, true_or, or_true, true_implies, false_implies, Int.reduceLE, Int.reduceLT, Int.reduceMod, Int.le_refl, Int.cast_ofNat_Int, sh4_0, sh4_1, sh4_2, sh4_3, sh4_4, rcv_0, rcv_9, spl_0, spl_s, List.getD_cons_zero, List.getD_cons_succ, List.take_zero, List.drop_zero, Nat.reduceLT, Nat.reduceDiv, Nat.reduceMod, Nat.reduceAdd, Nat.reduceSub, Int.reduceToNat, jm_b, jm_h, if_true, if_false, Nat.reduceEqDiff, true_and, and_true, Int.natCast_nonneg, Int.toNat_natCast, Int.lt_irrefl, false_implies, and_true, true_and, Int.le_refl, true_implies, bX2_putLine, bX2_putLine_0, bX2_putLine_1, bX2_putLine_2, w32_s l (by omega)]
  exact ⟨fun z => HN (by omega), fun z => ⟨fun y => ⟨by omega, by omega, by omega, HY (by omega) (by omega)⟩, fun y => HN (by omega)⟩⟩
theorem c_endTest {b : Int} {φ : MI → MR → Prop} (h1 : 0 ≤ I 260 7 ∧ I 260 7 ≤ 1000) (h2 : 0 ≤ I 260 8 ∧ I 260 8 ≤ 1000) (H : ∀ I', rdv I' = eTest (rdv I) b → RF I I' → φ I' (gW f)) : cV (Call g (d + 2)) 79 [.inr (.inr (some (260))), .inl (b)] I (gW f) [] φ := by
  obtain ⟨l, hl⟩ : ∃ l : Nat, I 260 7 = l := ⟨(I 260 7).toNat, by omega⟩
  obtain ⟨x, hx⟩ : ∃ x : Nat, I 260 8 = x := ⟨(I 260 8).toNat, by omega⟩
  refine callOf mX8_endTest [some (.inr (.inr (some (260)))), some (.inl (b))] rfl (Nat.le_of_ble_eq_true rfl) (atOf mX8_endTest 0 rfl ?_)
  simp +decide -implicitDefEqProofs -failIfUnchanged only [x_iload, x_lload, x_aload, x_istore, x_astore, x_iinc, x_iconst, x_ldc2, x_iadd, x_isub, x_imul, x_iand, x_ior, x_ixor, x_ishl, x_ishr, x_iushr, x_idiv, x_irem, x_ineg, x_i2b, x_i2l, x_land, x_lor, x_lshl, x_lushr, x_lcmp, x_dupI, x_dupR, x_dup2, x_dup2I, x_icmp_eq, x_if_eq, x_icmp_ne, x_if_ne, x_icmp_lt, x_if_lt, x_icmp_ge, x_if_ge, x_icmp_gt, x_if_gt, x_icmp_le, x_if_le, x_ifnn_s, x_goto, x_fall, x_tsw, x_iaload, x_baload, x_laload, x_aaload, x_iastore, x_bastore, x_lastore, x_aastore, x_alen, x_getf, x_getr, x_getl, x_putf, x_putz, x_putl, x_putr, x_new, x_newa, x_anewa, x_max, x_min, x_abs, x_pop, x_copy, x_call, gr_256_0, gr_256_1, gr_256_2, gr_256_3, gr_256_4, gr_256_5, gr_256_6, gr_256_7, gr_256_8, gr_256_9, gr_258_0, gr_258_1, gr_258_2, gr_258_3, gr_258_4, gr_258_5, gr_258_6, gr_259_0, gr_259_1, gr_259_2, gr_259_3, gr_260_1, gr_260_0, gr_262_0, gr_262_1, gr_262_2, gr_262_3, gr_263_0, gr_263_1, gr_264_2, gr_264_3, gr_264_4, gr_264_5, gr_275_1, gr_275_2, gr_275_3, gr_275_4, gr_275_5, gr_275_6, gr_275_7, gr_300_1, gr_300_2, gr_300_3, gr_300_4, gr_300_5, gr_300_6, gr_300_7, gr_300_8, gr_300_9, gr_300_10, gr_300_11, gr_300_12, gr_300_13, gr_300_14, gr_300_15, gr_300_16, gr_300_17, gr_300_18, gr_300_19, gr_300_20, gr_300_21, gr_300_22, gr_300_23, gr_300_24, gr_300_25, gr_300_26, gr_300_27, gr_300_28, gr_300_29, gr_300_30, gr_300_31, gr_300_32, gr_300_33, gr_300_34, gr_300_35, gr_300_36, gr_300_37, gr_300_38, gr_300_39, gr_300_40, gr_300_41, gr_300_42, gr_300_43, gr_300_44, gr_300_45, gr_300_46, gr_300_56, gr_300_57, gr_300_58, gr_300_59, gr_300_60, gr_300_61, gr_300_62, gr_300_63, gr_300_64, gr_300_65, gr_300_66, gr_0_0, gr_0_3, gr_0_5, gr_0_7, gr_0_11, gr_0_12, gr_0_16, gr_5_1, gr_5_2, gr_5_3, gr_5_4, gr_5_5, gr_5_6, gr_5_7, gr_1, sh_0, sh_1, sh_2, sh_3, sh_4, sh_5, sh_6, sh_7, sh_8, sh_9, sh_10, sh_11, sh_12, sh_13, sh_14, sh_64, sh_65, sh_66, sh_67, sh_68, sh_69, sh_70, sh_71, sh_72, sh_73, sh_74, sh_75, sh_76, sh_77, sh_78, sh_128, sh_129, sh_130, sh_131, sh_132, sh_133, sh_134, sh_135, sh_136, sh_137, sh_138, sh_139, sh_140, sh_141, sh_142, sh_192, sh_193, sh_194, sh_195, sh_196, sh_197, sh_198, sh_199, sh_200, sh_201, sh_202, sh_203, sh_204, sh_205, sh_206, sh_256, sh_257, sh_258, sh_259, sh_260, sh_261, sh_262, sh_263, sh_264, sh_265, sh_266, sh_267, sh_268, sh_269, sh_270, sh_271, sh_272, sh_273, sh_274, sh_275, sh_276, sh_277, sh_278, sh_279, sh_280, sh_281, sh_282, sh_283, sh_284, sh_285, sh_286, sh_287, sh_288, sh_289, sh_300, sh_301, sh_302, sh_303, sh_304, sh_305, sh_306, sh_307, sh_308, sh_309, sh_310, sh_311, sh_312, sh_313, sh_314, sh_315, sh_316, sh_317, sh_318, sh_319, sh_320, sh_321, sh_322, sh_323, sh_324, sh_325, sh_326, sh_327, sh_328, sh_329, sh_330, sh_331, sh_332, sh_333, sh_334, sh_335, sh_336, sh_337, sh_338, sh_339, sh_340, sh_341, sh_342, sh_343, sh_344, sh_345, sh_346, sh_347, sh_348, sh_349, sh_350, sh_351, sh_352, sh_353, sh_354, sh_355, sh_356, sh_357, ldS_265, ldS_266, ldS_267, ldS_268, ldS_269, ldS_270, ldS_271, ldS_272, ldS_273, ldS_274, ldS_276, ldS_277, ldS_278, ldS_279, ldS_280, ldS_281, ldS_282, ldS_283, ldS_284, ldS_286, ldS_287, ldS_288, ldS_289, ldS_302, ldS_303, ldS_304, ldS_305, ldS_306, ldS_307, ldS_309, ldS_310, ldS_311, ldS_312, ldS_313, ldS_314, ldS_315, ldS_316, ldS_318, ldS_319, ldS_320, ldS_321, ldS_322, ldS_323, ldS_324, ldS_325, ldS_326, ldS_327, ldS_328, ldS_329, ldS_330, ldS_331, ldS_332, ldS_333, ldS_334, ldS_335, ldS_336, ldS_337, ldS_339, ldS_340, ldS_341, ldS_342, ldS_343, ldS_344, ldS_345, ldS_346, ldS_347, ldS_348, ldS_349, ldS_350, ldS_351, ldS_352, ldS_353, ldS_355, ldS_356, ldS_2, ldS_3, ldS_4, ldS_7, ldS_8, ldS_9, ldS_10, ldS_11, ldS_12, ldS_13, ldS_14, ldS_66, ldS_67, ldS_68, ldS_71, ldS_72, ldS_73, ldS_74, ldS_75, ldS_76, ldS_77, ldS_78, ldS_130, ldS_131, ldS_132, ldS_135, ldS_136, ldS_137, ldS_138, ldS_139, ldS_140, ldS_141, ldS_142, ldS_194, ldS_195, ldS_196, ldS_199, ldS_200, ldS_201, ldS_202, ldS_203, ldS_204, ldS_205, ldS_206, stB_2, stB_3, upI_oc, upI_co, upI_ne, upI_eq, sh_c, rcvC_1, rcvC_2, rcvC_3, rcvC_4, rcvC_5, rcvC_6, rcvC_7, rcvC_8, rcvC_9, rcvC_10, rcvC_11, rcvC_12, x_iret1, x_iret2, x_ret0, ex_I, ex_V, ldA_k, ldS_x, gI_0, gI_s, gL_0, gL_s, gR_0, gR_s, stl_def, nlg_n, nlg_i, nlg_r, setl_0, setl_s, nth_0, nth_s, List.length_cons, List.length_nil, true_or, or_true, true_implies, false_implies, Int.reduceLE, Int.reduceLT, Int.reduceMod, Int.le_refl, Int.cast_ofNat_Int, sh4_0, sh4_1, sh4_2, sh4_3, sh4_4, rcv_0, rcv_9, spl_0, spl_s, List.getD_cons_zero, List.getD_cons_succ, List.take_zero, List.drop_zero, Nat.reduceLT, Nat.reduceDiv, Nat.reduceMod, Nat.reduceAdd, Nat.reduceSub, Int.reduceToNat, jm_b, jm_h, if_true, if_false, Nat.reduceEqDiff, true_and, and_true, Int.natCast_nonneg, Int.toNat_natCast, Int.lt_irrefl, false_implies, and_true, true_and, Int.le_refl, true_implies, bX8_endTest, bX8_endTest_0, hl, hx]
  refine c_putTest (by omega) (by omega) (fun I1 k1 j1 => ?_)
  have r7 : rdv I 61 0 = l := hl
  have r8 : rdv I 62 0 = x := hx
  have e8 : I1 260 8 = x := by
    show rdv I1 62 0 = x
    rw [k1]
    split
    · unfold us
      rw [if_neg (by omega), if_neg (by omega), if_neg (by omega), if_neg (by omega)]
      exact hx
    · exact hx
  have pT : pTest (rdv I) b = rdv I1 := by
    rw [k1]
    unfold pTest
    rw [r7, r8]
    by_cases z : l < 16 ∧ x < 4
    · rw [if_pos z, if_pos (by omega), show (4 * (l : Int) + x).toNat = 4 * l + x by omega]; rfl
    · rw [if_neg z, if_neg (by omega)]
  have := H (upI (upI I1 260 8 ((x + 1 : Nat) : Int)) 260 6 5) (by rw [rv60, rv62, ← pT]; unfold eTest; rw [r8]; rfl) ((j1.f (by decide)).f (by decide))
  simp +decide -implicitDefEqProofs -failIfUnchanged only [x_iload, x_lload, x_aload, x_istore, x_astore, x_iinc, x_iconst, x_ldc2, x_iadd, x_isub, x_imul, x_iand, x_ior, x_ixor, x_ishl, x_ishr, x_iushr, x_idiv, x_irem, x_ineg, x_i2b, x_i2l, x_land, x_lor, x_lshl, x_lushr, x_lcmp, x_dupI, x_dupR, x_dup2, x_dup2I, x_icmp_eq, x_if_eq, x_icmp_ne, x_if_ne, x_icmp_lt, x_if_lt, x_icmp_ge, x_if_ge, x_icmp_gt, x_if_gt, x_icmp_le, x_if_le, x_ifnn_s, x_goto, x_fall, x_tsw, x_iaload, x_baload, x_laload, x_aaload, x_iastore, x_bastore, x_lastore, x_aastore, x_alen, x_getf, x_getr, x_getl, x_putf, x_putz, x_putl, x_putr, x_new, x_newa, x_anewa, x_max, x_min, x_abs, x_pop, x_copy, x_call, gr_256_0, gr_256_1, gr_256_2, gr_256_3, gr_256_4, gr_256_5, gr_256_6, gr_256_7, gr_256_8, gr_256_9, gr_258_0, gr_258_1, gr_258_2, gr_258_3, gr_258_4, gr_258_5, gr_258_6, gr_259_0, gr_259_1, gr_259_2, gr_259_3, gr_260_1, gr_260_0, gr_262_0, gr_262_1, gr_262_2, gr_262_3, gr_263_0, gr_263_1, gr_264_2, gr_264_3, gr_264_4, gr_264_5, gr_275_1, gr_275_2, gr_275_3, gr_275_4, gr_275_5, gr_275_6, gr_275_7, gr_300_1, gr_300_2, gr_300_3, gr_300_4, gr_300_5, gr_300_6, gr_300_7, gr_300_8, gr_300_9, gr_300_10, gr_300_11, gr_300_12, gr_300_13, gr_300_14, gr_300_15, gr_300_16, gr_300_17, gr_300_18, gr_300_19, gr_300_20, gr_300_21, gr_300_22, gr_300_23, gr_300_24, gr_300_25, gr_300_26, gr_300_27, gr_300_28, gr_300_29, gr_300_30, gr_300_31, gr_300_32, gr_300_33, gr_300_34, gr_300_35, gr_300_36, gr_300_37, gr_300_38, gr_300_39, gr_300_40, gr_300_41, gr_300_42, gr_300_43, gr_300_44, gr_300_45, gr_300_46, gr_300_56, gr_300_57, gr_300_58, gr_300_59, gr_300_60, gr_300_61, gr_300_62, gr_300_63, gr_300_64, gr_300_65, gr_300_66, gr_0_0, gr_0_3, gr_0_5, gr_0_7, gr_0_11, gr_0_12, gr_0_16, gr_5_1, gr_5_2, gr_5_3, gr_5_4, gr_5_5, gr_5_6, gr_5_7, gr_1, sh_0, sh_1, sh_2, sh_3, sh_4, sh_5, sh_6, sh_7, sh_8, sh_9, sh_10, sh_11, sh_12, sh_13, sh_14, sh_64, sh_65, sh_66, sh_67, sh_68, sh_69, sh_70, sh_71, sh_72, sh_73, sh_74, sh_75, sh_76, sh_77, sh_78, sh_128, sh_129, sh_130, sh_131, sh_132, sh_133, sh_134, sh_135, sh_136, sh_137, sh_138, sh_139, sh_140, sh_141, sh_142, sh_192, sh_193, sh_194, sh_195, sh_196, sh_197, sh_198, sh_199, sh_200, sh_201, sh_202, sh_203, sh_204, sh_205, sh_206, sh_256, sh_257, sh_258, sh_259, sh_260, sh_261, sh_262, sh_263, sh_264, sh_265, sh_266, sh_267, sh_268, sh_269, sh_270, sh_271, sh_272, sh_273, sh_274, sh_275, sh_276, sh_277, sh_278, sh_279, sh_280, sh_281, sh_282, sh_283, sh_284, sh_285, sh_286, sh_287, sh_288, sh_289, sh_300, sh_301, sh_302, sh_303, sh_304, sh_305, sh_306, sh_307, sh_308, sh_309, sh_310, sh_311, sh_312, sh_313, sh_314, sh_315, sh_316, sh_317, sh_318, sh_319, sh_320, sh_321, sh_322, sh_323, sh_324, sh_325, sh_326, sh_327, sh_328, sh_329, sh_330, sh_331, sh_332, sh_333, sh_334, sh_335, sh_336, sh_337, sh_338, sh_339, sh_340, sh_341, sh_342, sh_343, sh_344, sh_345, sh_346, sh_347, sh_348, sh_349, sh_350, sh_351, sh_352, sh_353, sh_354, sh_355, sh_356, sh_357, ldS_265, ldS_266, ldS_267, ldS_268, ldS_269, ldS_270, ldS_271, ldS_272, ldS_273, ldS_274, ldS_276, ldS_277, ldS_278, ldS_279, ldS_280, ldS_281, ldS_282, ldS_283, ldS_284, ldS_286, ldS_287, ldS_288, ldS_289, ldS_302, ldS_303, ldS_304, ldS_305, ldS_306, ldS_307, ldS_309, ldS_310, ldS_311, ldS_312, ldS_313, ldS_314, ldS_315, ldS_316, ldS_318, ldS_319, ldS_320, ldS_321, ldS_322, ldS_323, ldS_324, ldS_325, ldS_326, ldS_327, ldS_328, ldS_329, ldS_330, ldS_331, ldS_332, ldS_333, ldS_334, ldS_335, ldS_336, ldS_337, ldS_339, ldS_340, ldS_341, ldS_342, ldS_343, ldS_344, ldS_345, ldS_346, ldS_347, ldS_348, ldS_349, ldS_350, ldS_351, ldS_352, ldS_353, ldS_355, ldS_356, ldS_2, ldS_3, ldS_4, ldS_7, ldS_8, ldS_9, ldS_10, ldS_11, ldS_12, ldS_13, ldS_14, ldS_66, ldS_67, ldS_68, ldS_71, ldS_72, ldS_73, ldS_74, ldS_75, ldS_76, ldS_77, ldS_78, ldS_130, ldS_131, ldS_132, ldS_135, ldS_136, ldS_137, ldS_138, ldS_139, ldS_140, ldS_141, ldS_142, ldS_194, ldS_195, ldS_196, ldS_199, ldS_200, ldS_201, ldS_202, ldS_203, ldS_204, ldS_205, ldS_206, stB_2, stB_3, upI_oc, upI_co, upI_ne, upI_eq, sh_c, rcvC_1, rcvC_2, rcvC_3, rcvC_4, rcvC_5, rcvC_6, rcvC_7, rcvC_8, rcvC_9, rcvC_10, rcvC_11, rcvC_12, x_iret1, x_iret2, x_ret0, ex_I, ex_V, ldA_k, ldS_x, gI_0, gI_s, gL_0, gL_s, gR_0, gR_s, stl_def, nlg_n, nlg_i, nlg_r, setl_0, setl_s, nth_0, nth_s, List.length_cons, List.length_nil, true_or, or_true, true_implies, false_implies, Int.reduceLE, Int.reduceLT, Int.reduceMod, Int.le_refl, Int.cast_ofNat_Int, sh4_0, sh4_1, sh4_2, sh4_3, sh4_4, rcv_0, rcv_9, spl_0, spl_s, List.getD_cons_zero, List.getD_cons_succ, List.take_zero, List.drop_zero, Nat.reduceLT, Nat.reduceDiv, Nat.reduceMod, Nat.reduceAdd, Nat.reduceSub, Int.reduceToNat, jm_b, jm_h, if_true, if_false, Nat.reduceEqDiff, true_and, and_true, Int.natCast_nonneg, Int.toNat_natCast, Int.lt_irrefl, false_implies, and_true, true_and, Int.le_refl, true_implies, bX8_endTest, bX8_endTest_0, e8, w32_s x (by omega)]
  exact this
theorem c_takeAsked {φ : Int → MI → MR → Prop} (h1 : 0 ≤ I 260 7 ∧ I 260 7 ≤ 1000) (h2 : 0 ≤ I 260 8 ∧ I 260 8 ≤ 1000) (H : ∀ I', rdv I' = (kAsk (rdv I) (I 260 3)).2 → RF I I' → φ (kAsk (rdv I) (I 260 3)).1 I' (gW f)) : cI (Call g (d + 3)) 76 [.inr (.inr (some (260)))] I (gW f) [] φ := by
  have rj : rdv (upI (upI I 260 10 (I 260 3)) 260 11 23) = un (un (rdv I) 64 (I 260 3)) 65 23 := by rw [rv65, rv64]
  have fj : RF I (upI (upI I 260 10 (I 260 3)) 260 11 23) := (RF.rf.f (by decide)).f (by decide)
  have HN : ¬ (7 ≤ I 260 3 ∧ I 260 3 ≤ 10) → ∀ v : Int, v = (if 11 ≤ I 260 3 ∧ I 260 3 ≤ 17 then 1 else 0) → φ v (upI (upI (upI I 260 10 (I 260 3)) 260 11 23) 260 6 3) (gW f) := fun z v hv => by
    have := H (upI (upI (upI I 260 10 (I 260 3)) 260 11 23) 260 6 3)
    unfold kAsk at this
    rw [if_neg z, ← hv] at this
    exact this (by rw [rv60, rj]) (fj.f (by decide))
  have HY : 7 ≤ I 260 3 → I 260 3 ≤ 10 → ∀ I', rdv I' = eTest (un (un (rdv I) 64 (I 260 3)) 65 23) 0 → RF I I' → φ 1 I' (gW f) := fun z y I' h1 h2 => by
    have := H I'
    unfold kAsk at this
    rw [if_pos ⟨z, y⟩] at this
    exact this h1 h2
  refine callOf mX8_takeAsked [some (.inr (.inr (some (260))))] rfl (Nat.le_of_ble_eq_true rfl) (atOf mX8_takeAsked 0 rfl ?_)
  simp +decide -implicitDefEqProofs -failIfUnchanged only [x_iload, x_lload, x_aload, x_istore, x_astore, x_iinc, x_iconst, x_ldc2, x_iadd, x_isub, x_imul, x_iand, x_ior, x_ixor, x_ishl, x_ishr, x_iushr, x_idiv, x_irem, x_ineg, x_i2b, x_i2l, x_land, x_lor, x_lshl, x_lushr, x_lcmp, x_dupI, x_dupR, x_dup2, x_dup2I, x_icmp_eq, x_if_eq, x_icmp_ne, x_if_ne, x_icmp_lt, x_if_lt, x_icmp_ge, x_if_ge, x_icmp_gt, x_if_gt, x_icmp_le, x_if_le, x_ifnn_s, x_goto, x_fall, x_tsw, x_iaload, x_baload, x_laload, x_aaload, x_iastore, x_bastore, x_lastore, x_aastore, x_alen, x_getf, x_getr, x_getl, x_putf, x_putz, x_putl, x_putr, x_new, x_newa, x_anewa, x_max, x_min, x_abs, x_pop, x_copy, x_call, gr_256_0, gr_256_1, gr_256_2, gr_256_3, gr_256_4, gr_256_5, gr_256_6, gr_256_7, gr_256_8, gr_256_9, gr_258_0, gr_258_1, gr_258_2, gr_258_3, gr_258_4, gr_258_5, gr_258_6, gr_259_0, gr_259_1, gr_259_2, gr_259_3, gr_260_1, gr_260_0, gr_262_0, gr_262_1, gr_262_2, gr_262_3, gr_263_0, gr_263_1, gr_264_2, gr_264_3, gr_264_4, gr_264_5, gr_275_1, gr_275_2, gr_275_3, gr_275_4, gr_275_5, gr_275_6, gr_275_7, gr_300_1, gr_300_2, gr_300_3, gr_300_4, gr_300_5, gr_300_6, gr_300_7, gr_300_8, gr_300_9, gr_300_10, gr_300_11, gr_300_12, gr_300_13, gr_300_14, gr_300_15, gr_300_16, gr_300_17, gr_300_18, gr_300_19, gr_300_20, gr_300_21, gr_300_22, gr_300_23, gr_300_24, gr_300_25, gr_300_26, gr_300_27, gr_300_28, gr_300_29, gr_300_30, gr_300_31, gr_300_32, gr_300_33, gr_300_34, gr_300_35, gr_300_36, gr_300_37, gr_300_38, gr_300_39, gr_300_40, gr_300_41, gr_300_42, gr_300_43, gr_300_44, gr_300_45, gr_300_46, gr_300_56, gr_300_57, gr_300_58, gr_300_59, gr_300_60, gr_300_61, gr_300_62, gr_300_63, gr_300_64, gr_300_65, gr_300_66, gr_0_0, gr_0_3, gr_0_5, gr_0_7, gr_0_11, gr_0_12, gr_0_16, gr_5_1, gr_5_2, gr_5_3, gr_5_4, gr_5_5, gr_5_6, gr_5_7, gr_1, sh_0, sh_1, sh_2, sh_3, sh_4, sh_5, sh_6, sh_7, sh_8, sh_9, sh_10, sh_11, sh_12, sh_13, sh_14, sh_64, sh_65, sh_66, sh_67, sh_68, sh_69, sh_70, sh_71, sh_72, sh_73, sh_74, sh_75, sh_76, sh_77, sh_78, sh_128, sh_129, sh_130, sh_131, sh_132, sh_133, sh_134, sh_135, sh_136, sh_137, sh_138, sh_139, sh_140, sh_141, sh_142, sh_192, sh_193, sh_194, sh_195, sh_196, sh_197, sh_198, sh_199, sh_200, sh_201, sh_202, sh_203, sh_204, sh_205, sh_206, sh_256, sh_257, sh_258, sh_259, sh_260, sh_261, sh_262, sh_263, sh_264, sh_265, sh_266, sh_267, sh_268, sh_269, sh_270, sh_271, sh_272, sh_273, sh_274, sh_275, sh_276, sh_277, sh_278, sh_279, sh_280, sh_281, sh_282, sh_283, sh_284, sh_285, sh_286, sh_287, sh_288, sh_289, sh_300, sh_301, sh_302, sh_303, sh_304, sh_305, sh_306, sh_307, sh_308, sh_309, sh_310, sh_311, sh_312, sh_313, sh_314, sh_315, sh_316, sh_317, sh_318, sh_319, sh_320, sh_321, sh_322, sh_323, sh_324, sh_325, sh_326, sh_327, sh_328, sh_329, sh_330, sh_331, sh_332, sh_333, sh_334, sh_335, sh_336, sh_337, sh_338, sh_339, sh_340, sh_341, sh_342, sh_343, sh_344, sh_345, sh_346, sh_347, sh_348, sh_349, sh_350, sh_351, sh_352, sh_353, sh_354, sh_355, sh_356, sh_357, ldS_265, ldS_266, ldS_267, ldS_268, ldS_269, ldS_270, ldS_271, ldS_272, ldS_273, ldS_274, ldS_276, ldS_277, ldS_278, ldS_279, ldS_280, ldS_281, ldS_282, ldS_283, ldS_284, ldS_286, ldS_287, ldS_288, ldS_289, ldS_302, ldS_303, ldS_304, ldS_305, ldS_306, ldS_307, ldS_309, ldS_310, ldS_311, ldS_312, ldS_313, ldS_314, ldS_315, ldS_316, ldS_318, ldS_319, ldS_320, ldS_321, ldS_322, ldS_323, ldS_324, ldS_325, ldS_326, ldS_327, ldS_328, ldS_329, ldS_330, ldS_331, ldS_332, ldS_333, ldS_334, ldS_335, ldS_336, ldS_337, ldS_339, ldS_340, ldS_341, ldS_342, ldS_343, ldS_344, ldS_345, ldS_346, ldS_347, ldS_348, ldS_349, ldS_350, ldS_351, ldS_352, ldS_353, ldS_355, ldS_356, ldS_2, ldS_3, ldS_4, ldS_7, ldS_8, ldS_9, ldS_10, ldS_11, ldS_12, ldS_13, ldS_14, ldS_66, ldS_67, ldS_68, ldS_71, ldS_72, ldS_73, ldS_74, ldS_75, ldS_76, ldS_77, ldS_78, ldS_130, ldS_131, ldS_132, ldS_135, ldS_136, ldS_137, ldS_138, ldS_139, ldS_140, ldS_141, ldS_142, ldS_194, ldS_195, ldS_196, ldS_199, ldS_200, ldS_201, ldS_202, ldS_203, ldS_204, ldS_205, ldS_206, stB_2, stB_3, upI_oc, upI_co, upI_ne, upI_eq, sh_c, rcvC_1, rcvC_2, rcvC_3, rcvC_4, rcvC_5, rcvC_6, rcvC_7, rcvC_8, rcvC_9, rcvC_10, rcvC_11, rcvC_12, x_iret1, x_iret2, x_ret0, ex_I, ex_V, ldA_k, ldS_x, gI_0, gI_s, gL_0, gL_s, gR_0, gR_s, stl_def, nlg_n, nlg_i, nlg_r, setl_0, setl_s, nth_0, nth_s, List.length_cons, List.length_nil, true_or, or_true, true_implies, false_implies, Int.reduceLE, Int.reduceLT, Int.reduceMod, Int.le_refl, Int.cast_ofNat_Int, sh4_0, sh4_1, sh4_2, sh4_3, sh4_4, rcv_0, rcv_9, spl_0, spl_s, List.getD_cons_zero, List.getD_cons_succ, List.take_zero, List.drop_zero, Nat.reduceLT, Nat.reduceDiv, Nat.reduceMod, Nat.reduceAdd, Nat.reduceSub, Int.reduceToNat, jm_b, jm_h, if_true, if_false, Nat.reduceEqDiff, true_and, and_true, Int.natCast_nonneg, Int.toNat_natCast, Int.lt_irrefl, false_implies, and_true, true_and, Int.le_refl, true_implies, bX8_takeAsked, bX8_takeAsked_0, bX8_takeAsked_1, bX8_takeAsked_2, bX8_takeAsked_3]
  refine ⟨fun a => ⟨fun b => HN (by omega) 0 (by rw [if_neg (by omega)]), fun b => ⟨fun c => HN (by omega) 0 (by rw [if_neg (by omega)]), fun c => HN (by omega) 1 (by rw [if_pos (by omega)])⟩⟩, fun a => ⟨fun a => ⟨fun b => HN (by omega) 0 (by rw [if_neg (by omega)]), fun b => ⟨fun c => HN (by omega) 0 (by rw [if_neg (by omega)]), fun c => HN (by omega) 1 (by rw [if_pos (by omega)])⟩⟩, fun b => ?_⟩⟩
  refine c_endTest (d := d) (by rw [up_at (by decide), up_at (by decide)]; exact h1) (by rw [up_at (by decide), up_at (by decide)]; exact h2) (fun I2 k2 j2 => ?_)
  have := HY (by omega) (by omega) I2 (by rw [k2, rj]) (fj.tr j2)
  exact this
end CREAD
