/-! all sets of so many, counted -/
theorem pcF_hi : ∀ j m x, m < j → x < 2 ^ m → pcF j (2 ^ m + x) = pcF j x + 1
  | 0, m, x, h, _ => by omega
  | j + 1, 0, x, h, hx => by
    have : x = 0 := by omega
    subst this
    simp only [pcF]
    have z : ∀ k, pcF k 0 = 0 := fun k => by
      induction k with
      | zero => rfl
      | succ k ih => simp only [pcF, Nat.zero_div, ih]
    simp [z]
  | j + 1, m + 1, x, h, hx => by
    rw [Nat.pow_succ] at hx
    simp only [pcF]
    rw [show (2 ^ (m + 1) + x) / 2 = 2 ^ m + x / 2 by rw [Nat.pow_succ]; omega, pcF_hi j m (x / 2) (by omega) (by omega), show (2 ^ (m + 1) + x) % 2 = x % 2 by rw [Nat.pow_succ]; omega]
    omega
theorem pc_hi {m x : Nat} (hm : m < 16) (hx : x < 2 ^ m) : pcN (2 ^ m + x) = pcN x + 1 := pcF_hi 16 m x hm hx
theorem pc_pos {x : Nat} (h : 0 < x) (hx : x < 65536) : 0 < pcN x := by
  have := pc_and h hx
  omega
theorem cA_none {P : Nat → Prop} [∀ x, Decidable (P x)] : ∀ n, (∀ x, x < n → ¬ P x) → cA P n = 0
  | 0, _ => rfl
  | n + 1, h => by
    unfold cA
    rw [cA_none n (fun x hx => h x (by omega)), if_neg (h n (by omega))]
theorem el_cnt : ∀ m r, m ≤ 16 → ∀ (P : Nat → Prop) [∀ x, Decidable (P x)], cA (fun x => pcN x = r ∧ P x) (2 ^ m) = cA (fun k => P (el m r k)) (bn m r)
  | 0, 0, _, P, _ => by
    show 0 + _ = 0 + _
    congr 1
    by_cases z : P 0
    · rw [if_pos ⟨rfl, z⟩]; exact (if_pos z).symm
    · rw [if_neg (fun y => z y.2)]; exact (if_neg z).symm
  | 0, r + 1, _, P, _ => by
    rw [bn_z 0 (r + 1) (by omega)]
    refine cA_none _ (fun x hx y => ?_)
    have : x = 0 := by omega
    subst this
    have := y.1
    rw [pc_0] at this
    omega
  | m + 1, 0, hm, P, _ => by
    have p16 : 2 ^ (m + 1) ≤ 2 ^ 16 := Nat.pow_le_pow_right (by decide) hm
    have pp : 0 < 2 ^ (m + 1) := Nat.pow_pos (by decide)
    rw [bn_0, show 2 ^ (m + 1) = 1 + (2 ^ (m + 1) - 1) by omega, cA_add, cA_none (2 ^ (m + 1) - 1) (fun x hx y => by have := pc_pos (x := 1 + x) (by omega) (by omega); omega)]
    show 0 + _ + 0 = 0 + _
    rw [Nat.add_zero]
    congr 1
    by_cases z : P 0
    · rw [if_pos ⟨rfl, z⟩]; exact (if_pos z).symm
    · rw [if_neg (fun y => z y.2)]; exact (if_neg z).symm
  | m + 1, r + 1, hm, P, _ => by
    rw [Nat.pow_succ, Nat.mul_two, cA_add, el_cnt m (r + 1) (by omega) P, bn_s, cA_add]
    congr 1
    · refine cA_c _ (fun x hx => ?_)
      rw [el_s, if_pos hx]
    · rw [cA_c (Q := fun x => pcN x = r ∧ P (2 ^ m + x)) (2 ^ m) (fun x hx => by rw [pc_hi (by omega) hx]; constructor <;> rintro ⟨a, b⟩ <;> exact ⟨by omega, b⟩), el_cnt m r (by omega) (fun x => P (2 ^ m + x))]
      refine cA_c _ (fun x hx => ?_)
      rw [el_s, if_neg (by omega), show bn m (r + 1) + x - bn m (r + 1) = x by omega]
theorem bn_cnt {m r : Nat} (hm : m ≤ 16) : cA (fun x => pcN x = r) (2 ^ m) = bn m r := by
  have := el_cnt m r hm (fun _ => True)
  rw [cA_c (Q := fun x => pcN x = r ∧ True) _ (fun x _ => by simp), this]
  generalize bn m r = b
  induction b with
  | zero => rfl
  | succ b ih => unfold cA; rw [ih]; rfl
theorem bn_mul : ∀ a, a ≤ 16 → ∀ i, i ≤ 16 - a → 0 < i → bn (a + (i - 1)) (i - 1) * (a + i) / i = bn (a + i) i ∧ bn (a + (i - 1)) (i - 1) * (a + i) ≤ 300000 := by decide +kernel
theorem and32_neg {x : Nat} (h0 : 0 < x) (hx : x < 2 ^ 31) : and32 (x : Int) (-(x : Int)) = ((lb x : Nat) : Int) := by
  have l : lb x ≤ x := Nat.and_le_left
  rw [and32_eq]
  have e1 : (Int32.ofInt (x : Int) &&& Int32.ofInt (-(x : Int))).toBitVec = BitVec.ofNat 32 (lb x) := by
    rw [Int32.toBitVec_and]
    apply BitVec.eq_of_toNat_eq
    rw [BitVec.toNat_and, BitVec.toNat_ofNat, Nat.mod_eq_of_lt (show lb x < 2 ^ 32 by omega)]
    unfold lb
    congr 1
    · show (BitVec.ofInt 32 (x : Int)).toNat = x
      rw [BitVec.toNat_ofInt]; omega
    · show (BitVec.ofInt 32 (-(x : Int))).toNat = 2 ^ 32 - x
      rw [BitVec.toNat_ofInt]; omega
  have e2 : (BitVec.ofNat 32 (lb x)).toNat = lb x := by rw [BitVec.toNat_ofNat, Nat.mod_eq_of_lt (by omega)]
  rw [Int32.toInt, e1, BitVec.toInt_eq_toNat_of_lt (by rw [e2]; omega), e2]
section SETS
variable {g : GX} {d : Nat} {I : MI} {f : Nat → Bool}
theorem lb_dec {H a l : Nat} (hl : a + l < 31) (hx : 2 ^ a * (2 ^ (l + 1) * (2 * H) + (2 ^ (l + 1) - 1)) < 2 ^ 31) : lb (2 ^ a * (2 ^ (l + 1) * (2 * H) + (2 ^ (l + 1) - 1))) = 2 ^ a := by
  have pl1 : 2 ^ (l + 1) = 2 ^ l * 2 := Nat.pow_succ 2 l
  have pl : 0 < 2 ^ l := Nat.pow_pos (by decide)
  have odd : 2 ^ (l + 1) * (2 * H) + (2 ^ (l + 1) - 1) = 2 * (2 ^ (l + 1) * H + (2 ^ l - 1)) + 1 := by
    rw [Nat.mul_left_comm]; omega
  rw [odd] at hx ⊢
  refine lb_pow a (31 - a) _ (by omega) ?_
  have : 2 ^ 31 = 2 ^ a * 2 ^ (31 - a) := by rw [← Nat.pow_add]; congr 1; omega
  rw [this] at hx
  have := Nat.lt_of_mul_lt_mul_left hx
  omega
theorem lb_p {x : Nat} (h0 : 0 < x) (hx : x < 65536) : 0 < lb x ∧ lb x ≤ x := by
  refine ⟨?_, Nat.and_le_left⟩
  obtain ⟨H, a, l, e⟩ := dec_ex 16 x hx h0
  have pl : 0 < 2 ^ l := Nat.pow_pos (by decide)
  have pl1 : 2 ^ (l + 1) = 2 ^ l * 2 := Nat.pow_succ 2 l
  have xl : 2 ^ a * 2 ^ l ≤ x := by
    rw [e]
    refine Nat.mul_le_mul_left _ ?_
    omega
  rw [← Nat.pow_add] at xl
  have alm : a + l < 16 := (Nat.pow_lt_pow_iff_right (a := 2) (by decide)).mp (Nat.lt_of_le_of_lt xl hx)
  rw [e, lb_dec (by omega) (by rw [← e]; omega)]
  exact Nat.pow_pos (by decide)
theorem c_setAfter {x : Nat} {φ : Int → MI → MR → Prop} (hx : x < 65536) (h0 : x = 0 → φ 0 I (gW f)) (h1 : 0 < x → φ ((gs x : Nat) : Int) I (gW f)) : cI (Call g (d + 1)) 41 [.inl (x)] I (gW f) [] φ := by
  have wn : w32 (-(x : Int)) = -(x : Int) := w32_id (by omega) (by omega)
  rcases Nat.eq_zero_or_pos x with z | z
  · have HH := h0 z
    subst z
    have e0 : and32 ((0 : Nat) : Int) ((0 : Nat) : Int) = ((0 &&& 0 : Nat) : Int) := and32_n (by decide) (by decide)
    have e0' : and32 0 0 = 0 := e0
    have e1 : w32 (-(0 : Int)) = 0 := by rw [Int.neg_zero]; exact w32_id (by decide) (by decide)
    refine callOf mX5_setAfter [some (.inl (((0 : Nat) : Int))), none, none] rfl (Nat.le_of_ble_eq_true rfl) (atOf mX5_setAfter 0 rfl ?_)
    simp +decide -implicitDefEqProofs -failIfUnchanged only [x_iload, x_lload, x_aload, x_istore, x_astore, x_iinc, x_iconst, x_ldc2, x_iadd, x_isub, x_imul, x_iand, x_ior, x_ixor, x_ishl, x_ishr, x_iushr, x_idiv, x_irem, x_ineg, x_i2b, x_i2l, x_land, x_lor, x_lshl, x_lushr, x_lcmp, x_dupI, x_dupR, x_dup2, x_dup2I, x_icmp_eq, x_if_eq, x_icmp_ne, x_if_ne, x_icmp_lt, x_if_lt, x_icmp_ge, x_if_ge, x_icmp_gt, x_if_gt, x_icmp_le, x_if_le, x_ifnn_s, x_goto, x_fall, x_tsw, x_iaload, x_baload, x_laload, x_aaload, x_iastore, x_bastore, x_lastore, x_aastore, x_alen, x_getf, x_getr, x_getl, x_putf, x_putz, x_putl, x_putr, x_new, x_newa, x_anewa, x_max, x_min, x_abs, x_pop, x_copy, x_call, gr_256_0, gr_256_1, gr_256_2, gr_256_3, gr_256_4, gr_256_5, gr_256_6, gr_256_7, gr_256_8, gr_256_9, gr_258_0, gr_258_1, gr_258_2, gr_258_3, gr_258_4, gr_258_5, gr_258_6, gr_259_0, gr_259_1, gr_259_2, gr_259_3, gr_260_1, gr_260_0, gr_262_0, gr_262_1, gr_262_2, gr_262_3, gr_263_0, gr_263_1, gr_264_2, gr_264_3, gr_264_4, gr_264_5, gr_275_1, gr_275_2, gr_275_3, gr_275_4, gr_275_5, gr_275_6, gr_275_7, gr_300_1, gr_300_2, gr_300_3, gr_300_4, gr_300_5, gr_300_6, gr_300_7, gr_300_8, gr_300_9, gr_300_10, gr_300_11, gr_300_12, gr_300_13, gr_300_14, gr_300_15, gr_300_16, gr_300_17, gr_300_18, gr_300_19, gr_300_20, gr_300_21, gr_300_22, gr_300_23, gr_300_24, gr_300_25, gr_300_26, gr_300_27, gr_300_28, gr_300_29, gr_300_30, gr_300_31, gr_300_32, gr_300_33, gr_300_34, gr_300_35, gr_300_36, gr_300_37, gr_300_38, gr_300_39, gr_300_40, gr_300_41, gr_300_42, gr_300_43, gr_300_44, gr_300_45, gr_300_46, gr_300_56, gr_300_57, gr_300_58, gr_300_59, gr_300_60, gr_300_61, gr_300_62, gr_300_63, gr_300_64, gr_300_65, gr_300_66, gr_0_0, gr_0_3, gr_0_5, gr_0_7, gr_0_11, gr_0_12, gr_0_16, gr_5_1, gr_5_2, gr_5_3, gr_5_4, gr_5_5, gr_5_6, gr_5_7, gr_1, sh_0, sh_1, sh_2, sh_3, sh_4, sh_5, sh_6, sh_7, sh_8, sh_9, sh_10, sh_11, sh_12, sh_13, sh_14, sh_64, sh_65, sh_66, sh_67, sh_68, sh_69, sh_70, sh_71, sh_72, sh_73, sh_74, sh_75, sh_76, sh_77, sh_78, sh_128, sh_129, sh_130, sh_131, sh_132, sh_133, sh_134, sh_135, sh_136, sh_137, sh_138, sh_139, sh_140, sh_141, sh_142, sh_192, sh_193, sh_194, sh_195, sh_196, sh_197, sh_198, sh_199, sh_200, sh_201, sh_202, sh_203, sh_204, sh_205, sh_206, sh_256, sh_257, sh_258, sh_259, sh_260, sh_261, sh_262, sh_263, sh_264, sh_265, sh_266, sh_267, sh_268, sh_269, sh_270, sh_271, sh_272, sh_273, sh_274, sh_275, sh_276, sh_277, sh_278, sh_279, sh_280, sh_281, sh_282, sh_283, sh_284, sh_285, sh_286, sh_287, sh_288, sh_289, sh_300, sh_301, sh_302, sh_303, sh_304, sh_305, sh_306, sh_307, sh_308, sh_309, sh_310, sh_311, sh_312, sh_313, sh_314, sh_315, sh_316, sh_317, sh_318, sh_319, sh_320, sh_321, sh_322, sh_323, sh_324, sh_325, sh_326, sh_327, sh_328, sh_329, sh_330, sh_331, sh_332, sh_333, sh_334, sh_335, sh_336, sh_337, sh_338, sh_339, sh_340, sh_341, sh_342, sh_343, sh_344, sh_345, sh_346, sh_347, sh_348, sh_349, sh_350, sh_351, sh_352, sh_353, sh_354, sh_355, sh_356, sh_357, ldS_265, ldS_266, ldS_267, ldS_268, ldS_269, ldS_270, ldS_271, ldS_272, ldS_273, ldS_274, ldS_276, ldS_277, ldS_278, ldS_279, ldS_280, ldS_281, ldS_282, ldS_283, ldS_284, ldS_286, ldS_287, ldS_288, ldS_289, ldS_302, ldS_303, ldS_304, ldS_305, ldS_306, ldS_307, ldS_309, ldS_310, ldS_311, ldS_312, ldS_313, ldS_314, ldS_315, ldS_316, ldS_318, ldS_319, ldS_320, ldS_321, ldS_322, ldS_323, ldS_324, ldS_325, ldS_326, ldS_327, ldS_328, ldS_329, ldS_330, ldS_331, ldS_332, ldS_333, ldS_334, ldS_335, ldS_336, ldS_337, ldS_339, ldS_340, ldS_341, ldS_342, ldS_343, ldS_344, ldS_345, ldS_346, ldS_347, ldS_348, ldS_349, ldS_350, ldS_351, ldS_352, ldS_353, ldS_355, ldS_356, ldS_2, ldS_3, ldS_4, ldS_7, ldS_8, ldS_9, ldS_10, ldS_11, ldS_12, ldS_13, ldS_14, ldS_66, ldS_67, ldS_68, ldS_71, ldS_72, ldS_73, ldS_74, ldS_75, ldS_76, ldS_77, ldS_78, ldS_130, ldS_131, ldS_132, ldS_135, ldS_136, ldS_137, ldS_138, ldS_139, ldS_140, ldS_141, ldS_142, ldS_194, ldS_195, ldS_196, ldS_199, ldS_200, ldS_201, ldS_202, ldS_203, ldS_204, ldS_205, ldS_206, stB_2, stB_3, upI_oc, upI_co, upI_ne, upI_eq, sh_c, rcvC_1, rcvC_2, rcvC_3, rcvC_4, rcvC_5, rcvC_6, rcvC_7, rcvC_8, rcvC_9, rcvC_10, rcvC_11, rcvC_12, x_iret1, x_iret2, x_ret0, ex_I, ex_V, ldA_k, ldS_x, gI_0, gI_s, gL_0, gL_s, gR_0, gR_s, stl_def, nlg_n, nlg_i, nlg_r, setl_0, setl_s, nth_0, nth_s, List.length_cons, List.length_nil, true_or, or_true, true_implies, false_implies, Int.reduceLE, Int.reduceLT, Int.reduceMod, Int.le_refl, Int.cast_ofNat_Int, sh4_0, sh4_1, sh4_2, sh4_3, sh4_4, rcv_0, rcv_9, spl_0, spl_s, List.getD_cons_zero, List.getD_cons_succ, List.take_zero, List.drop_zero, Nat.reduceLT, Nat.reduceDiv, Nat.reduceMod, Nat.reduceAdd, Nat.reduceSub, Int.reduceToNat, jm_b, jm_h, if_true, if_false, Nat.reduceEqDiff, true_and, and_true, Int.natCast_nonneg, Int.toNat_natCast, Int.lt_irrefl, false_implies, and_true, true_and, Int.le_refl, true_implies, bX5_setAfter, bX5_setAfter_0, bX5_setAfter_1, e1, e0, e0']
    exact HH
  · have HH := h1 z
    have an := and32_neg z (show x < 2 ^ 31 by omega)
    have lp := lb_p z hx
    have wc : w32 ((x : Int) + ((lb x : Nat) : Int)) = ((x + lb x : Nat) : Int) := by rw [w32_id (by omega) (by omega)]; omega
    have xb : x + lb x ^^^ x < 2 ^ 17 := Nat.xor_lt_two_pow (by omega) (by omega)
    have xr : xor32 ((x + lb x : Nat) : Int) (x : Int) = ((x + lb x ^^^ x : Nat) : Int) := xor32_n (by omega) (by omega)
    have lz : ¬ ((lb x : Nat) : Int) = 0 := by omega
    have q1 : (((x + lb x ^^^ x : Nat) : Int)).tdiv ((lb x : Nat) : Int) = (((x + lb x ^^^ x) / lb x : Nat) : Int) := rfl
    have ql : (x + lb x ^^^ x) / lb x ≤ x + lb x ^^^ x := Nat.div_le_self _ _
    have q2 : w32 (((x + lb x ^^^ x) / lb x : Nat) : Int) = (((x + lb x ^^^ x) / lb x : Nat) : Int) := by
      generalize (x + lb x ^^^ x) / lb x = u at ql ⊢
      exact w32_id (by omega) (by omega)
    have q3 : shr32 (((x + lb x ^^^ x) / lb x : Nat) : Int) 2 = (((x + lb x ^^^ x) / lb x / 4 : Nat) : Int) := shr32_n (k := 2) (by decide) (by omega)
    have q4 : or32 (((x + lb x ^^^ x) / lb x / 4 : Nat) : Int) ((x + lb x : Nat) : Int) = ((gs x : Nat) : Int) := or32_n (by omega) (by omega)
    refine callOf mX5_setAfter [some (.inl (x)), none, none] rfl (Nat.le_of_ble_eq_true rfl) (atOf mX5_setAfter 0 rfl ?_)
    simp +decide -implicitDefEqProofs -failIfUnchanged only [x_iload, x_lload, x_aload, x_istore, x_astore, x_iinc, x_iconst, x_ldc2, x_iadd, x_isub, x_imul, x_iand, x_ior, x_ixor, x_ishl, x_ishr, x_iushr, x_idiv, x_irem, x_ineg, x_i2b, x_i2l, x_land, x_lor, x_lshl, x_lushr, x_lcmp, x_dupI, x_dupR, x_dup2, x_dup2I, x_icmp_eq, x_if_eq, x_icmp_ne, x_if_ne, x_icmp_lt, x_if_lt, x_icmp_ge, x_if_ge, x_icmp_gt, x_if_gt, x_icmp_le, x_if_le, x_ifnn_s, x_goto, x_fall, x_tsw, x_iaload, x_baload, x_laload, x_aaload, x_iastore, x_bastore, x_lastore, x_aastore, x_alen, x_getf, x_getr, x_getl, x_putf, x_putz, x_putl, x_putr, x_new, x_newa, x_anewa, x_max, x_min, x_abs, x_pop, x_copy, x_call, gr_256_0, gr_256_1, gr_256_2, gr_256_3, gr_256_4, gr_256_5, gr_256_6, gr_256_7, gr_256_8, gr_256_9, gr_258_0, gr_258_1, gr_258_2, gr_258_3, gr_258_4, gr_258_5, gr_258_6, gr_259_0, gr_259_1, gr_259_2, gr_259_3, gr_260_1, gr_260_0, gr_262_0, gr_262_1, gr_262_2, gr_262_3, gr_263_0, gr_263_1, gr_264_2, gr_264_3, gr_264_4, gr_264_5, gr_275_1, gr_275_2, gr_275_3, gr_275_4, gr_275_5, gr_275_6, gr_275_7, gr_300_1, gr_300_2, gr_300_3, gr_300_4, gr_300_5, gr_300_6, gr_300_7, gr_300_8, gr_300_9, gr_300_10, gr_300_11, gr_300_12, gr_300_13, gr_300_14, gr_300_15, gr_300_16, gr_300_17, gr_300_18, gr_300_19, gr_300_20, gr_300_21, gr_300_22, gr_300_23, gr_300_24, gr_300_25, gr_300_26, gr_300_27, gr_300_28, gr_300_29, gr_300_30, gr_300_31, gr_300_32, gr_300_33, gr_300_34, gr_300_35, gr_300_36, gr_300_37, gr_300_38, gr_300_39, gr_300_40, gr_300_41, gr_300_42, gr_300_43, gr_300_44, gr_300_45, gr_300_46, gr_300_56, gr_300_57, gr_300_58, gr_300_59, gr_300_60, gr_300_61, gr_300_62, gr_300_63, gr_300_64, gr_300_65, gr_300_66, gr_0_0, gr_0_3, gr_0_5, gr_0_7, gr_0_11, gr_0_12, gr_0_16, gr_5_1, gr_5_2, gr_5_3, gr_5_4, gr_5_5, gr_5_6, gr_5_7, gr_1, sh_0, sh_1, sh_2, sh_3, sh_4, sh_5, sh_6, sh_7, sh_8, sh_9, sh_10, sh_11, sh_12, sh_13, sh_14, sh_64, sh_65, sh_66, sh_67, sh_68, sh_69, sh_70, sh_71, sh_72, sh_73, sh_74, sh_75, sh_76, sh_77, sh_78, sh_128, sh_129, sh_130, sh_131, sh_132, sh_133, sh_134, sh_135, sh_136, sh_137, sh_138, sh_139, sh_140, sh_141, sh_142, sh_192, sh_193, sh_194, sh_195, sh_196, sh_197, sh_198, sh_199, sh_200, sh_201, sh_202, sh_203, sh_204, sh_205, sh_206, sh_256, sh_257, sh_258, sh_259, sh_260, sh_261, sh_262, sh_263, sh_264, sh_265, sh_266, sh_267, sh_268, sh_269, sh_270, sh_271, sh_272, sh_273, sh_274, sh_275, sh_276, sh_277, sh_278, sh_279, sh_280, sh_281, sh_282, sh_283, sh_284, sh_285, sh_286, sh_287, sh_288, sh_289, sh_300, sh_301, sh_302, sh_303, sh_304, sh_305, sh_306, sh_307, sh_308, sh_309, sh_310, sh_311, sh_312, sh_313, sh_314, sh_315, sh_316, sh_317, sh_318, sh_319, sh_320, sh_321, sh_322, sh_323, sh_324, sh_325, sh_326, sh_327, sh_328, sh_329, sh_330, sh_331, sh_332, sh_333, sh_334, sh_335, sh_336, sh_337, sh_338, sh_339, sh_340, sh_341, sh_342, sh_343, sh_344, sh_345, sh_346, sh_347, sh_348, sh_349, sh_350, sh_351, sh_352, sh_353, sh_354, sh_355, sh_356, sh_357, ldS_265, ldS_266, ldS_267, ldS_268, ldS_269, ldS_270, ldS_271, ldS_272, ldS_273, ldS_274, ldS_276, ldS_277, ldS_278, ldS_279, ldS_280, ldS_281, ldS_282, ldS_283, ldS_284, ldS_286, ldS_287, ldS_288, ldS_289, ldS_302, ldS_303, ldS_304, ldS_305, ldS_306, ldS_307, ldS_309, ldS_310, ldS_311, ldS_312, ldS_313, ldS_314, ldS_315, ldS_316, ldS_318, ldS_319, ldS_320, ldS_321, ldS_322, ldS_323, ldS_324, ldS_325, ldS_326, ldS_327, ldS_328, ldS_329, ldS_330, ldS_331, ldS_332, ldS_333, ldS_334, ldS_335, ldS_336, ldS_337, ldS_339, ldS_340, ldS_341, ldS_342, ldS_343, ldS_344, ldS_345, ldS_346, ldS_347, ldS_348, ldS_349, ldS_350, ldS_351, ldS_352, ldS_353, ldS_355, ldS_356, ldS_2, ldS_3, ldS_4, ldS_7, ldS_8, ldS_9, ldS_10, ldS_11, ldS_12, ldS_13, ldS_14, ldS_66, ldS_67, ldS_68, ldS_71, ldS_72, ldS_73, ldS_74, ldS_75, ldS_76, ldS_77, ldS_78, ldS_130, ldS_131, ldS_132, ldS_135, ldS_136, ldS_137, ldS_138, ldS_139, ldS_140, ldS_141, ldS_142, ldS_194, ldS_195, ldS_196, ldS_199, ldS_200, ldS_201, ldS_202, ldS_203, ldS_204, ldS_205, ldS_206, stB_2, stB_3, upI_oc, upI_co, upI_ne, upI_eq, sh_c, rcvC_1, rcvC_2, rcvC_3, rcvC_4, rcvC_5, rcvC_6, rcvC_7, rcvC_8, rcvC_9, rcvC_10, rcvC_11, rcvC_12, x_iret1, x_iret2, x_ret0, ex_I, ex_V, ldA_k, ldS_x, gI_0, gI_s, gL_0, gL_s, gR_0, gR_s, stl_def, nlg_n, nlg_i, nlg_r, setl_0, setl_s, nth_0, nth_s, List.length_cons, List.length_nil, true_or, or_true, true_implies, false_implies, Int.reduceLE, Int.reduceLT, Int.reduceMod, Int.le_refl, Int.cast_ofNat_Int, sh4_0, sh4_1, sh4_2, sh4_3, sh4_4, rcv_0, rcv_9, spl_0, spl_s, List.getD_cons_zero, List.getD_cons_succ, List.take_zero, List.drop_zero, Nat.reduceLT, Nat.reduceDiv, Nat.reduceMod, Nat.reduceAdd, Nat.reduceSub, Int.reduceToNat, jm_b, jm_h, if_true, if_false, Nat.reduceEqDiff, true_and, and_true, Int.natCast_nonneg, Int.toNat_natCast, Int.lt_irrefl, false_implies, and_true, true_and, Int.le_refl, true_implies, bX5_setAfter, bX5_setAfter_0, bX5_setAfter_1, wn, an, wc, xr, lz, q1, q2, q3, q4]
    first | exact HH | exact fun _ => ⟨by omega, HH⟩
end SETS
