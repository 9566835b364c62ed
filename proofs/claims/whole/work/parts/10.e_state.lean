/-! ===== breath, price, the class's deeds ===== -/
def clp (v : Int32) : Nat := if v < 1 then 1 else if 20 < v then 20 else v.toNatClampNeg
theorem clp_in (v : Int32) : 1 ≤ clp v ∧ clp v ≤ 20 := by
  unfold clp
  by_cases h1 : v < 1
  · rw [if_pos h1]; omega
  · rw [if_neg h1]
    by_cases h2 : 20 < v
    · rw [if_pos h2]; omega
    · rw [if_neg h2]
      rw [Int32.lt_iff_toInt_lt, show (1 : Int32).toInt = 1 from rfl] at h1
      rw [Int32.lt_iff_toInt_lt, show (20 : Int32).toInt = 20 from rfl] at h2
      have : v.toNatClampNeg = v.toInt.toNat := rfl
      omega
theorem clp_eq {v : Int32} (h1 : ¬ v < 1) (h2 : ¬ 20 < v) : v = nI (clp v) := by
  rw [clp, if_neg h1, if_neg h2]
  obtain ⟨j, hj, rfl⟩ := nI_of (x := v) (fun h => h1 (by
    rw [Int32.lt_iff_toInt_lt, show (1 : Int32).toInt = 1 from rfl]
    rw [Int32.lt_iff_toInt_lt, show (0 : Int32).toInt = 0 from rfl] at h
    omega))
  rw [nI_clamp hj]
theorem clp_c (v : Int32) : (if nI 1 < (if v < nI 20 then v else nI 20) then (if v < nI 20 then v else nI 20) else nI 1) = nI (clp v) := by
  by_cases h2 : v < nI 20
  · rw [if_pos h2]
    by_cases h1 : nI 1 < v
    · rw [if_pos h1]
      refine clp_eq (fun h => ?_) (fun h => ?_)
      · rw [Int32.lt_iff_toInt_lt] at h h1
        exact absurd (Int.lt_trans h h1) (Int.lt_irrefl _)
      · rw [Int32.lt_iff_toInt_lt] at h h2
        exact absurd (Int.lt_trans h h2) (Int.lt_irrefl _)
    · rw [if_neg h1]
      by_cases h3 : v < 1
      · rw [clp, if_pos h3]
      · have e : v = 1 := by
          rw [Int32.lt_iff_toInt_lt, nI_toInt (by omega)] at h1
          rw [Int32.lt_iff_toInt_lt, show (1 : Int32).toInt = 1 from rfl] at h3
          apply Int32.toInt_inj.mp
          rw [show (1 : Int32).toInt = 1 from rfl]
          omega
        subst e
        decide +kernel
  · rw [if_neg h2, if_pos (by decide +kernel)]
    by_cases h3 : v < 1
    · rw [Int32.lt_iff_toInt_lt, nI_toInt (by omega)] at h2
      rw [Int32.lt_iff_toInt_lt, show (1 : Int32).toInt = 1 from rfl] at h3
      omega
    · by_cases h4 : 20 < v
      · rw [clp, if_neg h3, if_pos h4]
      · have e : v = 20 := by
          rw [Int32.lt_iff_toInt_lt, nI_toInt (by omega)] at h2
          rw [Int32.lt_iff_toInt_lt, show (20 : Int32).toInt = 20 from rfl] at h4
          apply Int32.toInt_inj.mp
          rw [show (20 : Int32).toInt = 20 from rfl]
          omega
        subst e
        decide +kernel
def brth (V : VW) (C : List Int32) (d dep wh si hr : Nat) : Nat :=
  let v := clp (lawV C (nI dep) (nI wh) (nI si) (if V 6 d = 3 then nI 0 else nI hr))
  if V 6 d = 1 then (if 1 < v - 1 then v - 1 else 1) else if V 6 d = 2 then v + (if 4 < dep then 2 else 1) else v
theorem brth_in (V : VW) (C : List Int32) (d dep wh si hr : Nat) : 1 ≤ brth V C d dep wh si hr ∧ brth V C d dep wh si hr ≤ 22 := by
  unfold brth
  have := clp_in (lawV C (nI dep) (nI wh) (nI si) (if V 6 d = 3 then nI 0 else nI hr))
  simp only
  generalize clp (lawV C (nI dep) (nI wh) (nI si) (if V 6 d = 3 then nI 0 else nI hr)) = v at this ⊢
  split
  · split <;> omega
  · split
    · split <;> omega
    · omega
def OKC (C : List Int32) : Prop := okc C 0 ∧ C.length ≤ 1000
def A129 : Nat → Nat → Nat → Prop := fun f _ _ => f = 129
section ST
variable {w : Wd} {c i : Nat} {V S : VW} {C : List Int32}
theorem c_breathOf (h : RC w c V C) (hV : OKV V) (hC : OKC C) {d dep : Nat} (hd : d < nD V) (hdep : dep ≤ 9) (wh si hr : Nat) : ∃ a, f_X0_breathOf [(.inr (.inr (some (0, c)))), (.inl (nI d)), (.inl (nI dep)), (.inl (nI wh)), (.inl (nI si)), (.inl (nI hr))] w = some (nI (brth V C d dep wh si hr), sA w 129 c a) := by
  have b4 := hV.D
  have hk := hV.kind d
  obtain ⟨a, ha⟩ := c_value h (by omega) hC.1 hC.2 (nI dep) (nI wh) (nI si) (if V 6 d = 3 then nI 0 else nI hr)
  refine ⟨a, ?_⟩
  unfold brth
  have hv := clp_in (lawV C (nI dep) (nI wh) (nI si) (if V 6 d = 3 then nI 0 else nI hr))
  by_cases h3 : V 6 d = 3
  · have g1 : ¬ V 6 d = 1 := by omega
    have g2 : ¬ V 6 d = 2 := by omega
    rw [if_pos h3] at ha hv
    simp (disch := omega) only [lgI_0, lgI_s, lgJ_0, lgJ_s, lgR_0, lgR_s, ls1_0, ls1_1, ls1_s, ls2_0, ls2_1, ls2_s, lk_0, lk_s, isLg_n, isLg_I, isLg_J, isLg_R, pI_c, pJ_c, pR_c, pO_c, pV_I, pV_R, x_ci, x_cl, x_cn, x_is, x_ls, x_as, x_kill, x_iadd, x_isub, x_imul, x_iand, x_ior, x_ixor, x_ishl, x_ishr, x_iushr, x_idiv, x_irem, x_ineg, x_ladd, x_lsub, x_lmul, x_land, x_lor, x_ldiv, x_lrem, x_lcmp, x_lshl, x_lshr, x_i2l, x_l2i, x_i2c, x_ifeq, x_iceq, x_ifne, x_icne, x_iflt, x_iclt, x_ifge, x_icge, x_ifgt, x_icgt, x_ifle, x_icle, x_gf, x_pf, x_pz, x_pj, x_pe, x_aa, x_ja, x_ra, x_sa, x_sj, x_len, x_ge, x_ace, x_acn, x_max, x_min, x_sw, x_kn, x_tx, x_lenS, x_kna, x_ecd, x_sv, x_sc, x_sb, x_i2b, x_il0, x_ll0, x_al0, x_inc0, x_il1, x_ll1, x_al1, x_inc1, x_il2, x_ll2, x_al2, x_inc2, x_il3, x_ll3, x_al3, x_inc3, x_il4, x_ll4, x_al4, x_inc4, x_il5, x_ll5, x_al5, x_inc5, x_il6, x_ll6, x_al6, x_inc6, x_il7, x_ll7, x_al7, x_inc7, x_il8, x_ll8, x_al8, x_inc8, x_il9, x_ll9, x_al9, x_inc9, x_il10, x_ll10, x_al10, x_inc10, x_il11, x_ll11, x_al11, x_inc11, x_il12, x_ll12, x_al12, x_inc12, x_il13, x_ll13, x_al13, x_inc13, x_dupI, x_popI, x_dupR, x_popR, x_dup2IR, x_dup2II, x_goto, x_ret, x_iret, x_zret, x_jret, x_rret, x_nulN, x_nulS, thn_s, x_call0, x_call1, x_callV1, x_call2, x_callV2, x_call3, x_callV3, x_call4, x_callV4, x_call5, x_callV5, x_call6, x_callV6, x_call7, x_callV7, tl_I, tl_J, tl_R, tl_U, stw_0, stw_I, stw_J, stw_R, ble_0, ble_1, ble_2, ble_3, ble_4, ble_5, ble_6, ble_7, ble_8, beq_r, rk_n, rk_s, fv_0_0, fv_0_1, fv_0_2, fv_0_3, fv_0_4, fv_0_5, fv_0_6, fv_0_7, fv_0_8, fv_0_9, fv_0_10, fv_0_11, fv_0_12, fv_0_13, fv_0_14, fv_0_15, fv_1_0, fv_1_1, fv_1_2, fv_1_3, fv_1_4, fv_2_0, fv_2_1, fv_2_2, fv_3_0, fv_3_1, fv_3_2, fv_4_0, fv_4_1, fv_4_2, fv_4_3, fv_4_4, fv_4_5, fv_5_0, fv_6_0, fv_6_1, fv_6_2, fv_7_0, fv_7_1, fv_7_2, fv_7_3, fv_7_4, fv_7_5, fv_7_6, fv_7_7, fv_7_8, fv_8_0, fv_8_1, fv_8_2, fv_8_3, fv_8_4, fv_8_5, fv_8_6, fv_8_7, fv_9_0, fv_9_1, fv_9_2, fv_9_3, fv_9_4, fv_9_5, fv_9_6, fv_9_7, fv_9_8, fv_9_9, fv_9_10, fv_9_11, fv_9_12, fv_9_13, fv_9_14, fv_10_0, fv_10_1, fv_10_2, fv_10_3, fv_10_4, fv_10_5, fv_10_6, fv_10_7, fv_10_8, fv_10_9, fv_10_10, fv_10_11, fv_10_12, fv_10_13, fv_10_14, fv_10_15, fv_10_16, fv_10_17, fv_10_18, fv_10_19, fv_10_20, fv_10_21, fv_10_22, fv_10_23, fv_10_24, fv_10_25, fv_10_26, fv_10_27, fv_10_28, kt_33, al_33, kt_34, al_34, kt_36, al_36, kt_37, al_37, kt_38, al_38, kt_39, al_39, kt_41, al_41, kt_42, al_42, kt_43, al_43, kt_45, al_45, kt_65, al_65, kt_66, al_66, kt_67, al_67, kt_68, al_68, kt_97, al_97, kt_98, al_98, kt_128, al_128, kt_129, al_129, kt_160, al_160, kt_163, al_163, kt_164, al_164, kt_192, al_192, kt_260, al_260, kt_261, al_261, kt_262, al_262, kt_263, al_263, kt_264, al_264, kt_288, al_288, kt_330, al_330, kt_331, al_331, kt_333, al_333, kt_334, al_334, kt_353, al_353, kt_356, al_356, kt_357, al_357, kt_358, al_358, kt_361, al_361, kt_362, al_362, kt_363, al_363, kt_364, al_364, kt_366, al_366, kt_367, al_367, kt_368, al_368, kt_369, al_369, kt_373, al_373, kt_374, al_374, kt_375, al_375, kt_376, al_376, kt_378, al_378, kt_379, al_379, Option.bind_some, Option.map_some, Option.map_none, cond_true, cond_false, List.nil_append, Bool.and_true, Bool.true_and, Bool.or_true, Bool.true_or, Nat.reduceAdd, Nat.reduceMul, ↓reduceIte, en_X0_breathOf, B_X0_breathOf_75, B_X0_breathOf_31, B_X0_breathOf_0, lit_n, ib_n, nI_add, pk_mul, nI_sub, nI_eq, nI_leI, nI_ltI, nI_clamp, m1_eq, m1_eq', m1_lt, m1_lt', m1_le, m1_le', nI_or, nI_and, nI_1shl, nI_shr, and31, bit_n, nI_b0, nI_b1, Nat.reduceEqDiff, or_true, true_or, or_false, false_or, not_true_eq_false, not_false_eq_true, Nat.le_refl, Nat.lt_irrefl, Nat.zero_le, Nat.not_lt_zero, h.kind hd, h3, ha, clp_c, sI_1, sI_2, sA_1, sA_2, sJ_1, sJ_21, sJ_22, sE_1, sE_21, sE_22, false_and, and_false, true_and, and_true, and_self, ↓reduceIte, Nat.reduceEqDiff, Nat.reduceLeDiff]
  · rw [if_neg h3] at ha hv
    simp (disch := omega) only [lgI_0, lgI_s, lgJ_0, lgJ_s, lgR_0, lgR_s, ls1_0, ls1_1, ls1_s, ls2_0, ls2_1, ls2_s, lk_0, lk_s, isLg_n, isLg_I, isLg_J, isLg_R, pI_c, pJ_c, pR_c, pO_c, pV_I, pV_R, x_ci, x_cl, x_cn, x_is, x_ls, x_as, x_kill, x_iadd, x_isub, x_imul, x_iand, x_ior, x_ixor, x_ishl, x_ishr, x_iushr, x_idiv, x_irem, x_ineg, x_ladd, x_lsub, x_lmul, x_land, x_lor, x_ldiv, x_lrem, x_lcmp, x_lshl, x_lshr, x_i2l, x_l2i, x_i2c, x_ifeq, x_iceq, x_ifne, x_icne, x_iflt, x_iclt, x_ifge, x_icge, x_ifgt, x_icgt, x_ifle, x_icle, x_gf, x_pf, x_pz, x_pj, x_pe, x_aa, x_ja, x_ra, x_sa, x_sj, x_len, x_ge, x_ace, x_acn, x_max, x_min, x_sw, x_kn, x_tx, x_lenS, x_kna, x_ecd, x_sv, x_sc, x_sb, x_i2b, x_il0, x_ll0, x_al0, x_inc0, x_il1, x_ll1, x_al1, x_inc1, x_il2, x_ll2, x_al2, x_inc2, x_il3, x_ll3, x_al3, x_inc3, x_il4, x_ll4, x_al4, x_inc4, x_il5, x_ll5, x_al5, x_inc5, x_il6, x_ll6, x_al6, x_inc6, x_il7, x_ll7, x_al7, x_inc7, x_il8, x_ll8, x_al8, x_inc8, x_il9, x_ll9, x_al9, x_inc9, x_il10, x_ll10, x_al10, x_inc10, x_il11, x_ll11, x_al11, x_inc11, x_il12, x_ll12, x_al12, x_inc12, x_il13, x_ll13, x_al13, x_inc13, x_dupI, x_popI, x_dupR, x_popR, x_dup2IR, x_dup2II, x_goto, x_ret, x_iret, x_zret, x_jret, x_rret, x_nulN, x_nulS, thn_s, x_call0, x_call1, x_callV1, x_call2, x_callV2, x_call3, x_callV3, x_call4, x_callV4, x_call5, x_callV5, x_call6, x_callV6, x_call7, x_callV7, tl_I, tl_J, tl_R, tl_U, stw_0, stw_I, stw_J, stw_R, ble_0, ble_1, ble_2, ble_3, ble_4, ble_5, ble_6, ble_7, ble_8, beq_r, rk_n, rk_s, fv_0_0, fv_0_1, fv_0_2, fv_0_3, fv_0_4, fv_0_5, fv_0_6, fv_0_7, fv_0_8, fv_0_9, fv_0_10, fv_0_11, fv_0_12, fv_0_13, fv_0_14, fv_0_15, fv_1_0, fv_1_1, fv_1_2, fv_1_3, fv_1_4, fv_2_0, fv_2_1, fv_2_2, fv_3_0, fv_3_1, fv_3_2, fv_4_0, fv_4_1, fv_4_2, fv_4_3, fv_4_4, fv_4_5, fv_5_0, fv_6_0, fv_6_1, fv_6_2, fv_7_0, fv_7_1, fv_7_2, fv_7_3, fv_7_4, fv_7_5, fv_7_6, fv_7_7, fv_7_8, fv_8_0, fv_8_1, fv_8_2, fv_8_3, fv_8_4, fv_8_5, fv_8_6, fv_8_7, fv_9_0, fv_9_1, fv_9_2, fv_9_3, fv_9_4, fv_9_5, fv_9_6, fv_9_7, fv_9_8, fv_9_9, fv_9_10, fv_9_11, fv_9_12, fv_9_13, fv_9_14, fv_10_0, fv_10_1, fv_10_2, fv_10_3, fv_10_4, fv_10_5, fv_10_6, fv_10_7, fv_10_8, fv_10_9, fv_10_10, fv_10_11, fv_10_12, fv_10_13, fv_10_14, fv_10_15, fv_10_16, fv_10_17, fv_10_18, fv_10_19, fv_10_20, fv_10_21, fv_10_22, fv_10_23, fv_10_24, fv_10_25, fv_10_26, fv_10_27, fv_10_28, kt_33, al_33, kt_34, al_34, kt_36, al_36, kt_37, al_37, kt_38, al_38, kt_39, al_39, kt_41, al_41, kt_42, al_42, kt_43, al_43, kt_45, al_45, kt_65, al_65, kt_66, al_66, kt_67, al_67, kt_68, al_68, kt_97, al_97, kt_98, al_98, kt_128, al_128, kt_129, al_129, kt_160, al_160, kt_163, al_163, kt_164, al_164, kt_192, al_192, kt_260, al_260, kt_261, al_261, kt_262, al_262, kt_263, al_263, kt_264, al_264, kt_288, al_288, kt_330, al_330, kt_331, al_331, kt_333, al_333, kt_334, al_334, kt_353, al_353, kt_356, al_356, kt_357, al_357, kt_358, al_358, kt_361, al_361, kt_362, al_362, kt_363, al_363, kt_364, al_364, kt_366, al_366, kt_367, al_367, kt_368, al_368, kt_369, al_369, kt_373, al_373, kt_374, al_374, kt_375, al_375, kt_376, al_376, kt_378, al_378, kt_379, al_379, Option.bind_some, Option.map_some, Option.map_none, cond_true, cond_false, List.nil_append, Bool.and_true, Bool.true_and, Bool.or_true, Bool.true_or, Nat.reduceAdd, Nat.reduceMul, ↓reduceIte, en_X0_breathOf, B_X0_breathOf_75, B_X0_breathOf_31, B_X0_breathOf_0, lit_n, ib_n, nI_add, pk_mul, nI_sub, nI_eq, nI_leI, nI_ltI, nI_clamp, m1_eq, m1_eq', m1_lt, m1_lt', m1_le, m1_le', nI_or, nI_and, nI_1shl, nI_shr, and31, bit_n, nI_b0, nI_b1, Nat.reduceEqDiff, or_true, true_or, or_false, false_or, not_true_eq_false, not_false_eq_true, Nat.le_refl, Nat.lt_irrefl, Nat.zero_le, Nat.not_lt_zero, h.kind hd, h3, ha, clp_c, sI_1, sI_2, sA_1, sA_2, sJ_1, sJ_21, sJ_22, sE_1, sE_21, sE_22, false_and, and_false, true_and, and_true, and_self, ↓reduceIte, Nat.reduceEqDiff, Nat.reduceLeDiff]
    by_cases h1 : V 6 d = 1
    · simp only [if_pos h1]
      by_cases h5 : 1 < clp (lawV C (nI dep) (nI wh) (nI si) (nI hr)) - 1
      · rw [if_pos h5, if_pos h5]
      · rw [if_neg h5, if_neg h5]
    · simp only [if_neg h1]
      by_cases h2 : V 6 d = 2
      · simp only [if_pos h2]
        by_cases h5 : dep ≤ 4
        · rw [if_pos h5, if_neg (by omega)]
        · rw [if_neg h5, if_pos (by omega)]
      · simp only [if_neg h2]
def price (V : VW) (C : List Int32) (S : VW) (d k hr : Nat) : Nat := V 4 k * brth V C d (max (V 1 (V 2 k)) (V 1 (V 3 k))) (rain V (S 0 0)) (S 7 k) hr
theorem price_le (hV : OKV V) (d k hr : Nat) : price V C S d k hr ≤ 198 := by
  have := Nat.mul_le_mul (hV.len k) (brth_in V C d (max (V 1 (V 2 k)) (V 1 (V 3 k))) (rain V (S 0 0)) (S 7 k) hr).2
  exact this
theorem c_price (h : RC w c V C) (hs : RS w i V S) (hV : OKV V) (hS : OKS V S) (hC : OKC C) {d k : Nat} (hd : d < nD V) (hk : k < nW V) (hr : Nat) : ∃ a, f_X7_price [(.inr (.inr (some (7, i)))), (.inr (.inr (some (0, c)))), (.inl (nI d)), (.inl (nI k)), (.inl (nI hr))] w = some (nI (price V C S d k hr), sA w 129 c a) := by
  have b8 := hV.W
  have b0 := hS.hour
  have d1 := hV.dep (V 2 k)
  have d2 := hV.dep (V 3 k)
  obtain ⟨a, ha⟩ := c_breathOf h hV hC hd (show max (V 1 (V 2 k)) (V 1 (V 3 k)) ≤ 9 from by omega) (rain V (S 0 0)) (S 7 k) hr
  refine ⟨a, ?_⟩
  simp (disch := omega) only [lgI_0, lgI_s, lgJ_0, lgJ_s, lgR_0, lgR_s, ls1_0, ls1_1, ls1_s, ls2_0, ls2_1, ls2_s, lk_0, lk_s, isLg_n, isLg_I, isLg_J, isLg_R, pI_c, pJ_c, pR_c, pO_c, pV_I, pV_R, x_ci, x_cl, x_cn, x_is, x_ls, x_as, x_kill, x_iadd, x_isub, x_imul, x_iand, x_ior, x_ixor, x_ishl, x_ishr, x_iushr, x_idiv, x_irem, x_ineg, x_ladd, x_lsub, x_lmul, x_land, x_lor, x_ldiv, x_lrem, x_lcmp, x_lshl, x_lshr, x_i2l, x_l2i, x_i2c, x_ifeq, x_iceq, x_ifne, x_icne, x_iflt, x_iclt, x_ifge, x_icge, x_ifgt, x_icgt, x_ifle, x_icle, x_gf, x_pf, x_pz, x_pj, x_pe, x_aa, x_ja, x_ra, x_sa, x_sj, x_len, x_ge, x_ace, x_acn, x_max, x_min, x_sw, x_kn, x_tx, x_lenS, x_kna, x_ecd, x_sv, x_sc, x_sb, x_i2b, x_il0, x_ll0, x_al0, x_inc0, x_il1, x_ll1, x_al1, x_inc1, x_il2, x_ll2, x_al2, x_inc2, x_il3, x_ll3, x_al3, x_inc3, x_il4, x_ll4, x_al4, x_inc4, x_il5, x_ll5, x_al5, x_inc5, x_il6, x_ll6, x_al6, x_inc6, x_il7, x_ll7, x_al7, x_inc7, x_il8, x_ll8, x_al8, x_inc8, x_il9, x_ll9, x_al9, x_inc9, x_il10, x_ll10, x_al10, x_inc10, x_il11, x_ll11, x_al11, x_inc11, x_il12, x_ll12, x_al12, x_inc12, x_il13, x_ll13, x_al13, x_inc13, x_dupI, x_popI, x_dupR, x_popR, x_dup2IR, x_dup2II, x_goto, x_ret, x_iret, x_zret, x_jret, x_rret, x_nulN, x_nulS, thn_s, x_call0, x_call1, x_callV1, x_call2, x_callV2, x_call3, x_callV3, x_call4, x_callV4, x_call5, x_callV5, x_call6, x_callV6, x_call7, x_callV7, tl_I, tl_J, tl_R, tl_U, stw_0, stw_I, stw_J, stw_R, ble_0, ble_1, ble_2, ble_3, ble_4, ble_5, ble_6, ble_7, ble_8, beq_r, rk_n, rk_s, fv_0_0, fv_0_1, fv_0_2, fv_0_3, fv_0_4, fv_0_5, fv_0_6, fv_0_7, fv_0_8, fv_0_9, fv_0_10, fv_0_11, fv_0_12, fv_0_13, fv_0_14, fv_0_15, fv_1_0, fv_1_1, fv_1_2, fv_1_3, fv_1_4, fv_2_0, fv_2_1, fv_2_2, fv_3_0, fv_3_1, fv_3_2, fv_4_0, fv_4_1, fv_4_2, fv_4_3, fv_4_4, fv_4_5, fv_5_0, fv_6_0, fv_6_1, fv_6_2, fv_7_0, fv_7_1, fv_7_2, fv_7_3, fv_7_4, fv_7_5, fv_7_6, fv_7_7, fv_7_8, fv_8_0, fv_8_1, fv_8_2, fv_8_3, fv_8_4, fv_8_5, fv_8_6, fv_8_7, fv_9_0, fv_9_1, fv_9_2, fv_9_3, fv_9_4, fv_9_5, fv_9_6, fv_9_7, fv_9_8, fv_9_9, fv_9_10, fv_9_11, fv_9_12, fv_9_13, fv_9_14, fv_10_0, fv_10_1, fv_10_2, fv_10_3, fv_10_4, fv_10_5, fv_10_6, fv_10_7, fv_10_8, fv_10_9, fv_10_10, fv_10_11, fv_10_12, fv_10_13, fv_10_14, fv_10_15, fv_10_16, fv_10_17, fv_10_18, fv_10_19, fv_10_20, fv_10_21, fv_10_22, fv_10_23, fv_10_24, fv_10_25, fv_10_26, fv_10_27, fv_10_28, kt_33, al_33, kt_34, al_34, kt_36, al_36, kt_37, al_37, kt_38, al_38, kt_39, al_39, kt_41, al_41, kt_42, al_42, kt_43, al_43, kt_45, al_45, kt_65, al_65, kt_66, al_66, kt_67, al_67, kt_68, al_68, kt_97, al_97, kt_98, al_98, kt_128, al_128, kt_129, al_129, kt_160, al_160, kt_163, al_163, kt_164, al_164, kt_192, al_192, kt_260, al_260, kt_261, al_261, kt_262, al_262, kt_263, al_263, kt_264, al_264, kt_288, al_288, kt_330, al_330, kt_331, al_331, kt_333, al_333, kt_334, al_334, kt_353, al_353, kt_356, al_356, kt_357, al_357, kt_358, al_358, kt_361, al_361, kt_362, al_362, kt_363, al_363, kt_364, al_364, kt_366, al_366, kt_367, al_367, kt_368, al_368, kt_369, al_369, kt_373, al_373, kt_374, al_374, kt_375, al_375, kt_376, al_376, kt_378, al_378, kt_379, al_379, Option.bind_some, Option.map_some, Option.map_none, cond_true, cond_false, List.nil_append, Bool.and_true, Bool.true_and, Bool.or_true, Bool.true_or, Nat.reduceAdd, Nat.reduceMul, ↓reduceIte, en_X7_price, B_X7_price_0, lit_n, ib_n, nI_add, pk_mul, nI_sub, nI_eq, nI_leI, nI_ltI, nI_clamp, m1_eq, m1_eq', m1_lt, m1_lt', m1_le, m1_le', nI_or, nI_and, nI_1shl, nI_shr, and31, bit_n, nI_b0, nI_b1, Nat.reduceEqDiff, or_true, true_or, or_false, false_or, not_true_eq_false, not_false_eq_true, Nat.le_refl, Nat.lt_irrefl, Nat.zero_le, Nat.not_lt_zero, h.len hk, hs.hour, hs.silt (show k < 8 from by omega), c_depthOf h hV hk, c_rainAt h hV, ha]
  rfl
theorem c_breathAhead (h : RC w c V C) (hs : RS w i V S) (hV : OKV V) (hS : OKS V S) (hC : OKC C) {d : Nat} (hd : d < nD V) (hp : S 4 d ≠ 0) {t : Nat} (ht : t ≤ 1000) : ∃ a, f_X7_breathAhead [(.inr (.inr (some (7, i)))), (.inr (.inr (some (0, c)))), (.inl (nI d)), (.inl (nI t))] w = some (nI (brth V C d (V 1 (S 4 d)) (rain V (S 0 0 + t)) 0 (S 6 d + t)), sA w 129 c a) := by
  have b4 := hV.D
  have b7 := hV.P
  have b0 := hS.hour
  have d1 := hV.dep (S 4 d)
  have hp2 := hS.at d
  obtain ⟨a, ha⟩ := c_breathOf h hV hC hd d1 (rain V (S 0 0 + t)) 0 (S 6 d + t)
  refine ⟨a, ?_⟩
  have e : atI V (S 4 d) = nI (S 4 d) := if_neg (by omega)
  have g : decide (S 4 d ≠ 0) = true := decide_eq_true hp
  simp (disch := omega) only [lgI_0, lgI_s, lgJ_0, lgJ_s, lgR_0, lgR_s, ls1_0, ls1_1, ls1_s, ls2_0, ls2_1, ls2_s, lk_0, lk_s, isLg_n, isLg_I, isLg_J, isLg_R, pI_c, pJ_c, pR_c, pO_c, pV_I, pV_R, x_ci, x_cl, x_cn, x_is, x_ls, x_as, x_kill, x_iadd, x_isub, x_imul, x_iand, x_ior, x_ixor, x_ishl, x_ishr, x_iushr, x_idiv, x_irem, x_ineg, x_ladd, x_lsub, x_lmul, x_land, x_lor, x_ldiv, x_lrem, x_lcmp, x_lshl, x_lshr, x_i2l, x_l2i, x_i2c, x_ifeq, x_iceq, x_ifne, x_icne, x_iflt, x_iclt, x_ifge, x_icge, x_ifgt, x_icgt, x_ifle, x_icle, x_gf, x_pf, x_pz, x_pj, x_pe, x_aa, x_ja, x_ra, x_sa, x_sj, x_len, x_ge, x_ace, x_acn, x_max, x_min, x_sw, x_kn, x_tx, x_lenS, x_kna, x_ecd, x_sv, x_sc, x_sb, x_i2b, x_il0, x_ll0, x_al0, x_inc0, x_il1, x_ll1, x_al1, x_inc1, x_il2, x_ll2, x_al2, x_inc2, x_il3, x_ll3, x_al3, x_inc3, x_il4, x_ll4, x_al4, x_inc4, x_il5, x_ll5, x_al5, x_inc5, x_il6, x_ll6, x_al6, x_inc6, x_il7, x_ll7, x_al7, x_inc7, x_il8, x_ll8, x_al8, x_inc8, x_il9, x_ll9, x_al9, x_inc9, x_il10, x_ll10, x_al10, x_inc10, x_il11, x_ll11, x_al11, x_inc11, x_il12, x_ll12, x_al12, x_inc12, x_il13, x_ll13, x_al13, x_inc13, x_dupI, x_popI, x_dupR, x_popR, x_dup2IR, x_dup2II, x_goto, x_ret, x_iret, x_zret, x_jret, x_rret, x_nulN, x_nulS, thn_s, x_call0, x_call1, x_callV1, x_call2, x_callV2, x_call3, x_callV3, x_call4, x_callV4, x_call5, x_callV5, x_call6, x_callV6, x_call7, x_callV7, tl_I, tl_J, tl_R, tl_U, stw_0, stw_I, stw_J, stw_R, ble_0, ble_1, ble_2, ble_3, ble_4, ble_5, ble_6, ble_7, ble_8, beq_r, rk_n, rk_s, fv_0_0, fv_0_1, fv_0_2, fv_0_3, fv_0_4, fv_0_5, fv_0_6, fv_0_7, fv_0_8, fv_0_9, fv_0_10, fv_0_11, fv_0_12, fv_0_13, fv_0_14, fv_0_15, fv_1_0, fv_1_1, fv_1_2, fv_1_3, fv_1_4, fv_2_0, fv_2_1, fv_2_2, fv_3_0, fv_3_1, fv_3_2, fv_4_0, fv_4_1, fv_4_2, fv_4_3, fv_4_4, fv_4_5, fv_5_0, fv_6_0, fv_6_1, fv_6_2, fv_7_0, fv_7_1, fv_7_2, fv_7_3, fv_7_4, fv_7_5, fv_7_6, fv_7_7, fv_7_8, fv_8_0, fv_8_1, fv_8_2, fv_8_3, fv_8_4, fv_8_5, fv_8_6, fv_8_7, fv_9_0, fv_9_1, fv_9_2, fv_9_3, fv_9_4, fv_9_5, fv_9_6, fv_9_7, fv_9_8, fv_9_9, fv_9_10, fv_9_11, fv_9_12, fv_9_13, fv_9_14, fv_10_0, fv_10_1, fv_10_2, fv_10_3, fv_10_4, fv_10_5, fv_10_6, fv_10_7, fv_10_8, fv_10_9, fv_10_10, fv_10_11, fv_10_12, fv_10_13, fv_10_14, fv_10_15, fv_10_16, fv_10_17, fv_10_18, fv_10_19, fv_10_20, fv_10_21, fv_10_22, fv_10_23, fv_10_24, fv_10_25, fv_10_26, fv_10_27, fv_10_28, kt_33, al_33, kt_34, al_34, kt_36, al_36, kt_37, al_37, kt_38, al_38, kt_39, al_39, kt_41, al_41, kt_42, al_42, kt_43, al_43, kt_45, al_45, kt_65, al_65, kt_66, al_66, kt_67, al_67, kt_68, al_68, kt_97, al_97, kt_98, al_98, kt_128, al_128, kt_129, al_129, kt_160, al_160, kt_163, al_163, kt_164, al_164, kt_192, al_192, kt_260, al_260, kt_261, al_261, kt_262, al_262, kt_263, al_263, kt_264, al_264, kt_288, al_288, kt_330, al_330, kt_331, al_331, kt_333, al_333, kt_334, al_334, kt_353, al_353, kt_356, al_356, kt_357, al_357, kt_358, al_358, kt_361, al_361, kt_362, al_362, kt_363, al_363, kt_364, al_364, kt_366, al_366, kt_367, al_367, kt_368, al_368, kt_369, al_369, kt_373, al_373, kt_374, al_374, kt_375, al_375, kt_376, al_376, kt_378, al_378, kt_379, al_379, Option.bind_some, Option.map_some, Option.map_none, cond_true, cond_false, List.nil_append, Bool.and_true, Bool.true_and, Bool.or_true, Bool.true_or, Nat.reduceAdd, Nat.reduceMul, ↓reduceIte, en_X7_breathAhead, B_X7_breathAhead_24, B_X7_breathAhead_0, lit_n, ib_n, nI_add, pk_mul, nI_sub, nI_eq, nI_leI, nI_ltI, nI_clamp, m1_eq, m1_eq', m1_lt, m1_lt', m1_le, m1_le', nI_or, nI_and, nI_1shl, nI_shr, and31, bit_n, nI_b0, nI_b1, Nat.reduceEqDiff, or_true, true_or, or_false, false_or, not_true_eq_false, not_false_eq_true, Nat.le_refl, Nat.lt_irrefl, Nat.zero_le, Nat.not_lt_zero, hs.at (show d < 4 from by omega), hs.hour, hs.und (show d < 4 from by omega), c_isUnderWater h hs hV (show d < 4 from by omega) hS, g, b2_t, e, h.dep (show S 4 d < nP V from by omega), c_rainAt h hV, ha, ↓reduceIte, Nat.reduceEqDiff]
/-- the end across a way, from a place -/
def across (V : VW) (k p : Nat) : Option Nat := if V 2 k = p then some (V 3 k) else if V 3 k = p then some (V 2 k) else none
def up1 (S : VW) (j k v : Nat) : VW := fun j' k' => if j' = j ∧ k' = k then v else S j' k'
theorem up1_j {S : VW} {j k v j' k' : Nat} (h : j' ≠ j) : up1 S j k v j' k' = S j' k' := if_neg fun q => h q.1
theorem up1_n {S : VW} {j k v j' k' : Nat} : up1 S j k v j' k' = if j' = j ∧ k' = k then v else S j' k' := rfl
theorem up1_s {S : VW} {j k v : Nat} : up1 S j k v j k = v := if_pos ⟨rfl, rfl⟩
/-- who goes through a way: where to, at what price; the state behind it -/
def goS (V : VW) (C : List Int32) (S : VW) (d k q : Nat) : VW :=
  let p := price V C S d k (S 6 d)
  up1 (up1 (up1 (up1 S 4 d q) 5 d (S 5 d - p)) 1 0 (S 1 0 + p)) 7 k (min 9 (S 7 k + (if V 5 k = 0 then 2 else 3)))
def mayGo (V : VW) (C : List Int32) (S : VW) (d k : Nat) : Option Nat :=
  if drw S d then none else match across V k (S 4 d) with
    | none => none
    | some q => if price V C S d k (S 6 d) ≤ S 5 d then some q else none
theorem across_lt (hV : OKV V) {k p q : Nat} (hk : k < nW V) (h : across V k p = some q) : q < nP V := by
  unfold across at h
  split at h
  · cases h; exact hV.e2 hk
  · split at h
    · cases h; exact hV.e1 hk
    · cases h
theorem mayGo_lt (hV : OKV V) {d k q : Nat} (hk : k < nW V) (h : mayGo V C S d k = some q) : q < nP V ∧ price V C S d k (S 6 d) ≤ S 5 d := by
  unfold mayGo at h
  split at h
  · cases h
  · split at h
    · cases h
    · split at h
      · cases h
        exact ⟨across_lt hV hk (by assumption), by assumption⟩
      · cases h
theorem goS_ok (hV : OKV V) (hS : OKS V S) {d k q : Nat} (hd : d < nD V) (hk : k < nW V) (h : mayGo V C S d k = some q) : OKS V (goS V C S d k q) := by
  obtain ⟨h1, h2, h3, h4, h5, h6, h7, h8, h9, h10⟩ := hS
  obtain ⟨hq, hp⟩ := mayGo_lt hV hk h
  unfold goS
  refine ⟨h1, h2, h3, fun x => ?_, fun x => ?_, fun x => ?_, fun x => ?_, fun x hx => ?_, fun x hx => ?_, fun x hx => ?_⟩
  · have := h4 x
    simp only [up1_n]
    split
    · omega
    · split
      · omega
      · split
        · omega
        · split
          · omega
          · exact this
  · have := h5 x
    have := h5 d
    simp only [up1_n]
    split
    · omega
    · split
      · omega
      · split
        · omega
        · split
          · omega
          · omega
  · have := h6 x
    simp only [up1_n]
    split
    · omega
    · split
      · omega
      · split
        · omega
        · split
          · omega
          · omega
  · have := h7 x
    simp only [up1_n]
    split
    · omega
    · split
      · omega
      · split
        · omega
        · split
          · omega
          · omega
  · have := h8 x hx
    simp only [up1_n]
    split
    · omega
    · split
      · omega
      · split
        · omega
        · split
          · omega
          · omega
  · have := h9 x hx
    simp only [up1_n]
    split
    · omega
    · split
      · omega
      · split
        · omega
        · split
          · omega
          · omega
  · have := h10 x hx
    simp only [up1_n]
    split
    · omega
    · split
      · omega
      · split
        · omega
        · split
          · omega
          · omega
/-- the class's own fields of a state, and the law's pile -/
def AS (i : Nat) : Nat → Nat → Nat → Prop := fun f j _ => f = 129 ∨ (256 ≤ f ∧ f ≤ 264 ∧ j = i)
end ST
