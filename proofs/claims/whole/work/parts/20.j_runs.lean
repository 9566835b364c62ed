/-! ===== the law's loop, to its end ===== -/
section PRUN
variable {w : Wd} {t L : Nat} {xs : Nat → Int32} {K : Den Unit}
theorem x_LTgo (h1 : 7 * t + 7 ≤ L) (hL : L ≤ 448) : LTu L xs K (lvL t) [] w = tsel (LDs L xs K) (LB_end K) (nI 0) (xs (7 * t) &&& nI 63) (lvL t) [] w := by
  have e1 : ¬ nI (L - 7) < nI (7 * t) := by rw [nI_ltI (by omega) (by omega)]; omega
  simp (disch := omega) only [lgI_0, lgI_s, lgJ_0, lgJ_s, lgR_0, lgR_s, ls1_0, ls1_1, ls1_s, ls2_0, ls2_1, ls2_s, lk_0, lk_s, isLg_n, isLg_I, isLg_J, isLg_R, pI_c, pJ_c, pR_c, pO_c, pV_I, pV_R, x_ci, x_cl, x_cn, x_is, x_ls, x_as, x_kill, x_iadd, x_isub, x_imul, x_iand, x_ior, x_ixor, x_ishl, x_ishr, x_iushr, x_idiv, x_irem, x_ineg, x_ladd, x_lsub, x_lmul, x_land, x_lor, x_ldiv, x_lrem, x_lcmp, x_lshl, x_lshr, x_i2l, x_l2i, x_i2c, x_ifeq, x_iceq, x_ifne, x_icne, x_iflt, x_iclt, x_ifge, x_icge, x_ifgt, x_icgt, x_ifle, x_icle, x_gf, x_pf, x_pz, x_pj, x_pe, x_aa, x_ja, x_ra, x_sa, x_sj, x_len, x_ge, x_ace, x_acn, x_max, x_min, x_sw, x_kn, x_tx, x_lenS, x_kna, x_ecd, x_sv, x_sc, x_sb, x_i2b, x_il0, x_ll0, x_al0, x_inc0, x_il1, x_ll1, x_al1, x_inc1, x_il2, x_ll2, x_al2, x_inc2, x_il3, x_ll3, x_al3, x_inc3, x_il4, x_ll4, x_al4, x_inc4, x_il5, x_ll5, x_al5, x_inc5, x_il6, x_ll6, x_al6, x_inc6, x_il7, x_ll7, x_al7, x_inc7, x_il8, x_ll8, x_al8, x_inc8, x_il9, x_ll9, x_al9, x_inc9, x_il10, x_ll10, x_al10, x_inc10, x_il11, x_ll11, x_al11, x_inc11, x_il12, x_ll12, x_al12, x_inc12, x_il13, x_ll13, x_al13, x_inc13, x_dupI, x_popI, x_dupR, x_popR, x_dup2IR, x_dup2II, x_goto, x_ret, x_iret, x_zret, x_jret, x_rret, x_nulN, x_nulS, thn_s, x_call0, x_call1, x_callV1, x_call2, x_callV2, x_call3, x_callV3, x_call4, x_callV4, x_call5, x_callV5, x_call6, x_callV6, x_call7, x_callV7, tl_I, tl_J, tl_R, tl_U, stw_0, stw_I, stw_J, stw_R, ble_0, ble_1, ble_2, ble_3, ble_4, ble_5, ble_6, ble_7, ble_8, beq_r, rk_n, rk_s, fv_0_0, fv_0_1, fv_0_2, fv_0_3, fv_0_4, fv_0_5, fv_0_6, fv_0_7, fv_0_8, fv_0_9, fv_0_10, fv_0_11, fv_0_12, fv_0_13, fv_0_14, fv_0_15, fv_1_0, fv_1_1, fv_1_2, fv_1_3, fv_1_4, fv_2_0, fv_2_1, fv_2_2, fv_3_0, fv_3_1, fv_3_2, fv_4_0, fv_4_1, fv_4_2, fv_4_3, fv_4_4, fv_4_5, fv_5_0, fv_6_0, fv_6_1, fv_6_2, fv_7_0, fv_7_1, fv_7_2, fv_7_3, fv_7_4, fv_7_5, fv_7_6, fv_7_7, fv_7_8, fv_8_0, fv_8_1, fv_8_2, fv_8_3, fv_8_4, fv_8_5, fv_8_6, fv_8_7, fv_9_0, fv_9_1, fv_9_2, fv_9_3, fv_9_4, fv_9_5, fv_9_6, fv_9_7, fv_9_8, fv_9_9, fv_9_10, fv_9_11, fv_9_12, fv_9_13, fv_9_14, fv_10_0, fv_10_1, fv_10_2, fv_10_3, fv_10_4, fv_10_5, fv_10_6, fv_10_7, fv_10_8, fv_10_9, fv_10_10, fv_10_11, fv_10_12, fv_10_13, fv_10_14, fv_10_15, fv_10_16, fv_10_17, fv_10_18, fv_10_19, fv_10_20, fv_10_21, fv_10_22, fv_10_23, fv_10_24, fv_10_25, fv_10_26, fv_10_27, fv_10_28, kt_33, al_33, kt_34, al_34, kt_36, al_36, kt_37, al_37, kt_38, al_38, kt_39, al_39, kt_41, al_41, kt_42, al_42, kt_43, al_43, kt_45, al_45, kt_65, al_65, kt_66, al_66, kt_67, al_67, kt_68, al_68, kt_97, al_97, kt_98, al_98, kt_128, al_128, kt_129, al_129, kt_160, al_160, kt_163, al_163, kt_164, al_164, kt_192, al_192, kt_260, al_260, kt_261, al_261, kt_262, al_262, kt_263, al_263, kt_264, al_264, kt_288, al_288, kt_330, al_330, kt_331, al_331, kt_333, al_333, kt_334, al_334, kt_353, al_353, kt_356, al_356, kt_357, al_357, kt_358, al_358, kt_361, al_361, kt_362, al_362, kt_363, al_363, kt_364, al_364, kt_366, al_366, kt_367, al_367, kt_368, al_368, kt_369, al_369, kt_373, al_373, kt_374, al_374, kt_375, al_375, kt_376, al_376, kt_378, al_378, kt_379, al_379, Option.bind_some, Option.map_some, Option.map_none, cond_true, cond_false, List.nil_append, Bool.and_true, Bool.true_and, Bool.or_true, Bool.true_or, Nat.reduceAdd, Nat.reduceMul, ↓reduceIte, LTu, lvL, x_sla, x_sln, x_tsw, lit_n, nI_sub, e1, if_false]
theorem x_LTend (h0 : 7 * t ≤ L) (h1 : L < 7 * t + 7) (hL : L ≤ 448) : LTu L xs K (lvL t) [] w = some ((), w) := by
  have e1 : nI L - nI 7 < nI (7 * t) := by
    by_cases c : 7 ≤ L
    · rw [nI_sub c, nI_ltI (by omega) (by omega)]; omega
    · have e : t = 0 := by omega
      subst e
      exact (nI_subm (by omega) (by omega) (by omega)).1
  simp (disch := omega) only [x_il4, x_al0, x_ci, x_isub, x_icgt, LTu, lvL, x_sln, lit_n, e1, if_true, LE, x_lret]
theorem law_runs (hL : L ≤ 448) : ∀ (n t : Nat) (w : Wd), INV t w → 7 * t ≤ L → L < 7 * (t + n) → ∃ w', LW L xs n (lvL t) [] w = some ((), w')
  | 0, t, w, _, h1, h2 => absurd h2 (by omega)
  | n + 1, t, w, h, h1, h2 => by
    show ∃ w', LTu L xs (LW L xs n) (lvL t) [] w = some ((), w')
    by_cases c : 7 * t + 7 ≤ L
    · obtain ⟨w2, hI, e⟩ := PB.sel (x := xs (7 * t) &&& nI 63) (lo := nI 0) (p_all (K := LW L xs n) h (by omega) c hL) (p_end h)
      rw [x_LTgo c hL, e]
      exact law_runs hL n (t + 1) w2 hI (by omega) (by omega)
    · exact ⟨w, x_LTend h1 (by omega) hL⟩
end PRUN
