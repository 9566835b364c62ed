/-! ===== the reference reads a line ===== -/
theorem onc_t0 {s : DSt} : (onc s).testBit 0 = !decide (nR s.V = 0) := by
  unfold onc
  by_cases h : nR s.V = 0
  · rw [if_pos h, decide_eq_true h]
    cases s.L <;> decide
  · rw [if_neg h, decide_eq_false h]
    cases s.L <;> decide
theorem onc_t1 {s : DSt} : (onc s).testBit 1 = s.L := by
  unfold onc
  by_cases h : nR s.V = 0
  · rw [if_pos h]
    cases s.L <;> decide
  · rw [if_neg h]
    cases s.L <;> decide
theorem onc_b {s : DSt} : onc s < 4 := by
  unfold onc
  split <;> split <;> omega
section MLN
variable {w w' : Wd} {t : Nat} {T : Nat → Nat} {N i e : Nat} {s : DSt}
theorem RMo.toR {g g' : Nat → Int32} {n : Nat} {R : Nat → Nat} (h : RMo g s.V) (hV : OKV s.V) (hn : ¬ n = 0) (hg : ∀ k, g' k = if k = 73 then nI n else if 122 ≤ k ∧ k < 122 + n then nI (R (k - 122)) else g k) : RMo g' (setR s n R).V := by
  obtain ⟨h0, h1, h2, h3, h4, h5, h6, h7⟩ := h
  have b7 := hV.P
  have b8 := hV.W
  have b4 := hV.D
  have e : ∀ k, ¬ k = 73 → k < 122 → g' k = g k := fun k a b => by rw [hg, if_neg a, if_neg (by omega)]
  have en : nR (setR s n R).V = n := rfl
  refine ⟨(e 70 (by omega) (by omega)).trans h0, (e 71 (by omega) (by omega)).trans h1, (e 72 (by omega) (by omega)).trans h2, ?_, fun p hp => (e _ (by omega) (by have hp : p < nP s.V := hp; omega)).trans (h4 p hp), fun k hk => ?_, fun k hk => ?_, fun k hk => ?_⟩
  · rw [en, if_neg hn, hg, if_pos rfl]
  · have hk2 : k < nW s.V := hk
    exact ⟨(e _ (by omega) (by omega)).trans (h5 k hk).1, (e _ (by omega) (by omega)).trans (h5 k hk).2.1, (e _ (by omega) (by omega)).trans (h5 k hk).2.2.1, (e _ (by omega) (by omega)).trans (h5 k hk).2.2.2⟩
  · have hk2 : k < nD s.V := hk
    exact ⟨(e _ (by omega) (by omega)).trans (h6 k hk).1, (e _ (by omega) (by omega)).trans (h6 k hk).2⟩
  · rw [en, if_neg hn] at hk
    rw [en, if_neg hn, hg, if_neg (by omega), if_pos (by omega), show 122 + k - 122 = k from by omega]
    rfl
/-- the first three words of a line -/
theorem m_notPWD (h : RTm w t T N i 0) (h0 : ¬ wdI t T i = some 0) (h2 : ¬ wdI t T i = some 2) (h4 : ¬ wdI t T i = some 4) {w1 : Wd} (g : f_X11_readOnce [(.inr (.inr (some (10, 0))))] w = some ((), w1)) : f_X11_readLine [(.inr (.inr (some (10, 0))))] w = some ((), w1) := by
  have gw0 := m_isWord h (j := 0) (by omega)
  rw [decide_eq_false (fun q => h0 q.2)] at gw0
  have gw2 := m_isWord h (j := 2) (by omega)
  rw [decide_eq_false (fun q => h2 q.2)] at gw2
  have gw4 := m_isWord h (j := 4) (by omega)
  rw [decide_eq_false (fun q => h4 q.2)] at gw4
  simp (disch := omega) only [lgI_0, lgI_s, lgJ_0, lgJ_s, lgR_0, lgR_s, ls1_0, ls1_1, ls1_s, ls2_0, ls2_1, ls2_s, lk_0, lk_s, isLg_n, isLg_I, isLg_J, isLg_R, pI_c, pJ_c, pR_c, pO_c, pV_I, pV_R, x_ci, x_cl, x_cn, x_is, x_ls, x_as, x_kill, x_iadd, x_isub, x_imul, x_iand, x_ior, x_ixor, x_ishl, x_ishr, x_iushr, x_idiv, x_irem, x_ineg, x_ladd, x_lsub, x_lmul, x_land, x_lor, x_ldiv, x_lrem, x_lcmp, x_lshl, x_lshr, x_i2l, x_l2i, x_i2c, x_ifeq, x_iceq, x_ifne, x_icne, x_iflt, x_iclt, x_ifge, x_icge, x_ifgt, x_icgt, x_ifle, x_icle, x_gf, x_pf, x_pz, x_pj, x_pe, x_aa, x_ja, x_ra, x_sa, x_sj, x_len, x_ge, x_ace, x_acn, x_max, x_min, x_sw, x_kn, x_tx, x_lenS, x_kna, x_ecd, x_sv, x_sc, x_sb, x_i2b, x_il0, x_ll0, x_al0, x_inc0, x_il1, x_ll1, x_al1, x_inc1, x_il2, x_ll2, x_al2, x_inc2, x_il3, x_ll3, x_al3, x_inc3, x_il4, x_ll4, x_al4, x_inc4, x_il5, x_ll5, x_al5, x_inc5, x_il6, x_ll6, x_al6, x_inc6, x_il7, x_ll7, x_al7, x_inc7, x_il8, x_ll8, x_al8, x_inc8, x_il9, x_ll9, x_al9, x_inc9, x_il10, x_ll10, x_al10, x_inc10, x_il11, x_ll11, x_al11, x_inc11, x_il12, x_ll12, x_al12, x_inc12, x_il13, x_ll13, x_al13, x_inc13, x_dupI, x_popI, x_dupR, x_popR, x_dup2IR, x_dup2II, x_goto, x_ret, x_iret, x_zret, x_jret, x_rret, x_nulN, x_nulS, thn_s, x_call0, x_call1, x_callV1, x_call2, x_callV2, x_call3, x_callV3, x_call4, x_callV4, x_call5, x_callV5, x_call6, x_callV6, x_call7, x_callV7, tl_I, tl_J, tl_R, tl_U, stw_0, stw_I, stw_J, stw_R, ble_0, ble_1, ble_2, ble_3, ble_4, ble_5, ble_6, ble_7, ble_8, beq_r, rk_n, rk_s, fv_0_0, fv_0_1, fv_0_2, fv_0_3, fv_0_4, fv_0_5, fv_0_6, fv_0_7, fv_0_8, fv_0_9, fv_0_10, fv_0_11, fv_0_12, fv_0_13, fv_0_14, fv_0_15, fv_1_0, fv_1_1, fv_1_2, fv_1_3, fv_1_4, fv_2_0, fv_2_1, fv_2_2, fv_3_0, fv_3_1, fv_3_2, fv_4_0, fv_4_1, fv_4_2, fv_4_3, fv_4_4, fv_4_5, fv_5_0, fv_6_0, fv_6_1, fv_6_2, fv_7_0, fv_7_1, fv_7_2, fv_7_3, fv_7_4, fv_7_5, fv_7_6, fv_7_7, fv_7_8, fv_8_0, fv_8_1, fv_8_2, fv_8_3, fv_8_4, fv_8_5, fv_8_6, fv_8_7, fv_9_0, fv_9_1, fv_9_2, fv_9_3, fv_9_4, fv_9_5, fv_9_6, fv_9_7, fv_9_8, fv_9_9, fv_9_10, fv_9_11, fv_9_12, fv_9_13, fv_9_14, fv_10_0, fv_10_1, fv_10_2, fv_10_3, fv_10_4, fv_10_5, fv_10_6, fv_10_7, fv_10_8, fv_10_9, fv_10_10, fv_10_11, fv_10_12, fv_10_13, fv_10_14, fv_10_15, fv_10_16, fv_10_17, fv_10_18, fv_10_19, fv_10_20, fv_10_21, fv_10_22, fv_10_23, fv_10_24, fv_10_25, fv_10_26, fv_10_27, fv_10_28, kt_33, al_33, kt_34, al_34, kt_36, al_36, kt_37, al_37, kt_38, al_38, kt_39, al_39, kt_41, al_41, kt_42, al_42, kt_43, al_43, kt_45, al_45, kt_65, al_65, kt_66, al_66, kt_67, al_67, kt_68, al_68, kt_97, al_97, kt_98, al_98, kt_128, al_128, kt_129, al_129, kt_160, al_160, kt_163, al_163, kt_164, al_164, kt_192, al_192, kt_260, al_260, kt_261, al_261, kt_262, al_262, kt_263, al_263, kt_264, al_264, kt_288, al_288, kt_330, al_330, kt_331, al_331, kt_333, al_333, kt_334, al_334, kt_353, al_353, kt_356, al_356, kt_357, al_357, kt_358, al_358, kt_361, al_361, kt_362, al_362, kt_363, al_363, kt_364, al_364, kt_366, al_366, kt_367, al_367, kt_368, al_368, kt_369, al_369, kt_373, al_373, kt_374, al_374, kt_375, al_375, kt_376, al_376, kt_378, al_378, kt_379, al_379, Option.bind_some, Option.map_some, Option.map_none, cond_true, cond_false, List.nil_append, Bool.and_true, Bool.true_and, Bool.or_true, Bool.true_or, Nat.reduceAdd, Nat.reduceMul, ↓reduceIte, en_X11_readLine, B_X11_readLine_145, B_X11_readLine_138, B_X11_readLine_50, B_X11_readLine_0, lit_n, ib_n, nI_add, pk_mul, nI_sub, nI_eq, nI_leI, nI_ltI, nI_clamp, m1_eq, m1_eq', m1_lt, m1_lt', m1_le, m1_le', nI_or, nI_and, nI_1shl, nI_shr, and31, bit_n, nI_b0, nI_b1, Nat.reduceEqDiff, or_true, true_or, or_false, false_or, not_true_eq_false, not_false_eq_true, Nat.le_refl, Nat.lt_irrefl, Nat.zero_le, Nat.not_lt_zero, sI_1, sI_2, sA_1, sA_2, sJ_1, sJ_21, sJ_22, sE_1, sE_21, sE_22, false_and, and_false, true_and, and_true, and_self, ↓reduceIte, Nat.reduceEqDiff, Nat.reduceLeDiff, gw0, gw2, gw4, g, at_none, st_none, ga_none, Option.isSome_none, Option.isSome_some, b2_f, b2_t, Bool.false_eq_true]
theorem m_onceX (h : RTm w t T N i 0) (hO : OKP t T) (h6 : ¬ wdI t T i = some 6) (h7 : ¬ wdI t T i = some 7) : ∃ w', f_X11_readOnce [(.inr (.inr (some (10, 0))))] w = some ((), w') ∧ Kp AMv w w' ∧ RTm w' t T N i (1 + 16 * stT t T i) := by
  have g := m_wordHere h (f := 6) (m := 2) (by omega)
  have e : whV (wdE t T i 0) 6 2 = -nI 1 := by
    rw [wdE_0]
    cases hw : wdI t T i with
    | none => rfl
    | some j =>
      rw [hw] at h6 h7
      rw [whV_s, if_neg]
      intro q
      rcases (by omega : j = 6 ∨ j = 7) with c | c
      · exact h6 (by rw [c])
      · exact h7 (by rw [c])
  rw [e] at g
  obtain ⟨w1, g1, K1, R1⟩ := m_wrong0 h hO (k := 1) (by omega)
  have h4 := R1.ft
  have h5 := R1.b.2
  refine ⟨w1, ?_, AMv.ofp K1, R1⟩
  have h9 : ¬ 1 + 16 * stT t T i ≤ 0 := by omega
  generalize 1 + 16 * stT t T i = y at *
  simp (disch := omega) only [lgI_0, lgI_s, lgJ_0, lgJ_s, lgR_0, lgR_s, ls1_0, ls1_1, ls1_s, ls2_0, ls2_1, ls2_s, lk_0, lk_s, isLg_n, isLg_I, isLg_J, isLg_R, pI_c, pJ_c, pR_c, pO_c, pV_I, pV_R, x_ci, x_cl, x_cn, x_is, x_ls, x_as, x_kill, x_iadd, x_isub, x_imul, x_iand, x_ior, x_ixor, x_ishl, x_ishr, x_iushr, x_idiv, x_irem, x_ineg, x_ladd, x_lsub, x_lmul, x_land, x_lor, x_ldiv, x_lrem, x_lcmp, x_lshl, x_lshr, x_i2l, x_l2i, x_i2c, x_ifeq, x_iceq, x_ifne, x_icne, x_iflt, x_iclt, x_ifge, x_icge, x_ifgt, x_icgt, x_ifle, x_icle, x_gf, x_pf, x_pz, x_pj, x_pe, x_aa, x_ja, x_ra, x_sa, x_sj, x_len, x_ge, x_ace, x_acn, x_max, x_min, x_sw, x_kn, x_tx, x_lenS, x_kna, x_ecd, x_sv, x_sc, x_sb, x_i2b, x_il0, x_ll0, x_al0, x_inc0, x_il1, x_ll1, x_al1, x_inc1, x_il2, x_ll2, x_al2, x_inc2, x_il3, x_ll3, x_al3, x_inc3, x_il4, x_ll4, x_al4, x_inc4, x_il5, x_ll5, x_al5, x_inc5, x_il6, x_ll6, x_al6, x_inc6, x_il7, x_ll7, x_al7, x_inc7, x_il8, x_ll8, x_al8, x_inc8, x_il9, x_ll9, x_al9, x_inc9, x_il10, x_ll10, x_al10, x_inc10, x_il11, x_ll11, x_al11, x_inc11, x_il12, x_ll12, x_al12, x_inc12, x_il13, x_ll13, x_al13, x_inc13, x_dupI, x_popI, x_dupR, x_popR, x_dup2IR, x_dup2II, x_goto, x_ret, x_iret, x_zret, x_jret, x_rret, x_nulN, x_nulS, thn_s, x_call0, x_call1, x_callV1, x_call2, x_callV2, x_call3, x_callV3, x_call4, x_callV4, x_call5, x_callV5, x_call6, x_callV6, x_call7, x_callV7, tl_I, tl_J, tl_R, tl_U, stw_0, stw_I, stw_J, stw_R, ble_0, ble_1, ble_2, ble_3, ble_4, ble_5, ble_6, ble_7, ble_8, beq_r, rk_n, rk_s, fv_0_0, fv_0_1, fv_0_2, fv_0_3, fv_0_4, fv_0_5, fv_0_6, fv_0_7, fv_0_8, fv_0_9, fv_0_10, fv_0_11, fv_0_12, fv_0_13, fv_0_14, fv_0_15, fv_1_0, fv_1_1, fv_1_2, fv_1_3, fv_1_4, fv_2_0, fv_2_1, fv_2_2, fv_3_0, fv_3_1, fv_3_2, fv_4_0, fv_4_1, fv_4_2, fv_4_3, fv_4_4, fv_4_5, fv_5_0, fv_6_0, fv_6_1, fv_6_2, fv_7_0, fv_7_1, fv_7_2, fv_7_3, fv_7_4, fv_7_5, fv_7_6, fv_7_7, fv_7_8, fv_8_0, fv_8_1, fv_8_2, fv_8_3, fv_8_4, fv_8_5, fv_8_6, fv_8_7, fv_9_0, fv_9_1, fv_9_2, fv_9_3, fv_9_4, fv_9_5, fv_9_6, fv_9_7, fv_9_8, fv_9_9, fv_9_10, fv_9_11, fv_9_12, fv_9_13, fv_9_14, fv_10_0, fv_10_1, fv_10_2, fv_10_3, fv_10_4, fv_10_5, fv_10_6, fv_10_7, fv_10_8, fv_10_9, fv_10_10, fv_10_11, fv_10_12, fv_10_13, fv_10_14, fv_10_15, fv_10_16, fv_10_17, fv_10_18, fv_10_19, fv_10_20, fv_10_21, fv_10_22, fv_10_23, fv_10_24, fv_10_25, fv_10_26, fv_10_27, fv_10_28, kt_33, al_33, kt_34, al_34, kt_36, al_36, kt_37, al_37, kt_38, al_38, kt_39, al_39, kt_41, al_41, kt_42, al_42, kt_43, al_43, kt_45, al_45, kt_65, al_65, kt_66, al_66, kt_67, al_67, kt_68, al_68, kt_97, al_97, kt_98, al_98, kt_128, al_128, kt_129, al_129, kt_160, al_160, kt_163, al_163, kt_164, al_164, kt_192, al_192, kt_260, al_260, kt_261, al_261, kt_262, al_262, kt_263, al_263, kt_264, al_264, kt_288, al_288, kt_330, al_330, kt_331, al_331, kt_333, al_333, kt_334, al_334, kt_353, al_353, kt_356, al_356, kt_357, al_357, kt_358, al_358, kt_361, al_361, kt_362, al_362, kt_363, al_363, kt_364, al_364, kt_366, al_366, kt_367, al_367, kt_368, al_368, kt_369, al_369, kt_373, al_373, kt_374, al_374, kt_375, al_375, kt_376, al_376, kt_378, al_378, kt_379, al_379, Option.bind_some, Option.map_some, Option.map_none, cond_true, cond_false, List.nil_append, Bool.and_true, Bool.true_and, Bool.or_true, Bool.true_or, Nat.reduceAdd, Nat.reduceMul, ↓reduceIte, en_X11_readOnce, B_X11_readOnce_100, B_X11_readOnce_37, B_X11_readOnce_0, lit_n, ib_n, nI_add, pk_mul, nI_sub, nI_eq, nI_leI, nI_ltI, nI_clamp, m1_eq, m1_eq', m1_lt, m1_lt', m1_le, m1_le', nI_or, nI_and, nI_1shl, nI_shr, and31, bit_n, nI_b0, nI_b1, Nat.reduceEqDiff, or_true, true_or, or_false, false_or, not_true_eq_false, not_false_eq_true, Nat.le_refl, Nat.lt_irrefl, Nat.zero_le, Nat.not_lt_zero, sI_1, sI_2, sA_1, sA_2, sJ_1, sJ_21, sJ_22, sE_1, sE_21, sE_22, false_and, and_false, true_and, and_true, and_self, ↓reduceIte, Nat.reduceEqDiff, Nat.reduceLeDiff, g, g1, h4, h9, at_none, st_none, ga_none, Option.isSome_none, Option.isSome_some, b2_f, b2_t, Bool.false_eq_true]
theorem m_onceF (h : RTm w t T N i 0) (hO : OKP t T) {k : Nat} (hk : k ≤ 1) (hw : wdI t T i = some (6 + k)) (ho : w.1 372 0 0 = nI (onc s)) (ht : (onc s).testBit k = true) : ∃ w', f_X11_readOnce [(.inr (.inr (some (10, 0))))] w = some ((), w') ∧ Kp AMv w w' ∧ RTm w' t T N i (3 + 16 * stT t T i) := by
  have g := m_wordHere h (f := 6) (m := 2) (by omega)
  rw [wdE_0, hw, whV_s, if_pos (by omega), show 6 + k - 6 = k from by omega] at g
  have ob := onc_b (s := s)
  obtain ⟨w1, g1, K1, R1⟩ := m_wrong0 h hO (k := 3) (by omega)
  have h4 := R1.ft
  have h5 := R1.b.2
  refine ⟨w1, ?_, AMv.ofp K1, R1⟩
  have h9 : ¬ 3 + 16 * stT t T i ≤ 0 := by omega
  generalize 3 + 16 * stT t T i = y at *
  generalize onc s = o at *
  simp (disch := omega) only [lgI_0, lgI_s, lgJ_0, lgJ_s, lgR_0, lgR_s, ls1_0, ls1_1, ls1_s, ls2_0, ls2_1, ls2_s, lk_0, lk_s, isLg_n, isLg_I, isLg_J, isLg_R, pI_c, pJ_c, pR_c, pO_c, pV_I, pV_R, x_ci, x_cl, x_cn, x_is, x_ls, x_as, x_kill, x_iadd, x_isub, x_imul, x_iand, x_ior, x_ixor, x_ishl, x_ishr, x_iushr, x_idiv, x_irem, x_ineg, x_ladd, x_lsub, x_lmul, x_land, x_lor, x_ldiv, x_lrem, x_lcmp, x_lshl, x_lshr, x_i2l, x_l2i, x_i2c, x_ifeq, x_iceq, x_ifne, x_icne, x_iflt, x_iclt, x_ifge, x_icge, x_ifgt, x_icgt, x_ifle, x_icle, x_gf, x_pf, x_pz, x_pj, x_pe, x_aa, x_ja, x_ra, x_sa, x_sj, x_len, x_ge, x_ace, x_acn, x_max, x_min, x_sw, x_kn, x_tx, x_lenS, x_kna, x_ecd, x_sv, x_sc, x_sb, x_i2b, x_il0, x_ll0, x_al0, x_inc0, x_il1, x_ll1, x_al1, x_inc1, x_il2, x_ll2, x_al2, x_inc2, x_il3, x_ll3, x_al3, x_inc3, x_il4, x_ll4, x_al4, x_inc4, x_il5, x_ll5, x_al5, x_inc5, x_il6, x_ll6, x_al6, x_inc6, x_il7, x_ll7, x_al7, x_inc7, x_il8, x_ll8, x_al8, x_inc8, x_il9, x_ll9, x_al9, x_inc9, x_il10, x_ll10, x_al10, x_inc10, x_il11, x_ll11, x_al11, x_inc11, x_il12, x_ll12, x_al12, x_inc12, x_il13, x_ll13, x_al13, x_inc13, x_dupI, x_popI, x_dupR, x_popR, x_dup2IR, x_dup2II, x_goto, x_ret, x_iret, x_zret, x_jret, x_rret, x_nulN, x_nulS, thn_s, x_call0, x_call1, x_callV1, x_call2, x_callV2, x_call3, x_callV3, x_call4, x_callV4, x_call5, x_callV5, x_call6, x_callV6, x_call7, x_callV7, tl_I, tl_J, tl_R, tl_U, stw_0, stw_I, stw_J, stw_R, ble_0, ble_1, ble_2, ble_3, ble_4, ble_5, ble_6, ble_7, ble_8, beq_r, rk_n, rk_s, fv_0_0, fv_0_1, fv_0_2, fv_0_3, fv_0_4, fv_0_5, fv_0_6, fv_0_7, fv_0_8, fv_0_9, fv_0_10, fv_0_11, fv_0_12, fv_0_13, fv_0_14, fv_0_15, fv_1_0, fv_1_1, fv_1_2, fv_1_3, fv_1_4, fv_2_0, fv_2_1, fv_2_2, fv_3_0, fv_3_1, fv_3_2, fv_4_0, fv_4_1, fv_4_2, fv_4_3, fv_4_4, fv_4_5, fv_5_0, fv_6_0, fv_6_1, fv_6_2, fv_7_0, fv_7_1, fv_7_2, fv_7_3, fv_7_4, fv_7_5, fv_7_6, fv_7_7, fv_7_8, fv_8_0, fv_8_1, fv_8_2, fv_8_3, fv_8_4, fv_8_5, fv_8_6, fv_8_7, fv_9_0, fv_9_1, fv_9_2, fv_9_3, fv_9_4, fv_9_5, fv_9_6, fv_9_7, fv_9_8, fv_9_9, fv_9_10, fv_9_11, fv_9_12, fv_9_13, fv_9_14, fv_10_0, fv_10_1, fv_10_2, fv_10_3, fv_10_4, fv_10_5, fv_10_6, fv_10_7, fv_10_8, fv_10_9, fv_10_10, fv_10_11, fv_10_12, fv_10_13, fv_10_14, fv_10_15, fv_10_16, fv_10_17, fv_10_18, fv_10_19, fv_10_20, fv_10_21, fv_10_22, fv_10_23, fv_10_24, fv_10_25, fv_10_26, fv_10_27, fv_10_28, kt_33, al_33, kt_34, al_34, kt_36, al_36, kt_37, al_37, kt_38, al_38, kt_39, al_39, kt_41, al_41, kt_42, al_42, kt_43, al_43, kt_45, al_45, kt_65, al_65, kt_66, al_66, kt_67, al_67, kt_68, al_68, kt_97, al_97, kt_98, al_98, kt_128, al_128, kt_129, al_129, kt_160, al_160, kt_163, al_163, kt_164, al_164, kt_192, al_192, kt_260, al_260, kt_261, al_261, kt_262, al_262, kt_263, al_263, kt_264, al_264, kt_288, al_288, kt_330, al_330, kt_331, al_331, kt_333, al_333, kt_334, al_334, kt_353, al_353, kt_356, al_356, kt_357, al_357, kt_358, al_358, kt_361, al_361, kt_362, al_362, kt_363, al_363, kt_364, al_364, kt_366, al_366, kt_367, al_367, kt_368, al_368, kt_369, al_369, kt_373, al_373, kt_374, al_374, kt_375, al_375, kt_376, al_376, kt_378, al_378, kt_379, al_379, Option.bind_some, Option.map_some, Option.map_none, cond_true, cond_false, List.nil_append, Bool.and_true, Bool.true_and, Bool.or_true, Bool.true_or, Nat.reduceAdd, Nat.reduceMul, ↓reduceIte, en_X11_readOnce, B_X11_readOnce_100, B_X11_readOnce_37, B_X11_readOnce_0, lit_n, ib_n, nI_add, pk_mul, nI_sub, nI_eq, nI_leI, nI_ltI, nI_clamp, m1_eq, m1_eq', m1_lt, m1_lt', m1_le, m1_le', nI_or, nI_and, nI_1shl, nI_shr, and31, bit_n, nI_b0, nI_b1, Nat.reduceEqDiff, or_true, true_or, or_false, false_or, not_true_eq_false, not_false_eq_true, Nat.le_refl, Nat.lt_irrefl, Nat.zero_le, Nat.not_lt_zero, sI_1, sI_2, sA_1, sA_2, sJ_1, sJ_21, sJ_22, sE_1, sE_21, sE_22, false_and, and_false, true_and, and_true, and_self, ↓reduceIte, Nat.reduceEqDiff, Nat.reduceLeDiff, g, ho, ht, g1, h4, h9, at_none, st_none, ga_none, Option.isSome_none, Option.isSome_some, b2_f, b2_t, Bool.false_eq_true]
theorem m_onceR (h : RTm w t T N i 0) (hN : NTk t T N) (hO : OKP t T) (hi : i < N) (hw : wdI t T i = some 6) (hD : RDm w s) (hs : DOK s) (h0 : nR s.V = 0) : ∃ w', f_X11_readOnce [(.inr (.inr (some (10, 0))))] w = some ((), w') ∧ Kp AMv w w' ∧ RTm w' t T N (rnF t T 12 0 (s.V 8) (i + 1, 0)).2.2.1 (rnF t T 12 0 (s.V 8) (i + 1, 0)).2.2.2 ∧ ((rnF t T 12 0 (s.V 8) (i + 1, 0)).2.2.2 = 0 → RDm w' (setR s (rnF t T 12 0 (s.V 8) (i + 1, 0)).1 (rnF t T 12 0 (s.V 8) (i + 1, 0)).2.1)) := by
  have g := m_wordHere h (f := 6) (m := 2) (by omega)
  rw [wdE_0, hw, whV_s, if_pos (by omega), show 6 - 6 = 0 from rfl] at g
  have ob := onc_b (s := s)
  have ho := hD.2.2.1
  have ht : (onc s).testBit 0 = false := by rw [onc_t0, decide_eq_true h0]; rfl
  have h1 := h.at
  have h2 := h.ft
  have Kz : Kp (fun f _ _ => f = 372) w (sI w 372 0 0 (nI (onc s ||| 2 ^ 0))) := Kp.sI rfl
  have Rz : RTm (sI w 372 0 0 (nI (onc s ||| 2 ^ 0))) t T N i 0 := h.kp Kz (fun f k hf q => by have q : f = 372 := q; omega)
  have Ky : Kp AMp (sI w 372 0 0 (nI (onc s ||| 2 ^ 0))) (sI (sI w 372 0 0 (nI (onc s ||| 2 ^ 0))) 359 0 0 (nI (i + 1))) := Kp.sI (Or.inl rfl)
  have Ry : RTm (sI (sI w 372 0 0 (nI (onc s ||| 2 ^ 0))) 359 0 0 (nI (i + 1))) t T N (i + 1) 0 := Rz.mv Ky (by rw [sI_1, if_pos ⟨rfl, rfl, rfl⟩]) (by rw [sI_1, if_neg (by omega), sI_1, if_neg (by omega)]; exact h2) hi (by omega)
  obtain ⟨w1, g1, K1, R1, F1⟩ := m_readRain Ry hN hO (s.V 8)
  refine ⟨w1, ?_, ((Kz.mono fun f i k q => ?_).tr (AMv.ofp Ky)).tr (K1.mono fun f i k q => ?_), R1, fun hq => ?_⟩
  · generalize onc s = o at *
    simp (disch := omega) only [lgI_0, lgI_s, lgJ_0, lgJ_s, lgR_0, lgR_s, ls1_0, ls1_1, ls1_s, ls2_0, ls2_1, ls2_s, lk_0, lk_s, isLg_n, isLg_I, isLg_J, isLg_R, pI_c, pJ_c, pR_c, pO_c, pV_I, pV_R, x_ci, x_cl, x_cn, x_is, x_ls, x_as, x_kill, x_iadd, x_isub, x_imul, x_iand, x_ior, x_ixor, x_ishl, x_ishr, x_iushr, x_idiv, x_irem, x_ineg, x_ladd, x_lsub, x_lmul, x_land, x_lor, x_ldiv, x_lrem, x_lcmp, x_lshl, x_lshr, x_i2l, x_l2i, x_i2c, x_ifeq, x_iceq, x_ifne, x_icne, x_iflt, x_iclt, x_ifge, x_icge, x_ifgt, x_icgt, x_ifle, x_icle, x_gf, x_pf, x_pz, x_pj, x_pe, x_aa, x_ja, x_ra, x_sa, x_sj, x_len, x_ge, x_ace, x_acn, x_max, x_min, x_sw, x_kn, x_tx, x_lenS, x_kna, x_ecd, x_sv, x_sc, x_sb, x_i2b, x_il0, x_ll0, x_al0, x_inc0, x_il1, x_ll1, x_al1, x_inc1, x_il2, x_ll2, x_al2, x_inc2, x_il3, x_ll3, x_al3, x_inc3, x_il4, x_ll4, x_al4, x_inc4, x_il5, x_ll5, x_al5, x_inc5, x_il6, x_ll6, x_al6, x_inc6, x_il7, x_ll7, x_al7, x_inc7, x_il8, x_ll8, x_al8, x_inc8, x_il9, x_ll9, x_al9, x_inc9, x_il10, x_ll10, x_al10, x_inc10, x_il11, x_ll11, x_al11, x_inc11, x_il12, x_ll12, x_al12, x_inc12, x_il13, x_ll13, x_al13, x_inc13, x_dupI, x_popI, x_dupR, x_popR, x_dup2IR, x_dup2II, x_goto, x_ret, x_iret, x_zret, x_jret, x_rret, x_nulN, x_nulS, thn_s, x_call0, x_call1, x_callV1, x_call2, x_callV2, x_call3, x_callV3, x_call4, x_callV4, x_call5, x_callV5, x_call6, x_callV6, x_call7, x_callV7, tl_I, tl_J, tl_R, tl_U, stw_0, stw_I, stw_J, stw_R, ble_0, ble_1, ble_2, ble_3, ble_4, ble_5, ble_6, ble_7, ble_8, beq_r, rk_n, rk_s, fv_0_0, fv_0_1, fv_0_2, fv_0_3, fv_0_4, fv_0_5, fv_0_6, fv_0_7, fv_0_8, fv_0_9, fv_0_10, fv_0_11, fv_0_12, fv_0_13, fv_0_14, fv_0_15, fv_1_0, fv_1_1, fv_1_2, fv_1_3, fv_1_4, fv_2_0, fv_2_1, fv_2_2, fv_3_0, fv_3_1, fv_3_2, fv_4_0, fv_4_1, fv_4_2, fv_4_3, fv_4_4, fv_4_5, fv_5_0, fv_6_0, fv_6_1, fv_6_2, fv_7_0, fv_7_1, fv_7_2, fv_7_3, fv_7_4, fv_7_5, fv_7_6, fv_7_7, fv_7_8, fv_8_0, fv_8_1, fv_8_2, fv_8_3, fv_8_4, fv_8_5, fv_8_6, fv_8_7, fv_9_0, fv_9_1, fv_9_2, fv_9_3, fv_9_4, fv_9_5, fv_9_6, fv_9_7, fv_9_8, fv_9_9, fv_9_10, fv_9_11, fv_9_12, fv_9_13, fv_9_14, fv_10_0, fv_10_1, fv_10_2, fv_10_3, fv_10_4, fv_10_5, fv_10_6, fv_10_7, fv_10_8, fv_10_9, fv_10_10, fv_10_11, fv_10_12, fv_10_13, fv_10_14, fv_10_15, fv_10_16, fv_10_17, fv_10_18, fv_10_19, fv_10_20, fv_10_21, fv_10_22, fv_10_23, fv_10_24, fv_10_25, fv_10_26, fv_10_27, fv_10_28, kt_33, al_33, kt_34, al_34, kt_36, al_36, kt_37, al_37, kt_38, al_38, kt_39, al_39, kt_41, al_41, kt_42, al_42, kt_43, al_43, kt_45, al_45, kt_65, al_65, kt_66, al_66, kt_67, al_67, kt_68, al_68, kt_97, al_97, kt_98, al_98, kt_128, al_128, kt_129, al_129, kt_160, al_160, kt_163, al_163, kt_164, al_164, kt_192, al_192, kt_260, al_260, kt_261, al_261, kt_262, al_262, kt_263, al_263, kt_264, al_264, kt_288, al_288, kt_330, al_330, kt_331, al_331, kt_333, al_333, kt_334, al_334, kt_353, al_353, kt_356, al_356, kt_357, al_357, kt_358, al_358, kt_361, al_361, kt_362, al_362, kt_363, al_363, kt_364, al_364, kt_366, al_366, kt_367, al_367, kt_368, al_368, kt_369, al_369, kt_373, al_373, kt_374, al_374, kt_375, al_375, kt_376, al_376, kt_378, al_378, kt_379, al_379, Option.bind_some, Option.map_some, Option.map_none, cond_true, cond_false, List.nil_append, Bool.and_true, Bool.true_and, Bool.or_true, Bool.true_or, Nat.reduceAdd, Nat.reduceMul, ↓reduceIte, en_X11_readOnce, B_X11_readOnce_100, B_X11_readOnce_37, B_X11_readOnce_0, lit_n, ib_n, nI_add, pk_mul, nI_sub, nI_eq, nI_leI, nI_ltI, nI_clamp, m1_eq, m1_eq', m1_lt, m1_lt', m1_le, m1_le', nI_or, nI_and, nI_1shl, nI_shr, and31, bit_n, nI_b0, nI_b1, Nat.reduceEqDiff, or_true, true_or, or_false, false_or, not_true_eq_false, not_false_eq_true, Nat.le_refl, Nat.lt_irrefl, Nat.zero_le, Nat.not_lt_zero, sI_1, sI_2, sA_1, sA_2, sJ_1, sJ_21, sJ_22, sE_1, sE_21, sE_22, false_and, and_false, true_and, and_true, and_self, ↓reduceIte, Nat.reduceEqDiff, Nat.reduceLeDiff, g, ho, ht, h1, h2, g1, at_none, st_none, ga_none, Option.isSome_none, Option.isSome_some, b2_f, b2_t, Bool.false_eq_true]
  · have q : f = 372 := q
    show f = 359 ∨ f = 360 ∨ f = 365 ∨ f = 367 ∨ f = 369 ∨ f = 371 ∨ f = 372 ∨ (f = 362 ∧ 70 ≤ k) ∨ ((f = 363 ∨ f = 364) ∧ 1100 ≤ k)
    omega
  · have q : f = 359 ∨ f = 360 ∨ (f = 362 ∧ 70 ≤ k) := q
    show f = 359 ∨ f = 360 ∨ f = 365 ∨ f = 367 ∨ f = 369 ∨ f = 371 ∨ f = 372 ∨ (f = 362 ∧ 70 ≤ k) ∨ ((f = 363 ∨ f = 364) ∧ 1100 ≤ k)
    omega
  · obtain ⟨n0, hg⟩ := F1 hq
    generalize rnF t T 12 0 (s.V 8) (i + 1, 0) = r at *
    have k1 : ∀ f k, f = 363 ∨ f = 364 ∨ f = 365 ∨ f = 367 ∨ f = 369 ∨ f = 371 ∨ f = 372 → w1.1 f 0 k = (sI (sI w 372 0 0 (nI (onc s ||| 2 ^ 0))) 359 0 0 (nI (i + 1))).1 f 0 k ∧ w1.2.1 f 0 k = w.2.1 f 0 k := fun f k a => by
      have := K1 f 0 k (fun q => by have q : f = 359 ∨ f = 360 ∨ (f = 362 ∧ 70 ≤ k) := q; omega)
      exact ⟨this.1, this.2.1⟩
    have k0 : ∀ f k, ¬ f = 372 → ¬ f = 359 → (sI (sI w 372 0 0 (nI (onc s ||| 2 ^ 0))) 359 0 0 (nI (i + 1))).1 f 0 k = w.1 f 0 k := fun f k a b => by rw [sI_1, if_neg (by omega), sI_1, if_neg (by omega)]
    refine ⟨hD.1.toR hs.1 n0 (fun k => ?_), ⟨((k1 371 0 (by omega)).1.trans (k0 371 0 (by omega) (by omega))).trans hD.2.1.1, fun k hk => ⟨(k1 367 k (by omega)).2.trans (hD.2.1.2 k hk).1, ((k1 369 k (by omega)).1.trans (k0 369 k (by omega) (by omega))).trans (hD.2.1.2 k hk).2⟩⟩, ?_, ?_⟩
    · rw [hg k, k0 362 k (by omega) (by omega)]
    · rw [(k1 372 0 (by omega)).1, sI_1, if_neg (by omega), sI_1, if_pos ⟨rfl, rfl, rfl⟩]
      have e1 : onc (setR s r.1 r.2.1) = onc s ||| 2 ^ 0 := by
        unfold onc
        rw [if_pos h0, if_neg (show ¬ nR (setR s r.1 r.2.1).V = 0 from n0)]
        show 1 + (if s.L = true then 2 else 0) = _
        cases s.L <;> decide
      rw [e1]
    · have hL : LWm w (setR s r.1 r.2.1) := hD.2.2.2
      refine hL.eq ?_ ((k1 365 0 (by omega)).1.trans (k0 365 0 (by omega) (by omega))) (fun k => (k1 363 k (by omega)).1.trans (k0 363 k (by omega) (by omega))) (fun k => (k1 364 k (by omega)).1.trans (k0 364 k (by omega) (by omega)))
      rw [hg 74, if_neg (by omega), if_neg (by omega), k0 362 74 (by omega) (by omega)]
theorem m_onceL (h : RTm w t T N i 0) (hN : NTk t T N) (hO : OKP t T) (hi : i < N) (hw : wdI t T i = some 7) (hD : RDm w s) (hl : s.L = false) : ∃ w', f_X11_readOnce [(.inr (.inr (some (10, 0))))] w = some ((), w') ∧ Kp AMv w w' ∧ RTm w' t T N (testsF t T (partF t T 5) (i + 1, 0, [])).i (testsF t T (partF t T 5) (i + 1, 0, [])).e ∧ RDm w' (setL s (testsF t T (partF t T 5) (i + 1, 0, [])).C) := by
  have hN1 := hN.1
  have hO1 := hO.1
  have g := m_wordHere h (f := 6) (m := 2) (by omega)
  rw [wdE_0, hw, whV_s, if_pos (by omega), show 7 - 6 = 1 from rfl] at g
  have ob := onc_b (s := s)
  have ho := hD.2.2.1
  have ht : (onc s).testBit 1 = false := by rw [onc_t1, hl]
  have h1 := h.at
  have h2 := h.ft
  obtain ⟨-, c365, -⟩ := hD.2.2.2.1 hl
  have Ka : Kp AMp w (sI w 359 0 0 (nI (i + 1))) := Kp.sI (Or.inl rfl)
  have Ra : RTm (sI w 359 0 0 (nI (i + 1))) t T N (i + 1) 0 := h.mv Ka (by rw [sI_1, if_pos ⟨rfl, rfl, rfl⟩]) (by rw [sI_1, if_neg (by omega)]; exact h2) hi (by omega)
  have Kb : Kp (fun f _ k => f = 372 ∨ (f = 362 ∧ k = 74)) (sI w 359 0 0 (nI (i + 1))) (sI (sI (sI w 372 0 0 (nI (onc s ||| 2 ^ 1))) 359 0 0 (nI (i + 1))) 362 0 74 (nI 0)) := fun f i' k hq => by
    refine ⟨?_, rfl, rfl⟩
    have n1 : ¬ (f = 362 ∧ i' = 0 ∧ k = 74) := fun q => hq (Or.inr ⟨q.1, q.2.2⟩)
    have n2 : ¬ (f = 372 ∧ i' = 0 ∧ k = 0) := fun q => hq (Or.inl q.1)
    by_cases c : f = 359 ∧ i' = 0 ∧ k = 0
    · rw [sI_1, if_neg n1, sI_1, if_pos c, sI_1, if_pos c]
    · rw [sI_1, if_neg n1, sI_1, if_neg c, sI_1, if_neg n2, sI_1, if_neg c]
  have Rb := Ra.kp Kb (fun f k hf q => by have q : f = 372 ∨ (f = 362 ∧ k = 74) := q; omega)
  have L0 : RLm (sI (sI (sI w 372 0 0 (nI (onc s ||| 2 ^ 1))) 359 0 0 (nI (i + 1))) 362 0 74 (nI 0)) t T N (i + 1, 0, []) := ⟨Rb, by rw [sI_1, if_neg (by omega), sI_1, if_neg (by omega), sI_1, if_neg (by omega)]; exact c365, fun j hj => absurd hj (Nat.not_lt_zero j)⟩
  obtain ⟨w1, g1, K1, L1⟩ := m_law hN hO _ (i + 1, 0, []) rfl (Nat.succ_pos i) L0
  have hg := testsF_gd hN (partF_gd hN 5) (i + 1, 0, []) hi
  generalize testsF t T (partF t T 5) (i + 1, 0, []) = r at *
  have c1 : r.C.length + (i + 1) ≤ 0 + r.i := hg.2.2
  have c2 : r.i ≤ N := hg.2.1
  have h65 := L1.2.1
  have Kc : Kp (fun f _ k => f = 365 ∨ ((f = 363 ∨ f = 364) ∧ 1100 ≤ k)) w1 (sI (sI (sI w1 363 0 (1100 + r.C.length) (nI 0)) 364 0 (1100 + r.C.length) (nI 0)) 365 0 0 (nI (r.C.length + 1))) := ((Kp.sI (Or.inr ⟨Or.inl rfl, by omega⟩)).tr (Kp.sI (Or.inr ⟨Or.inr rfl, by omega⟩))).tr (Kp.sI (Or.inl rfl))
  have g2 : f_X11_emit [(.inr (.inr (some (10, 0)))), (.inl (nI 0)), (.inl (nI 0))] w1 = some ((), sI (sI (sI w1 363 0 (1100 + r.C.length) (nI 0)) 364 0 (1100 + r.C.length) (nI 0)) 365 0 0 (nI (r.C.length + 1))) := by
    have hlen : r.C.length < 1050 := by omega
    generalize r.C.length = n at *
    simp (disch := omega) only [lgI_0, lgI_s, lgJ_0, lgJ_s, lgR_0, lgR_s, ls1_0, ls1_1, ls1_s, ls2_0, ls2_1, ls2_s, lk_0, lk_s, isLg_n, isLg_I, isLg_J, isLg_R, pI_c, pJ_c, pR_c, pO_c, pV_I, pV_R, x_ci, x_cl, x_cn, x_is, x_ls, x_as, x_kill, x_iadd, x_isub, x_imul, x_iand, x_ior, x_ixor, x_ishl, x_ishr, x_iushr, x_idiv, x_irem, x_ineg, x_ladd, x_lsub, x_lmul, x_land, x_lor, x_ldiv, x_lrem, x_lcmp, x_lshl, x_lshr, x_i2l, x_l2i, x_i2c, x_ifeq, x_iceq, x_ifne, x_icne, x_iflt, x_iclt, x_ifge, x_icge, x_ifgt, x_icgt, x_ifle, x_icle, x_gf, x_pf, x_pz, x_pj, x_pe, x_aa, x_ja, x_ra, x_sa, x_sj, x_len, x_ge, x_ace, x_acn, x_max, x_min, x_sw, x_kn, x_tx, x_lenS, x_kna, x_ecd, x_sv, x_sc, x_sb, x_i2b, x_il0, x_ll0, x_al0, x_inc0, x_il1, x_ll1, x_al1, x_inc1, x_il2, x_ll2, x_al2, x_inc2, x_il3, x_ll3, x_al3, x_inc3, x_il4, x_ll4, x_al4, x_inc4, x_il5, x_ll5, x_al5, x_inc5, x_il6, x_ll6, x_al6, x_inc6, x_il7, x_ll7, x_al7, x_inc7, x_il8, x_ll8, x_al8, x_inc8, x_il9, x_ll9, x_al9, x_inc9, x_il10, x_ll10, x_al10, x_inc10, x_il11, x_ll11, x_al11, x_inc11, x_il12, x_ll12, x_al12, x_inc12, x_il13, x_ll13, x_al13, x_inc13, x_dupI, x_popI, x_dupR, x_popR, x_dup2IR, x_dup2II, x_goto, x_ret, x_iret, x_zret, x_jret, x_rret, x_nulN, x_nulS, thn_s, x_call0, x_call1, x_callV1, x_call2, x_callV2, x_call3, x_callV3, x_call4, x_callV4, x_call5, x_callV5, x_call6, x_callV6, x_call7, x_callV7, tl_I, tl_J, tl_R, tl_U, stw_0, stw_I, stw_J, stw_R, ble_0, ble_1, ble_2, ble_3, ble_4, ble_5, ble_6, ble_7, ble_8, beq_r, rk_n, rk_s, fv_0_0, fv_0_1, fv_0_2, fv_0_3, fv_0_4, fv_0_5, fv_0_6, fv_0_7, fv_0_8, fv_0_9, fv_0_10, fv_0_11, fv_0_12, fv_0_13, fv_0_14, fv_0_15, fv_1_0, fv_1_1, fv_1_2, fv_1_3, fv_1_4, fv_2_0, fv_2_1, fv_2_2, fv_3_0, fv_3_1, fv_3_2, fv_4_0, fv_4_1, fv_4_2, fv_4_3, fv_4_4, fv_4_5, fv_5_0, fv_6_0, fv_6_1, fv_6_2, fv_7_0, fv_7_1, fv_7_2, fv_7_3, fv_7_4, fv_7_5, fv_7_6, fv_7_7, fv_7_8, fv_8_0, fv_8_1, fv_8_2, fv_8_3, fv_8_4, fv_8_5, fv_8_6, fv_8_7, fv_9_0, fv_9_1, fv_9_2, fv_9_3, fv_9_4, fv_9_5, fv_9_6, fv_9_7, fv_9_8, fv_9_9, fv_9_10, fv_9_11, fv_9_12, fv_9_13, fv_9_14, fv_10_0, fv_10_1, fv_10_2, fv_10_3, fv_10_4, fv_10_5, fv_10_6, fv_10_7, fv_10_8, fv_10_9, fv_10_10, fv_10_11, fv_10_12, fv_10_13, fv_10_14, fv_10_15, fv_10_16, fv_10_17, fv_10_18, fv_10_19, fv_10_20, fv_10_21, fv_10_22, fv_10_23, fv_10_24, fv_10_25, fv_10_26, fv_10_27, fv_10_28, kt_33, al_33, kt_34, al_34, kt_36, al_36, kt_37, al_37, kt_38, al_38, kt_39, al_39, kt_41, al_41, kt_42, al_42, kt_43, al_43, kt_45, al_45, kt_65, al_65, kt_66, al_66, kt_67, al_67, kt_68, al_68, kt_97, al_97, kt_98, al_98, kt_128, al_128, kt_129, al_129, kt_160, al_160, kt_163, al_163, kt_164, al_164, kt_192, al_192, kt_260, al_260, kt_261, al_261, kt_262, al_262, kt_263, al_263, kt_264, al_264, kt_288, al_288, kt_330, al_330, kt_331, al_331, kt_333, al_333, kt_334, al_334, kt_353, al_353, kt_356, al_356, kt_357, al_357, kt_358, al_358, kt_361, al_361, kt_362, al_362, kt_363, al_363, kt_364, al_364, kt_366, al_366, kt_367, al_367, kt_368, al_368, kt_369, al_369, kt_373, al_373, kt_374, al_374, kt_375, al_375, kt_376, al_376, kt_378, al_378, kt_379, al_379, Option.bind_some, Option.map_some, Option.map_none, cond_true, cond_false, List.nil_append, Bool.and_true, Bool.true_and, Bool.or_true, Bool.true_or, Nat.reduceAdd, Nat.reduceMul, ↓reduceIte, en_X11_emit, B_X11_emit_0, lit_n, ib_n, nI_add, pk_mul, nI_sub, nI_eq, nI_leI, nI_ltI, nI_clamp, m1_eq, m1_eq', m1_lt, m1_lt', m1_le, m1_le', nI_or, nI_and, nI_1shl, nI_shr, and31, bit_n, nI_b0, nI_b1, Nat.reduceEqDiff, or_true, true_or, or_false, false_or, not_true_eq_false, not_false_eq_true, Nat.le_refl, Nat.lt_irrefl, Nat.zero_le, Nat.not_lt_zero, sI_1, sI_2, sA_1, sA_2, sJ_1, sJ_21, sJ_22, sE_1, sE_21, sE_22, false_and, and_false, true_and, and_true, and_self, ↓reduceIte, Nat.reduceEqDiff, Nat.reduceLeDiff, h65, nar_10]
  have k1 : ∀ f k, f = 362 ∨ f = 367 ∨ f = 369 ∨ f = 371 ∨ f = 372 → w1.1 f 0 k = (sI (sI (sI w 372 0 0 (nI (onc s ||| 2 ^ 1))) 359 0 0 (nI (i + 1))) 362 0 74 (nI 0)).1 f 0 k ∧ w1.2.1 f 0 k = w.2.1 f 0 k := fun f k a => by
    have := K1 f 0 k (fun q => by have q : f = 359 ∨ f = 360 ∨ f = 365 ∨ ((f = 363 ∨ f = 364) ∧ 1100 ≤ k) := q; omega)
    exact ⟨this.1, this.2.1⟩
  have kc : ∀ f k, f = 362 ∨ f = 367 ∨ f = 369 ∨ f = 371 ∨ f = 372 → (sI (sI (sI w1 363 0 (1100 + r.C.length) (nI 0)) 364 0 (1100 + r.C.length) (nI 0)) 365 0 0 (nI (r.C.length + 1))).1 f 0 k = w1.1 f 0 k := fun f k a => (Kc f 0 k (fun q => by have q : f = 365 ∨ ((f = 363 ∨ f = 364) ∧ 1100 ≤ k) := q; omega)).1
  refine ⟨_, ?_, (((AMv.ofp Ka).tr (Kb.mono fun f i k q => ?_)).tr (AMv.ofl K1)).tr (Kc.mono fun f i k q => ?_), L1.1.kp Kc (fun f k hf q => by have q : f = 365 ∨ ((f = 363 ∨ f = 364) ∧ 1100 ≤ k) := q; omega), ⟨?_, ⟨?_, fun k hk => ⟨?_, ?_⟩⟩, ?_, (fun q => nomatch q), fun _ => ⟨?_, ?_, fun j hj => ?_, ?_⟩⟩⟩
  · generalize onc s = o at *
    simp (disch := omega) only [lgI_0, lgI_s, lgJ_0, lgJ_s, lgR_0, lgR_s, ls1_0, ls1_1, ls1_s, ls2_0, ls2_1, ls2_s, lk_0, lk_s, isLg_n, isLg_I, isLg_J, isLg_R, pI_c, pJ_c, pR_c, pO_c, pV_I, pV_R, x_ci, x_cl, x_cn, x_is, x_ls, x_as, x_kill, x_iadd, x_isub, x_imul, x_iand, x_ior, x_ixor, x_ishl, x_ishr, x_iushr, x_idiv, x_irem, x_ineg, x_ladd, x_lsub, x_lmul, x_land, x_lor, x_ldiv, x_lrem, x_lcmp, x_lshl, x_lshr, x_i2l, x_l2i, x_i2c, x_ifeq, x_iceq, x_ifne, x_icne, x_iflt, x_iclt, x_ifge, x_icge, x_ifgt, x_icgt, x_ifle, x_icle, x_gf, x_pf, x_pz, x_pj, x_pe, x_aa, x_ja, x_ra, x_sa, x_sj, x_len, x_ge, x_ace, x_acn, x_max, x_min, x_sw, x_kn, x_tx, x_lenS, x_kna, x_ecd, x_sv, x_sc, x_sb, x_i2b, x_il0, x_ll0, x_al0, x_inc0, x_il1, x_ll1, x_al1, x_inc1, x_il2, x_ll2, x_al2, x_inc2, x_il3, x_ll3, x_al3, x_inc3, x_il4, x_ll4, x_al4, x_inc4, x_il5, x_ll5, x_al5, x_inc5, x_il6, x_ll6, x_al6, x_inc6, x_il7, x_ll7, x_al7, x_inc7, x_il8, x_ll8, x_al8, x_inc8, x_il9, x_ll9, x_al9, x_inc9, x_il10, x_ll10, x_al10, x_inc10, x_il11, x_ll11, x_al11, x_inc11, x_il12, x_ll12, x_al12, x_inc12, x_il13, x_ll13, x_al13, x_inc13, x_dupI, x_popI, x_dupR, x_popR, x_dup2IR, x_dup2II, x_goto, x_ret, x_iret, x_zret, x_jret, x_rret, x_nulN, x_nulS, thn_s, x_call0, x_call1, x_callV1, x_call2, x_callV2, x_call3, x_callV3, x_call4, x_callV4, x_call5, x_callV5, x_call6, x_callV6, x_call7, x_callV7, tl_I, tl_J, tl_R, tl_U, stw_0, stw_I, stw_J, stw_R, ble_0, ble_1, ble_2, ble_3, ble_4, ble_5, ble_6, ble_7, ble_8, beq_r, rk_n, rk_s, fv_0_0, fv_0_1, fv_0_2, fv_0_3, fv_0_4, fv_0_5, fv_0_6, fv_0_7, fv_0_8, fv_0_9, fv_0_10, fv_0_11, fv_0_12, fv_0_13, fv_0_14, fv_0_15, fv_1_0, fv_1_1, fv_1_2, fv_1_3, fv_1_4, fv_2_0, fv_2_1, fv_2_2, fv_3_0, fv_3_1, fv_3_2, fv_4_0, fv_4_1, fv_4_2, fv_4_3, fv_4_4, fv_4_5, fv_5_0, fv_6_0, fv_6_1, fv_6_2, fv_7_0, fv_7_1, fv_7_2, fv_7_3, fv_7_4, fv_7_5, fv_7_6, fv_7_7, fv_7_8, fv_8_0, fv_8_1, fv_8_2, fv_8_3, fv_8_4, fv_8_5, fv_8_6, fv_8_7, fv_9_0, fv_9_1, fv_9_2, fv_9_3, fv_9_4, fv_9_5, fv_9_6, fv_9_7, fv_9_8, fv_9_9, fv_9_10, fv_9_11, fv_9_12, fv_9_13, fv_9_14, fv_10_0, fv_10_1, fv_10_2, fv_10_3, fv_10_4, fv_10_5, fv_10_6, fv_10_7, fv_10_8, fv_10_9, fv_10_10, fv_10_11, fv_10_12, fv_10_13, fv_10_14, fv_10_15, fv_10_16, fv_10_17, fv_10_18, fv_10_19, fv_10_20, fv_10_21, fv_10_22, fv_10_23, fv_10_24, fv_10_25, fv_10_26, fv_10_27, fv_10_28, kt_33, al_33, kt_34, al_34, kt_36, al_36, kt_37, al_37, kt_38, al_38, kt_39, al_39, kt_41, al_41, kt_42, al_42, kt_43, al_43, kt_45, al_45, kt_65, al_65, kt_66, al_66, kt_67, al_67, kt_68, al_68, kt_97, al_97, kt_98, al_98, kt_128, al_128, kt_129, al_129, kt_160, al_160, kt_163, al_163, kt_164, al_164, kt_192, al_192, kt_260, al_260, kt_261, al_261, kt_262, al_262, kt_263, al_263, kt_264, al_264, kt_288, al_288, kt_330, al_330, kt_331, al_331, kt_333, al_333, kt_334, al_334, kt_353, al_353, kt_356, al_356, kt_357, al_357, kt_358, al_358, kt_361, al_361, kt_362, al_362, kt_363, al_363, kt_364, al_364, kt_366, al_366, kt_367, al_367, kt_368, al_368, kt_369, al_369, kt_373, al_373, kt_374, al_374, kt_375, al_375, kt_376, al_376, kt_378, al_378, kt_379, al_379, Option.bind_some, Option.map_some, Option.map_none, cond_true, cond_false, List.nil_append, Bool.and_true, Bool.true_and, Bool.or_true, Bool.true_or, Nat.reduceAdd, Nat.reduceMul, ↓reduceIte, en_X11_readOnce, B_X11_readOnce_100, B_X11_readOnce_37, B_X11_readOnce_0, lit_n, ib_n, nI_add, pk_mul, nI_sub, nI_eq, nI_leI, nI_ltI, nI_clamp, m1_eq, m1_eq', m1_lt, m1_lt', m1_le, m1_le', nI_or, nI_and, nI_1shl, nI_shr, and31, bit_n, nI_b0, nI_b1, Nat.reduceEqDiff, or_true, true_or, or_false, false_or, not_true_eq_false, not_false_eq_true, Nat.le_refl, Nat.lt_irrefl, Nat.zero_le, Nat.not_lt_zero, sI_1, sI_2, sA_1, sA_2, sJ_1, sJ_21, sJ_22, sE_1, sE_21, sE_22, false_and, and_false, true_and, and_true, and_self, ↓reduceIte, Nat.reduceEqDiff, Nat.reduceLeDiff, g, ho, ht, h1, h2, c365, g1, g2, nar_10, at_none, st_none, ga_none, Option.isSome_none, Option.isSome_some, b2_f, b2_t, Bool.false_eq_true]
  · have q : f = 372 ∨ (f = 362 ∧ k = 74) := q
    show f = 359 ∨ f = 360 ∨ f = 365 ∨ f = 367 ∨ f = 369 ∨ f = 371 ∨ f = 372 ∨ (f = 362 ∧ 70 ≤ k) ∨ ((f = 363 ∨ f = 364) ∧ 1100 ≤ k)
    omega
  · have q : f = 365 ∨ ((f = 363 ∨ f = 364) ∧ 1100 ≤ k) := q
    show f = 359 ∨ f = 360 ∨ f = 365 ∨ f = 367 ∨ f = 369 ∨ f = 371 ∨ f = 372 ∨ (f = 362 ∧ 70 ≤ k) ∨ ((f = 363 ∨ f = 364) ∧ 1100 ≤ k)
    omega
  · have eg : ∀ k, ¬ k = 74 → (sI (sI (sI w1 363 0 (1100 + r.C.length) (nI 0)) 364 0 (1100 + r.C.length) (nI 0)) 365 0 0 (nI (r.C.length + 1))).1 362 0 k = w.1 362 0 k := fun k hk => by
      rw [kc 362 k (by omega), (k1 362 k (by omega)).1, sI_1, if_neg (by omega), sI_1, if_neg (by omega), sI_1, if_neg (by omega)]
    obtain ⟨p0, p1, p2, p3, p4, p5, p6, p7⟩ := hD.1
    have b7 := h.b
    exact ⟨(eg 70 (by omega)).trans p0, (eg 71 (by omega)).trans p1, (eg 72 (by omega)).trans p2, (eg 73 (by omega)).trans p3, fun p hp => (eg _ (by omega)).trans (p4 p hp), fun k hk => ⟨(eg _ (by omega)).trans (p5 k hk).1, (eg _ (by omega)).trans (p5 k hk).2.1, (eg _ (by omega)).trans (p5 k hk).2.2.1, (eg _ (by omega)).trans (p5 k hk).2.2.2⟩, fun k hk => ⟨(eg _ (by omega)).trans (p6 k hk).1, (eg _ (by omega)).trans (p6 k hk).2⟩, fun k hk => (eg _ (by omega)).trans (p7 k hk)⟩
  · rw [kc 371 0 (by omega), (k1 371 0 (by omega)).1, sI_1, if_neg (by omega), sI_1, if_neg (by omega), sI_1, if_neg (by omega)]; exact hD.2.1.1
  · rw [sI_2, sI_2, sI_2, (k1 367 k (by omega)).2]; exact (hD.2.1.2 k hk).1
  · rw [kc 369 k (by omega), (k1 369 k (by omega)).1, sI_1, if_neg (by omega), sI_1, if_neg (by omega), sI_1, if_neg (by omega)]; exact (hD.2.1.2 k hk).2
  · rw [kc 372 0 (by omega), (k1 372 0 (by omega)).1, sI_1, if_neg (by omega), sI_1, if_neg (by omega), sI_1, if_pos ⟨rfl, rfl, rfl⟩]
    have e1 : onc (setL s r.C) = onc s ||| 2 ^ 1 := by
      unfold onc
      rw [hl]
      show (if nR s.V = 0 then 0 else 1) + 2 = _
      by_cases c : nR s.V = 0
      · rw [if_pos c]; decide
      · rw [if_neg c]; decide
    rw [e1]
  · rw [kc 362 74 (by omega), (k1 362 74 (by omega)).1, sI_1, if_pos ⟨rfl, rfl, rfl⟩]
  · rw [sI_1, if_pos ⟨rfl, rfl, rfl⟩]; rfl
  · have hj : j < r.C.length := hj
    rw [sI_1, if_neg (by omega), sI_1, if_neg (by omega), sI_1, if_neg (by omega)]
    have e4 : (sI (sI (sI w1 363 0 (1100 + r.C.length) (nI 0)) 364 0 (1100 + r.C.length) (nI 0)) 365 0 0 (nI (r.C.length + 1))).1 364 0 (1100 + j) = w1.1 364 0 (1100 + j) := by rw [sI_1, if_neg (by omega), sI_1, if_neg (by omega), sI_1, if_neg (by omega)]
    rw [e4]
    exact L1.2.2 j hj
  · show (sI (sI (sI w1 363 0 (1100 + r.C.length) (nI 0)) 364 0 (1100 + r.C.length) (nI 0)) 365 0 0 (nI (r.C.length + 1))).1 363 0 (1100 + r.C.length) = nI 0
    rw [sI_1, if_neg (by omega), sI_1, if_neg (by omega), sI_1, if_pos ⟨rfl, rfl, rfl⟩]
theorem m_readLine (h : RTm w t T N i 0) (hN : NTk t T N) (hO : OKP t T) (hi : i < N) (hD : RDm w s) (hs : DOK s) : ∃ w', f_X11_readLine [(.inr (.inr (some (10, 0))))] w = some ((), w') ∧ Kp AMv w w' ∧ RTm w' t T N (lineF t T s (i, 0)).2.1 (lineF t T s (i, 0)).2.2 ∧ ((lineF t T s (i, 0)).2.2 = 0 → RDm w' (lineF t T s (i, 0)).1) := by
  have b7 := hs.1.P
  have b8 := hs.1.W
  have b4 := hs.1.D
  have fn : ∀ k (w' : Wd), 1 ≤ k → ((s, ((i, k + 16 * stT t T i) : St2)).2.2 = 0 → RDm w' (s, ((i, k + 16 * stT t T i) : St2)).1) := fun k w' hk q => by
    have q : k + 16 * stT t T i = 0 := q
    omega
  unfold lineF
  by_cases e0 : wdI t T i = some 0
  · rw [if_pos e0]
    by_cases hl : nP s.V = 7
    · rw [lnP_f hl]
      obtain ⟨w1, g1, K1, R1⟩ := m_linePF h hN hO e0 hD hs hl
      exact ⟨w1, g1, K1, R1, fn 5 w1 (by omega)⟩
    · rw [lnP_0 hl]
      obtain ⟨w1, g1, K1, R1, D1⟩ := m_linePG h hN hO hi e0 hD hs (by omega)
      exact ⟨w1, g1, K1, R1, fun q => by rw [if_pos q]; exact D1 q⟩
  · rw [if_neg e0]
    by_cases e2 : wdI t T i = some 2
    · rw [if_pos e2]
      by_cases hl : nW s.V = 8
      · rw [lnW_f hl]
        obtain ⟨w1, g1, K1, R1⟩ := m_lineWF h hO e2 hD hl
        exact ⟨w1, g1, K1, R1, fn 5 w1 (by omega)⟩
      · rw [lnW_0 hl]
        obtain ⟨w1, g1, K1, R1, D1⟩ := m_lineWG h hN hO hi e2 hD hs (by omega)
        exact ⟨w1, g1, K1, R1, fun q => by rw [if_pos q]; exact D1 q⟩
    · rw [if_neg e2]
      by_cases e4 : wdI t T i = some 4
      · rw [if_pos e4]
        by_cases hl : nD s.V = 4
        · rw [lnD_f hl]
          obtain ⟨w1, g1, K1, R1⟩ := m_lineDF h hN hO e4 hD hs hl
          exact ⟨w1, g1, K1, R1, fn 5 w1 (by omega)⟩
        · rw [lnD_0 hl]
          obtain ⟨w1, g1, K1, R1, D1⟩ := m_lineDG h hN hO hi e4 hD hs (by omega)
          exact ⟨w1, g1, K1, R1, fun q => by rw [if_pos q]; exact D1 q⟩
      · rw [if_neg e4]
        by_cases e6 : wdI t T i = some 6
        · rw [if_pos e6]
          by_cases hl : nR s.V = 0
          · rw [lnR_0 hl]
            obtain ⟨w1, g1, K1, R1, D1⟩ := m_onceR h hN hO hi e6 hD hs hl
            exact ⟨w1, m_notPWD h e0 e2 e4 g1, K1, R1, fun q => by rw [if_pos q]; exact D1 q⟩
          · rw [lnR_f hl]
            obtain ⟨w1, g1, K1, R1⟩ := m_onceF h hO (k := 0) (by omega) e6 hD.2.2.1 (by rw [onc_t0, decide_eq_false hl]; rfl)
            exact ⟨w1, m_notPWD h e0 e2 e4 g1, K1, R1, fn 3 w1 (by omega)⟩
        · rw [if_neg e6]
          by_cases e7 : wdI t T i = some 7
          · rw [if_pos e7]
            cases hl : s.L with
            | false =>
              rw [lnL_0 hl]
              obtain ⟨w1, g1, K1, R1, D1⟩ := m_onceL h hN hO hi e7 hD hl
              exact ⟨w1, m_notPWD h e0 e2 e4 g1, K1, R1, fun q => by rw [if_pos q]; exact D1⟩
            | true =>
              rw [lnL_f hl]
              obtain ⟨w1, g1, K1, R1⟩ := m_onceF h hO (k := 1) (by omega) e7 hD.2.2.1 (by rw [onc_t1, hl])
              exact ⟨w1, m_notPWD h e0 e2 e4 g1, K1, R1, fn 3 w1 (by omega)⟩
          · rw [if_neg e7]
            obtain ⟨w1, g1, K1, R1⟩ := m_onceX h hO e6 e7
            exact ⟨w1, m_notPWD h e0 e2 e4 g1, K1, R1, fn 1 w1 (by omega)⟩
end MLN
