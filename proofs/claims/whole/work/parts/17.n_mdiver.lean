/-! ===== the reference reads a diver, a way ===== -/
section MDIV
variable {w w' : Wd} {t : Nat} {T : Nat → Nat} {N i e : Nat} {s : DSt}
theorem m_lineDF (h : RTm w t T N i 0) (hN : NTk t T N) (hO : OKP t T) (hw : wdI t T i = some 4) (hD : RDm w s) (hs : DOK s) (hl : nD s.V = 4) : ∃ w', f_X11_readLine [(.inr (.inr (some (10, 0))))] w = some ((), w') ∧ Kp AMv w w' ∧ RTm w' t T N i (5 + 16 * stT t T i) := by
  have gw0 := m_isWord h (j := 0) (by omega)
  rw [hw, decide_eq_false (fun q => by have := Option.some.inj q.2; omega)] at gw0
  have gw2 := m_isWord h (j := 2) (by omega)
  rw [hw, decide_eq_false (fun q => by have := Option.some.inj q.2; omega)] at gw2
  have gw := m_isWord h (j := 4) (by omega)
  rw [decide_eq_true ⟨rfl, hw⟩] at gw
  have hP := hD.1.2.2.1
  rw [hl] at hP
  obtain ⟨w1, g1, K1, R1⟩ := m_readNameF h hO (mn := 2) (ms := 4) (by omega) (by omega) hP (nI 20)
  have hne : ¬ ((i, 5 + 16 * stT t T i) : St2).2 = 0 := by show ¬ 5 + 16 * stT t T i = 0; omega
  obtain ⟨w2, g2, K2, R2⟩ := m_takeOne R1 hN hO (f := 17) (m := 4) (by omega)
  rw [ckT_e hne] at g2 R2
  obtain ⟨w3, g3, K3, R3⟩ := m_takeAfter R2 hN hO (j := 5) (lo := 1) (hi := 900) (by omega) (by omega) (by omega)
  have e0 : ((((i, 5 + 16 * stT t T i) : St2).1, ((i, 5 + 16 * stT t T i) : St2).2) : St2) = (i, 5 + 16 * stT t T i) := rfl
  rw [e0, ckT_e hne, ckT_e hne] at g3 R3
  have h4 : w3.1 360 0 0 = nI (5 + 16 * stT t T i) := R3.ft
  have h5 : 5 + 16 * stT t T i ≤ 20000 := R3.b.2
  refine ⟨w3, ?_, AMv.ofp ((K1.tr K2).tr K3), R3⟩
  have h6 : ¬ 5 + 16 * stT t T i = 0 := by omega
  generalize nI (if ((i, 5 + 16 * stT t T i) : St2).2 = 0 then (woF (wdI t T i) 17 4).getD 0 else 0) = y2 at *
  generalize nI (if ((i, 5 + 16 * stT t T i) : St2).2 = 0 then nvI t T ((i, 5 + 16 * stT t T i) : St2).1 else 0) = y3 at *
  generalize 5 + 16 * stT t T i = y at *
  simp (disch := omega) only [lgI_0, lgI_s, lgJ_0, lgJ_s, lgR_0, lgR_s, ls1_0, ls1_1, ls1_s, ls2_0, ls2_1, ls2_s, lk_0, lk_s, isLg_n, isLg_I, isLg_J, isLg_R, pI_c, pJ_c, pR_c, pO_c, pV_I, pV_R, x_ci, x_cl, x_cn, x_is, x_ls, x_as, x_kill, x_iadd, x_isub, x_imul, x_iand, x_ior, x_ixor, x_ishl, x_ishr, x_iushr, x_idiv, x_irem, x_ineg, x_ladd, x_lsub, x_lmul, x_land, x_lor, x_ldiv, x_lrem, x_lcmp, x_lshl, x_lshr, x_i2l, x_l2i, x_i2c, x_ifeq, x_iceq, x_ifne, x_icne, x_iflt, x_iclt, x_ifge, x_icge, x_ifgt, x_icgt, x_ifle, x_icle, x_gf, x_pf, x_pz, x_pj, x_pe, x_aa, x_ja, x_ra, x_sa, x_sj, x_len, x_ge, x_ace, x_acn, x_max, x_min, x_sw, x_kn, x_tx, x_lenS, x_kna, x_ecd, x_sv, x_sc, x_sb, x_i2b, x_il0, x_ll0, x_al0, x_inc0, x_il1, x_ll1, x_al1, x_inc1, x_il2, x_ll2, x_al2, x_inc2, x_il3, x_ll3, x_al3, x_inc3, x_il4, x_ll4, x_al4, x_inc4, x_il5, x_ll5, x_al5, x_inc5, x_il6, x_ll6, x_al6, x_inc6, x_il7, x_ll7, x_al7, x_inc7, x_il8, x_ll8, x_al8, x_inc8, x_il9, x_ll9, x_al9, x_inc9, x_il10, x_ll10, x_al10, x_inc10, x_il11, x_ll11, x_al11, x_inc11, x_il12, x_ll12, x_al12, x_inc12, x_il13, x_ll13, x_al13, x_inc13, x_dupI, x_popI, x_dupR, x_popR, x_dup2IR, x_dup2II, x_goto, x_ret, x_iret, x_zret, x_jret, x_rret, x_nulN, x_nulS, thn_s, x_call0, x_call1, x_callV1, x_call2, x_callV2, x_call3, x_callV3, x_call4, x_callV4, x_call5, x_callV5, x_call6, x_callV6, x_call7, x_callV7, tl_I, tl_J, tl_R, tl_U, stw_0, stw_I, stw_J, stw_R, ble_0, ble_1, ble_2, ble_3, ble_4, ble_5, ble_6, ble_7, ble_8, beq_r, rk_n, rk_s, fv_0_0, fv_0_1, fv_0_2, fv_0_3, fv_0_4, fv_0_5, fv_0_6, fv_0_7, fv_0_8, fv_0_9, fv_0_10, fv_0_11, fv_0_12, fv_0_13, fv_0_14, fv_0_15, fv_1_0, fv_1_1, fv_1_2, fv_1_3, fv_1_4, fv_2_0, fv_2_1, fv_2_2, fv_3_0, fv_3_1, fv_3_2, fv_4_0, fv_4_1, fv_4_2, fv_4_3, fv_4_4, fv_4_5, fv_5_0, fv_6_0, fv_6_1, fv_6_2, fv_7_0, fv_7_1, fv_7_2, fv_7_3, fv_7_4, fv_7_5, fv_7_6, fv_7_7, fv_7_8, fv_8_0, fv_8_1, fv_8_2, fv_8_3, fv_8_4, fv_8_5, fv_8_6, fv_8_7, fv_9_0, fv_9_1, fv_9_2, fv_9_3, fv_9_4, fv_9_5, fv_9_6, fv_9_7, fv_9_8, fv_9_9, fv_9_10, fv_9_11, fv_9_12, fv_9_13, fv_9_14, fv_10_0, fv_10_1, fv_10_2, fv_10_3, fv_10_4, fv_10_5, fv_10_6, fv_10_7, fv_10_8, fv_10_9, fv_10_10, fv_10_11, fv_10_12, fv_10_13, fv_10_14, fv_10_15, fv_10_16, fv_10_17, fv_10_18, fv_10_19, fv_10_20, fv_10_21, fv_10_22, fv_10_23, fv_10_24, fv_10_25, fv_10_26, fv_10_27, fv_10_28, kt_33, al_33, kt_34, al_34, kt_36, al_36, kt_37, al_37, kt_38, al_38, kt_39, al_39, kt_41, al_41, kt_42, al_42, kt_43, al_43, kt_45, al_45, kt_65, al_65, kt_66, al_66, kt_67, al_67, kt_68, al_68, kt_97, al_97, kt_98, al_98, kt_128, al_128, kt_129, al_129, kt_160, al_160, kt_163, al_163, kt_164, al_164, kt_192, al_192, kt_260, al_260, kt_261, al_261, kt_262, al_262, kt_263, al_263, kt_264, al_264, kt_288, al_288, kt_330, al_330, kt_331, al_331, kt_333, al_333, kt_334, al_334, kt_353, al_353, kt_356, al_356, kt_357, al_357, kt_358, al_358, kt_361, al_361, kt_362, al_362, kt_363, al_363, kt_364, al_364, kt_366, al_366, kt_367, al_367, kt_368, al_368, kt_369, al_369, kt_373, al_373, kt_374, al_374, kt_375, al_375, kt_376, al_376, kt_378, al_378, kt_379, al_379, Option.bind_some, Option.map_some, Option.map_none, cond_true, cond_false, List.nil_append, Bool.and_true, Bool.true_and, Bool.or_true, Bool.true_or, Nat.reduceAdd, Nat.reduceMul, ↓reduceIte, en_X11_readLine, B_X11_readLine_145, B_X11_readLine_138, B_X11_readLine_50, B_X11_readLine_0, lit_n, ib_n, nI_add, pk_mul, nI_sub, nI_eq, nI_leI, nI_ltI, nI_clamp, m1_eq, m1_eq', m1_lt, m1_lt', m1_le, m1_le', nI_or, nI_and, nI_1shl, nI_shr, and31, bit_n, nI_b0, nI_b1, Nat.reduceEqDiff, or_true, true_or, or_false, false_or, not_true_eq_false, not_false_eq_true, Nat.le_refl, Nat.lt_irrefl, Nat.zero_le, Nat.not_lt_zero, sI_1, sI_2, sA_1, sA_2, sJ_1, sJ_21, sJ_22, sE_1, sE_21, sE_22, false_and, and_false, true_and, and_true, and_self, ↓reduceIte, Nat.reduceEqDiff, Nat.reduceLeDiff, gw0, gw2, gw, hP, g1, g2, g3, h4, h6, at_none, st_none, ga_none, Option.isSome_none, Option.isSome_some, b2_f, b2_t, Bool.false_eq_true]
theorem m_lineDG (h : RTm w t T N i 0) (hN : NTk t T N) (hO : OKP t T) (hi : i < N) (hw : wdI t T i = some 4) (hD : RDm w s) (hs : DOK s) (hl : nD s.V < 4) : ∃ w', f_X11_readLine [(.inr (.inr (some (10, 0))))] w = some ((), w') ∧ Kp AMv w w' ∧ RTm w' t T N (ckT t T (cNum t T 1 900) (ckT t T (cWd t T 5) (ckT t T (cKnd t T) (ckT t T (cNew t T s) (i + 1, 0))))).1 (ckT t T (cNum t T 1 900) (ckT t T (cWd t T 5) (ckT t T (cKnd t T) (ckT t T (cNew t T s) (i + 1, 0))))).2 ∧ ((ckT t T (cNum t T 1 900) (ckT t T (cWd t T 5) (ckT t T (cKnd t T) (ckT t T (cNew t T s) (i + 1, 0))))).2 = 0 → RDm w' (addD s (wlI t T (i + 1)) ((kdOf (wdI t T (i + 2))).getD 0) (nvI t T (i + 4)))) := by
  have b7 := hs.1.P
  have b8 := hs.1.W
  have gw0 := m_isWord h (j := 0) (by omega)
  rw [hw, decide_eq_false (fun q => by have := Option.some.inj q.2; omega)] at gw0
  have gw2 := m_isWord h (j := 2) (by omega)
  rw [hw, decide_eq_false (fun q => by have := Option.some.inj q.2; omega)] at gw2
  have gw := m_isWord h (j := 4) (by omega)
  rw [decide_eq_true ⟨rfl, hw⟩] at gw
  have hP := hD.1.2.2.1
  obtain ⟨w1, g1, K1, R1, F1⟩ := m_readName h hN hO hi hD.2.1 hs.2 hs.1 (mn := 2) (ms := 4) (fr := 20) (n := nD s.V) (by omega) hP hl (by omega) (by omega) (by omega)
  obtain ⟨w2, g2, K2, R2⟩ := m_takeOne R1 hN hO (f := 17) (m := 4) (by omega)
  have e0 : (((ckT t T (cNew t T s) (i + 1, 0)).1, (ckT t T (cNew t T s) (i + 1, 0)).2) : St2) = ckT t T (cNew t T s) (i + 1, 0) := rfl
  rw [e0, ← cKnd_1] at g2 R2
  obtain ⟨w3, g3, K3, R3⟩ := m_takeAfter R2 hN hO (j := 5) (lo := 1) (hi := 900) (by omega) (by omega) (by omega)
  have e1 : (((ckT t T (cKnd t T) (ckT t T (cNew t T s) (i + 1, 0))).1, (ckT t T (cKnd t T) (ckT t T (cNew t T s) (i + 1, 0))).2) : St2) = ckT t T (cKnd t T) (ckT t T (cNew t T s) (i + 1, 0)) := rfl
  rw [e1] at g3 R3
  have h4 := R3.ft
  have h5 := R3.b
  by_cases hq : (ckT t T (cNum t T 1 900) (ckT t T (cWd t T 5) (ckT t T (cKnd t T) (ckT t T (cNew t T s) (i + 1, 0))))).2 = 0
  · obtain ⟨a1, a2, a3⟩ := ckT_ok hq
    obtain ⟨b1, b2, b3⟩ := ckT_ok a1
    obtain ⟨c1, c2, c3⟩ := ckT_ok b1
    obtain ⟨d1, d2, d3⟩ := ckT_ok c1
    have e : (ckT t T (cWd t T 5) (ckT t T (cKnd t T) (ckT t T (cNew t T s) (i + 1, 0)))).1 = i + 4 := by rw [b3, c3, d3]
    have e2 : (ckT t T (cNew t T s) (i + 1, 0)).1 = i + 2 := by rw [d3]
    rw [if_pos hq, e] at g3
    rw [if_pos b1, e2] at g2
    rw [hq] at h4
    rw [e2] at c2
    obtain ⟨-, k0, hk0, k4⟩ := cKnd_ok c2
    have hw17 : woF (wdI t T (i + 2)) 17 4 = kdOf (wdI t T (i + 2)) := by
      cases wdI t T (i + 2) with
      | none => rfl
      | some j => rfl
    rw [hw17, hk0] at g2
    rw [hk0]
    have g2 : f_X11_takeOne [(.inr (.inr (some (10, 0)))), (.inl (nI 17)), (.inl (nI 4))] w1 = some (nI k0, w2) := g2
    show ∃ w', _ ∧ _ ∧ _ ∧ (_ → RDm w' (addD s (wlI t T (i + 1)) k0 (nvI t T (i + 4))))
    obtain ⟨f1, f2, f3, f4⟩ := F1 c1
    have K4 : Kp AMn w3 (sI (sI w3 362 0 (114 + 2 * nD s.V) (nI k0)) 362 0 (114 + 2 * nD s.V + 1) (nI (nvI t T (i + 4)))) := (Kp.sI (Or.inr (Or.inr (Or.inr (Or.inr (Or.inr ⟨rfl, by omega⟩)))))).tr (Kp.sI (Or.inr (Or.inr (Or.inr (Or.inr (Or.inr ⟨rfl, by omega⟩))))))
    have Kz : Kp (fun f _ _ => f = 362) w3 (sI (sI w3 362 0 (114 + 2 * nD s.V) (nI k0)) 362 0 (114 + 2 * nD s.V + 1) (nI (nvI t T (i + 4)))) := (Kp.sI rfl).tr (Kp.sI rfl)
    have k2 : ∀ f k, ¬ f = 359 → ¬ f = 360 → w3.1 f 0 k = w1.1 f 0 k ∧ w3.2.1 f 0 k = w1.2.1 f 0 k := fun f k a b => by
      have := (K2.tr K3) f 0 k (fun q => by have q : f = 359 ∨ f = 360 := q; omega)
      exact ⟨this.1, this.2.1⟩
    have k1 : ∀ f k, f = 363 ∨ f = 364 ∨ f = 365 ∨ f = 372 → w1.1 f 0 k = w.1 f 0 k := fun f k a => (K1 f 0 k (fun q => by have q : f = 359 ∨ f = 360 ∨ f = 367 ∨ f = 369 ∨ f = 371 ∨ (f = 362 ∧ 70 ≤ k) := q; omega)).1
    have kw : ∀ f k, ¬ f = 362 → (sI (sI w3 362 0 (114 + 2 * nD s.V) (nI k0)) 362 0 (114 + 2 * nD s.V + 1) (nI (nvI t T (i + 4)))).1 f 0 k = w3.1 f 0 k := fun f k a => by rw [sI_1, if_neg (by omega), sI_1, if_neg (by omega)]
    refine ⟨_, ?_, AMv.ofn (((K1.tr (AMn.of K2)).tr (AMn.of K3)).tr K4), R3.kp Kz (fun f k hf q => by have q : f = 362 := q; omega), fun _ => ⟨hD.1.addD hl b7 b8 (fun k => ?_), ⟨?_, fun k hk => ⟨?_, ?_⟩⟩, ?_, ?_⟩⟩
    · have hv := nvI_b (cNum_ok (show cNum t T 1 900 (i + 4) = 0 from by rw [← e]; exact a2)).1
      generalize nvI t T (i + 4) = z at *
      generalize nD s.V = n at *
      simp (disch := omega) only [lgI_0, lgI_s, lgJ_0, lgJ_s, lgR_0, lgR_s, ls1_0, ls1_1, ls1_s, ls2_0, ls2_1, ls2_s, lk_0, lk_s, isLg_n, isLg_I, isLg_J, isLg_R, pI_c, pJ_c, pR_c, pO_c, pV_I, pV_R, x_ci, x_cl, x_cn, x_is, x_ls, x_as, x_kill, x_iadd, x_isub, x_imul, x_iand, x_ior, x_ixor, x_ishl, x_ishr, x_iushr, x_idiv, x_irem, x_ineg, x_ladd, x_lsub, x_lmul, x_land, x_lor, x_ldiv, x_lrem, x_lcmp, x_lshl, x_lshr, x_i2l, x_l2i, x_i2c, x_ifeq, x_iceq, x_ifne, x_icne, x_iflt, x_iclt, x_ifge, x_icge, x_ifgt, x_icgt, x_ifle, x_icle, x_gf, x_pf, x_pz, x_pj, x_pe, x_aa, x_ja, x_ra, x_sa, x_sj, x_len, x_ge, x_ace, x_acn, x_max, x_min, x_sw, x_kn, x_tx, x_lenS, x_kna, x_ecd, x_sv, x_sc, x_sb, x_i2b, x_il0, x_ll0, x_al0, x_inc0, x_il1, x_ll1, x_al1, x_inc1, x_il2, x_ll2, x_al2, x_inc2, x_il3, x_ll3, x_al3, x_inc3, x_il4, x_ll4, x_al4, x_inc4, x_il5, x_ll5, x_al5, x_inc5, x_il6, x_ll6, x_al6, x_inc6, x_il7, x_ll7, x_al7, x_inc7, x_il8, x_ll8, x_al8, x_inc8, x_il9, x_ll9, x_al9, x_inc9, x_il10, x_ll10, x_al10, x_inc10, x_il11, x_ll11, x_al11, x_inc11, x_il12, x_ll12, x_al12, x_inc12, x_il13, x_ll13, x_al13, x_inc13, x_dupI, x_popI, x_dupR, x_popR, x_dup2IR, x_dup2II, x_goto, x_ret, x_iret, x_zret, x_jret, x_rret, x_nulN, x_nulS, thn_s, x_call0, x_call1, x_callV1, x_call2, x_callV2, x_call3, x_callV3, x_call4, x_callV4, x_call5, x_callV5, x_call6, x_callV6, x_call7, x_callV7, tl_I, tl_J, tl_R, tl_U, stw_0, stw_I, stw_J, stw_R, ble_0, ble_1, ble_2, ble_3, ble_4, ble_5, ble_6, ble_7, ble_8, beq_r, rk_n, rk_s, fv_0_0, fv_0_1, fv_0_2, fv_0_3, fv_0_4, fv_0_5, fv_0_6, fv_0_7, fv_0_8, fv_0_9, fv_0_10, fv_0_11, fv_0_12, fv_0_13, fv_0_14, fv_0_15, fv_1_0, fv_1_1, fv_1_2, fv_1_3, fv_1_4, fv_2_0, fv_2_1, fv_2_2, fv_3_0, fv_3_1, fv_3_2, fv_4_0, fv_4_1, fv_4_2, fv_4_3, fv_4_4, fv_4_5, fv_5_0, fv_6_0, fv_6_1, fv_6_2, fv_7_0, fv_7_1, fv_7_2, fv_7_3, fv_7_4, fv_7_5, fv_7_6, fv_7_7, fv_7_8, fv_8_0, fv_8_1, fv_8_2, fv_8_3, fv_8_4, fv_8_5, fv_8_6, fv_8_7, fv_9_0, fv_9_1, fv_9_2, fv_9_3, fv_9_4, fv_9_5, fv_9_6, fv_9_7, fv_9_8, fv_9_9, fv_9_10, fv_9_11, fv_9_12, fv_9_13, fv_9_14, fv_10_0, fv_10_1, fv_10_2, fv_10_3, fv_10_4, fv_10_5, fv_10_6, fv_10_7, fv_10_8, fv_10_9, fv_10_10, fv_10_11, fv_10_12, fv_10_13, fv_10_14, fv_10_15, fv_10_16, fv_10_17, fv_10_18, fv_10_19, fv_10_20, fv_10_21, fv_10_22, fv_10_23, fv_10_24, fv_10_25, fv_10_26, fv_10_27, fv_10_28, kt_33, al_33, kt_34, al_34, kt_36, al_36, kt_37, al_37, kt_38, al_38, kt_39, al_39, kt_41, al_41, kt_42, al_42, kt_43, al_43, kt_45, al_45, kt_65, al_65, kt_66, al_66, kt_67, al_67, kt_68, al_68, kt_97, al_97, kt_98, al_98, kt_128, al_128, kt_129, al_129, kt_160, al_160, kt_163, al_163, kt_164, al_164, kt_192, al_192, kt_260, al_260, kt_261, al_261, kt_262, al_262, kt_263, al_263, kt_264, al_264, kt_288, al_288, kt_330, al_330, kt_331, al_331, kt_333, al_333, kt_334, al_334, kt_353, al_353, kt_356, al_356, kt_357, al_357, kt_358, al_358, kt_361, al_361, kt_362, al_362, kt_363, al_363, kt_364, al_364, kt_366, al_366, kt_367, al_367, kt_368, al_368, kt_369, al_369, kt_373, al_373, kt_374, al_374, kt_375, al_375, kt_376, al_376, kt_378, al_378, kt_379, al_379, Option.bind_some, Option.map_some, Option.map_none, cond_true, cond_false, List.nil_append, Bool.and_true, Bool.true_and, Bool.or_true, Bool.true_or, Nat.reduceAdd, Nat.reduceMul, ↓reduceIte, en_X11_readLine, B_X11_readLine_145, B_X11_readLine_138, B_X11_readLine_50, B_X11_readLine_0, lit_n, ib_n, nI_add, pk_mul, nI_sub, nI_eq, nI_leI, nI_ltI, nI_clamp, m1_eq, m1_eq', m1_lt, m1_lt', m1_le, m1_le', nI_or, nI_and, nI_1shl, nI_shr, and31, bit_n, nI_b0, nI_b1, Nat.reduceEqDiff, or_true, true_or, or_false, false_or, not_true_eq_false, not_false_eq_true, Nat.le_refl, Nat.lt_irrefl, Nat.zero_le, Nat.not_lt_zero, sI_1, sI_2, sA_1, sA_2, sJ_1, sJ_21, sJ_22, sE_1, sE_21, sE_22, false_and, and_false, true_and, and_true, and_self, ↓reduceIte, Nat.reduceEqDiff, Nat.reduceLeDiff, gw0, gw2, gw, hP, g1, g2, g3, h4, nar_10, at_none, st_none, ga_none, Option.isSome_none, Option.isSome_some, b2_f, b2_t, Bool.false_eq_true]
    · rw [sI_1]
      by_cases c : k = 114 + 2 * nD s.V + 1
      · rw [if_pos ⟨rfl, rfl, c⟩, if_pos c]
      · rw [if_neg (by omega), if_neg c, sI_1]
        by_cases c2 : k = 114 + 2 * nD s.V
        · rw [if_pos ⟨rfl, rfl, c2⟩, if_pos c2]
        · rw [if_neg (by omega), if_neg c2, (k2 362 k (by omega) (by omega)).1, f4 k]
    · rw [kw 371 0 (by omega), (k2 371 0 (by omega) (by omega)).1, f1]; rfl
    · have hk : k < nP s.V + (nD s.V + 1) := hk
      rw [sI_2, sI_2, (k2 367 k (by omega) (by omega)).2, f2 k]
      show _ = lN (cd 37 (if k = nP s.V + nD s.V then wlI t T (i + 1) else s.N k))
      by_cases c : k = nP s.V + nD s.V
      · rw [if_pos c, if_pos c]
      · rw [if_neg c, if_neg c]; exact (hD.2.1.2 k (by omega)).1
    · have hk : k < nP s.V + (nD s.V + 1) := hk
      rw [kw 369 k (by omega), (k2 369 k (by omega) (by omega)).1, f3 k]
      show _ = nI (if k = nP s.V + nD s.V then 20 + nD s.V else s.O k)
      by_cases c : k = nP s.V + nD s.V
      · rw [if_pos c, if_pos c]
      · rw [if_neg c, if_neg c]; exact (hD.2.1.2 k (by omega)).2
    · rw [kw 372 0 (by omega), (k2 372 0 (by omega) (by omega)).1, k1 372 0 (by omega)]; exact hD.2.2.1
    · have hL : LWm w (addD s (wlI t T (i + 1)) k0 (nvI t T (i + 4))) := hD.2.2.2
      refine hL.eq ?_ ?_ (fun k => ?_) (fun k => ?_)
      · rw [sI_1, if_neg (by omega), sI_1, if_neg (by omega), (k2 362 74 (by omega) (by omega)).1, f4 74, if_neg (by omega)]
      · rw [kw 365 0 (by omega), (k2 365 0 (by omega) (by omega)).1, k1 365 0 (by omega)]
      · rw [kw 363 k (by omega), (k2 363 k (by omega) (by omega)).1, k1 363 k (by omega)]
      · rw [kw 364 k (by omega), (k2 364 k (by omega) (by omega)).1, k1 364 k (by omega)]
  · rw [if_neg hq] at g3
    refine ⟨w3, ?_, AMv.ofn ((K1.tr (AMn.of K2)).tr (AMn.of K3)), R3, fun q => absurd q hq⟩
    generalize nI (if (ckT t T (cKnd t T) (ckT t T (cNew t T s) (i + 1, 0))).2 = 0 then (woF (wdI t T (ckT t T (cNew t T s) (i + 1, 0)).1) 17 4).getD 0 else 0) = y2 at *
    generalize (ckT t T (cNum t T 1 900) (ckT t T (cWd t T 5) (ckT t T (cKnd t T) (ckT t T (cNew t T s) (i + 1, 0))))).2 = z at *
    generalize nD s.V = n at *
    simp (disch := omega) only [lgI_0, lgI_s, lgJ_0, lgJ_s, lgR_0, lgR_s, ls1_0, ls1_1, ls1_s, ls2_0, ls2_1, ls2_s, lk_0, lk_s, isLg_n, isLg_I, isLg_J, isLg_R, pI_c, pJ_c, pR_c, pO_c, pV_I, pV_R, x_ci, x_cl, x_cn, x_is, x_ls, x_as, x_kill, x_iadd, x_isub, x_imul, x_iand, x_ior, x_ixor, x_ishl, x_ishr, x_iushr, x_idiv, x_irem, x_ineg, x_ladd, x_lsub, x_lmul, x_land, x_lor, x_ldiv, x_lrem, x_lcmp, x_lshl, x_lshr, x_i2l, x_l2i, x_i2c, x_ifeq, x_iceq, x_ifne, x_icne, x_iflt, x_iclt, x_ifge, x_icge, x_ifgt, x_icgt, x_ifle, x_icle, x_gf, x_pf, x_pz, x_pj, x_pe, x_aa, x_ja, x_ra, x_sa, x_sj, x_len, x_ge, x_ace, x_acn, x_max, x_min, x_sw, x_kn, x_tx, x_lenS, x_kna, x_ecd, x_sv, x_sc, x_sb, x_i2b, x_il0, x_ll0, x_al0, x_inc0, x_il1, x_ll1, x_al1, x_inc1, x_il2, x_ll2, x_al2, x_inc2, x_il3, x_ll3, x_al3, x_inc3, x_il4, x_ll4, x_al4, x_inc4, x_il5, x_ll5, x_al5, x_inc5, x_il6, x_ll6, x_al6, x_inc6, x_il7, x_ll7, x_al7, x_inc7, x_il8, x_ll8, x_al8, x_inc8, x_il9, x_ll9, x_al9, x_inc9, x_il10, x_ll10, x_al10, x_inc10, x_il11, x_ll11, x_al11, x_inc11, x_il12, x_ll12, x_al12, x_inc12, x_il13, x_ll13, x_al13, x_inc13, x_dupI, x_popI, x_dupR, x_popR, x_dup2IR, x_dup2II, x_goto, x_ret, x_iret, x_zret, x_jret, x_rret, x_nulN, x_nulS, thn_s, x_call0, x_call1, x_callV1, x_call2, x_callV2, x_call3, x_callV3, x_call4, x_callV4, x_call5, x_callV5, x_call6, x_callV6, x_call7, x_callV7, tl_I, tl_J, tl_R, tl_U, stw_0, stw_I, stw_J, stw_R, ble_0, ble_1, ble_2, ble_3, ble_4, ble_5, ble_6, ble_7, ble_8, beq_r, rk_n, rk_s, fv_0_0, fv_0_1, fv_0_2, fv_0_3, fv_0_4, fv_0_5, fv_0_6, fv_0_7, fv_0_8, fv_0_9, fv_0_10, fv_0_11, fv_0_12, fv_0_13, fv_0_14, fv_0_15, fv_1_0, fv_1_1, fv_1_2, fv_1_3, fv_1_4, fv_2_0, fv_2_1, fv_2_2, fv_3_0, fv_3_1, fv_3_2, fv_4_0, fv_4_1, fv_4_2, fv_4_3, fv_4_4, fv_4_5, fv_5_0, fv_6_0, fv_6_1, fv_6_2, fv_7_0, fv_7_1, fv_7_2, fv_7_3, fv_7_4, fv_7_5, fv_7_6, fv_7_7, fv_7_8, fv_8_0, fv_8_1, fv_8_2, fv_8_3, fv_8_4, fv_8_5, fv_8_6, fv_8_7, fv_9_0, fv_9_1, fv_9_2, fv_9_3, fv_9_4, fv_9_5, fv_9_6, fv_9_7, fv_9_8, fv_9_9, fv_9_10, fv_9_11, fv_9_12, fv_9_13, fv_9_14, fv_10_0, fv_10_1, fv_10_2, fv_10_3, fv_10_4, fv_10_5, fv_10_6, fv_10_7, fv_10_8, fv_10_9, fv_10_10, fv_10_11, fv_10_12, fv_10_13, fv_10_14, fv_10_15, fv_10_16, fv_10_17, fv_10_18, fv_10_19, fv_10_20, fv_10_21, fv_10_22, fv_10_23, fv_10_24, fv_10_25, fv_10_26, fv_10_27, fv_10_28, kt_33, al_33, kt_34, al_34, kt_36, al_36, kt_37, al_37, kt_38, al_38, kt_39, al_39, kt_41, al_41, kt_42, al_42, kt_43, al_43, kt_45, al_45, kt_65, al_65, kt_66, al_66, kt_67, al_67, kt_68, al_68, kt_97, al_97, kt_98, al_98, kt_128, al_128, kt_129, al_129, kt_160, al_160, kt_163, al_163, kt_164, al_164, kt_192, al_192, kt_260, al_260, kt_261, al_261, kt_262, al_262, kt_263, al_263, kt_264, al_264, kt_288, al_288, kt_330, al_330, kt_331, al_331, kt_333, al_333, kt_334, al_334, kt_353, al_353, kt_356, al_356, kt_357, al_357, kt_358, al_358, kt_361, al_361, kt_362, al_362, kt_363, al_363, kt_364, al_364, kt_366, al_366, kt_367, al_367, kt_368, al_368, kt_369, al_369, kt_373, al_373, kt_374, al_374, kt_375, al_375, kt_376, al_376, kt_378, al_378, kt_379, al_379, Option.bind_some, Option.map_some, Option.map_none, cond_true, cond_false, List.nil_append, Bool.and_true, Bool.true_and, Bool.or_true, Bool.true_or, Nat.reduceAdd, Nat.reduceMul, ↓reduceIte, en_X11_readLine, B_X11_readLine_145, B_X11_readLine_138, B_X11_readLine_50, B_X11_readLine_0, lit_n, ib_n, nI_add, pk_mul, nI_sub, nI_eq, nI_leI, nI_ltI, nI_clamp, m1_eq, m1_eq', m1_lt, m1_lt', m1_le, m1_le', nI_or, nI_and, nI_1shl, nI_shr, and31, bit_n, nI_b0, nI_b1, Nat.reduceEqDiff, or_true, true_or, or_false, false_or, not_true_eq_false, not_false_eq_true, Nat.le_refl, Nat.lt_irrefl, Nat.zero_le, Nat.not_lt_zero, sI_1, sI_2, sA_1, sA_2, sJ_1, sJ_21, sJ_22, sE_1, sE_21, sE_22, false_and, and_false, true_and, and_true, and_self, ↓reduceIte, Nat.reduceEqDiff, Nat.reduceLeDiff, gw0, gw2, gw, hP, g1, g2, g3, h4, hq, at_none, st_none, ga_none, Option.isSome_none, Option.isSome_some, b2_f, b2_t, Bool.false_eq_true]
end MDIV
