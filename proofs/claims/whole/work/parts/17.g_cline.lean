/-! ===== the class reads the law; a line ===== -/
section CLN
variable {w w' : Wd} {t : Nat} {T : Nat → Nat} {i c N : Nat} {s : DSt}
theorem RDc.setL {C : List Int32} (h : RDc w c s) (hK : ∀ f k, 32 ≤ f → f ≤ 45 → w'.1 f c k = w.1 f c k ∧ w'.2.1 f c k = w.2.1 f c k) (h1 : w'.1 46 c 0 = nI 1) (h2 : w'.1 130 c 0 = nI C.length) (h3 : ∀ j, j < C.length → w'.1 128 c j = C.getD j 0) : RDc w' c (setL s C) := by
  have hC := h.1
  have e : ∀ f k, 32 ≤ f → f ≤ 45 → w'.1 f c k = w.1 f c k := fun f k a b => (hK f k a b).1
  exact ⟨⟨(e 32 0 (by omega) (by omega)).trans hC.P, (e 35 0 (by omega) (by omega)).trans hC.W, (e 40 0 (by omega) (by omega)).trans hC.D, (e 44 0 (by omega) (by omega)).trans hC.R, fun k hk => (e 34 k (by omega) (by omega)).trans (hC.dep hk), fun k hk => (e 36 k (by omega) (by omega)).trans (hC.e1 hk), fun k hk => (e 37 k (by omega) (by omega)).trans (hC.e2 hk), fun k hk => (e 38 k (by omega) (by omega)).trans (hC.len hk), fun k hk => (e 39 k (by omega) (by omega)).trans (hC.nar hk), fun k hk => (e 42 k (by omega) (by omega)).trans (hC.kind hk), fun k hk => (e 43 k (by omega) (by omega)).trans (hC.tank hk), fun k hk => (e 45 k (by omega) (by omega)).trans (hC.rn hk), h2, h3⟩, fun k hk => (hK 33 k (by omega) (by omega)).2.trans (h.2.1 k hk), fun k hk => (hK 41 k (by omega) (by omega)).2.trans (h.2.2.1 k hk), h1⟩
theorem c_readsBreath (h : RDc w c s) (hE : RE w t T (i, 0)) (hO : OKP t T) (hN : NTk t T N) (hi : i < N) : ∃ w', f_X0_readsBreath [(.inr (.inr (some (0, c)))), (.inr (.inr (some (6, 0))))] w = some (b2 (decide ((testsF t T (partF t T 5) (i + 1, 0, [])).e = 0)), w') ∧ Kp (ACv c) w w' ∧ RE w' t T ((testsF t T (partF t T 5) (i + 1, 0, [])).i, (testsF t T (partF t T 5) (i + 1, 0, [])).e) ∧ RDc w' c (setL s (testsF t T (partF t T 5) (i + 1, 0, [])).C) := by
  have K0 : Kp (fun f i _ => i = c ∧ ((32 ≤ f ∧ f ≤ 47) ∨ f = 128 ∨ f = 130)) w (sI (sI w 46 c 0 (nI 1)) 130 c 0 (nI 0)) := (Kp.sI ⟨rfl, by omega⟩).tr (Kp.sI ⟨rfl, by omega⟩)
  have R0 := hE.kc K0
  obtain ⟨w1, g1, K1, R1⟩ := c_rnext R0 hO
  have a29 : ∀ f k, f < 290 → w1.1 f c k = (sI (sI w 46 c 0 (nI 1)) 130 c 0 (nI 0)).1 f c k ∧ w1.2.1 f c k = (sI (sI w 46 c 0 (nI 1)) 130 c 0 (nI 0)).2.1 f c k := fun f k hf => by
    have := K1 f c k (fun q => by have q : 290 ≤ f ∧ f ≤ 295 := q; omega)
    exact ⟨this.1, this.2.1⟩
  have L1 : RLc w1 t T c (i + 1, 0, []) := ⟨R1.1, R1.tk, R1.2.1, by rw [(a29 130 0 (by omega)).1, sI_1, if_pos ⟨rfl, rfl, rfl⟩]; rfl, fun j hj => absurd hj (Nat.not_lt_zero j)⟩
  obtain ⟨w2, g2, K2, R2⟩ := c_law (c := c) hN hO w1 (i + 1, 0, []) rfl hi (Nat.succ_pos i) L1
  generalize testsF t T (partF t T 5) (i + 1, 0, []) = r at *
  have aL : ∀ f k, f < 128 → w2.1 f c k = w1.1 f c k ∧ w2.2.1 f c k = w1.2.1 f c k := fun f k hf => by
    have := K2 f c k (fun q => by have q : (290 ≤ f ∧ f ≤ 295) ∨ f = 225 ∨ ((f = 128 ∨ f = 130) ∧ c = c) := q; omega)
    exact ⟨this.1, this.2.1⟩
  refine ⟨w2, ?_, ((ACv.ofc K0).tr (ACv.of (ARd.of29 K1))).tr (K2.mono fun f i k q => ?_), ⟨R2.1, R2.2.2.1, fun _ => R2.2.1⟩, h.setL (fun f k a b => ?_) ?_ R2.2.2.2.1 R2.2.2.2.2⟩
  · simp (disch := omega) only [lgI_0, lgI_s, lgJ_0, lgJ_s, lgR_0, lgR_s, ls1_0, ls1_1, ls1_s, ls2_0, ls2_1, ls2_s, lk_0, lk_s, isLg_n, isLg_I, isLg_J, isLg_R, pI_c, pJ_c, pR_c, pO_c, pV_I, pV_R, x_ci, x_cl, x_cn, x_is, x_ls, x_as, x_kill, x_iadd, x_isub, x_imul, x_iand, x_ior, x_ixor, x_ishl, x_ishr, x_iushr, x_idiv, x_irem, x_ineg, x_ladd, x_lsub, x_lmul, x_land, x_lor, x_ldiv, x_lrem, x_lcmp, x_lshl, x_lshr, x_i2l, x_l2i, x_i2c, x_ifeq, x_iceq, x_ifne, x_icne, x_iflt, x_iclt, x_ifge, x_icge, x_ifgt, x_icgt, x_ifle, x_icle, x_gf, x_pf, x_pz, x_pj, x_pe, x_aa, x_ja, x_ra, x_sa, x_sj, x_len, x_ge, x_ace, x_acn, x_max, x_min, x_sw, x_kn, x_tx, x_lenS, x_kna, x_ecd, x_sv, x_sc, x_sb, x_i2b, x_il0, x_ll0, x_al0, x_inc0, x_il1, x_ll1, x_al1, x_inc1, x_il2, x_ll2, x_al2, x_inc2, x_il3, x_ll3, x_al3, x_inc3, x_il4, x_ll4, x_al4, x_inc4, x_il5, x_ll5, x_al5, x_inc5, x_il6, x_ll6, x_al6, x_inc6, x_il7, x_ll7, x_al7, x_inc7, x_il8, x_ll8, x_al8, x_inc8, x_il9, x_ll9, x_al9, x_inc9, x_il10, x_ll10, x_al10, x_inc10, x_il11, x_ll11, x_al11, x_inc11, x_il12, x_ll12, x_al12, x_inc12, x_il13, x_ll13, x_al13, x_inc13, x_dupI, x_popI, x_dupR, x_popR, x_dup2IR, x_dup2II, x_goto, x_ret, x_iret, x_zret, x_jret, x_rret, x_nulN, x_nulS, thn_s, x_call0, x_call1, x_callV1, x_call2, x_callV2, x_call3, x_callV3, x_call4, x_callV4, x_call5, x_callV5, x_call6, x_callV6, x_call7, x_callV7, tl_I, tl_J, tl_R, tl_U, stw_0, stw_I, stw_J, stw_R, ble_0, ble_1, ble_2, ble_3, ble_4, ble_5, ble_6, ble_7, ble_8, beq_r, rk_n, rk_s, fv_0_0, fv_0_1, fv_0_2, fv_0_3, fv_0_4, fv_0_5, fv_0_6, fv_0_7, fv_0_8, fv_0_9, fv_0_10, fv_0_11, fv_0_12, fv_0_13, fv_0_14, fv_0_15, fv_1_0, fv_1_1, fv_1_2, fv_1_3, fv_1_4, fv_2_0, fv_2_1, fv_2_2, fv_3_0, fv_3_1, fv_3_2, fv_4_0, fv_4_1, fv_4_2, fv_4_3, fv_4_4, fv_4_5, fv_5_0, fv_6_0, fv_6_1, fv_6_2, fv_7_0, fv_7_1, fv_7_2, fv_7_3, fv_7_4, fv_7_5, fv_7_6, fv_7_7, fv_7_8, fv_8_0, fv_8_1, fv_8_2, fv_8_3, fv_8_4, fv_8_5, fv_8_6, fv_8_7, fv_9_0, fv_9_1, fv_9_2, fv_9_3, fv_9_4, fv_9_5, fv_9_6, fv_9_7, fv_9_8, fv_9_9, fv_9_10, fv_9_11, fv_9_12, fv_9_13, fv_9_14, fv_10_0, fv_10_1, fv_10_2, fv_10_3, fv_10_4, fv_10_5, fv_10_6, fv_10_7, fv_10_8, fv_10_9, fv_10_10, fv_10_11, fv_10_12, fv_10_13, fv_10_14, fv_10_15, fv_10_16, fv_10_17, fv_10_18, fv_10_19, fv_10_20, fv_10_21, fv_10_22, fv_10_23, fv_10_24, fv_10_25, fv_10_26, fv_10_27, fv_10_28, kt_33, al_33, kt_34, al_34, kt_36, al_36, kt_37, al_37, kt_38, al_38, kt_39, al_39, kt_41, al_41, kt_42, al_42, kt_43, al_43, kt_45, al_45, kt_65, al_65, kt_66, al_66, kt_67, al_67, kt_68, al_68, kt_97, al_97, kt_98, al_98, kt_128, al_128, kt_129, al_129, kt_160, al_160, kt_163, al_163, kt_164, al_164, kt_192, al_192, kt_260, al_260, kt_261, al_261, kt_262, al_262, kt_263, al_263, kt_264, al_264, kt_288, al_288, kt_330, al_330, kt_331, al_331, kt_333, al_333, kt_334, al_334, kt_353, al_353, kt_356, al_356, kt_357, al_357, kt_358, al_358, kt_361, al_361, kt_362, al_362, kt_363, al_363, kt_364, al_364, kt_366, al_366, kt_367, al_367, kt_368, al_368, kt_369, al_369, kt_373, al_373, kt_374, al_374, kt_375, al_375, kt_376, al_376, kt_378, al_378, kt_379, al_379, Option.bind_some, Option.map_some, Option.map_none, cond_true, cond_false, List.nil_append, Bool.and_true, Bool.true_and, Bool.or_true, Bool.true_or, Nat.reduceAdd, Nat.reduceMul, ↓reduceIte, en_X0_readsBreath, B_X0_readsBreath_0, lit_n, ib_n, nI_add, pk_mul, nI_sub, nI_eq, nI_leI, nI_ltI, nI_clamp, m1_eq, m1_eq', m1_lt, m1_lt', m1_le, m1_le', nI_or, nI_and, nI_1shl, nI_shr, and31, bit_n, nI_b0, nI_b1, Nat.reduceEqDiff, or_true, true_or, or_false, false_or, not_true_eq_false, not_false_eq_true, Nat.le_refl, Nat.lt_irrefl, Nat.zero_le, Nat.not_lt_zero, sI_1, sI_2, sA_1, sA_2, sJ_1, sJ_21, sJ_22, sE_1, sE_21, sE_22, false_and, and_false, true_and, and_true, and_self, ↓reduceIte, Nat.reduceEqDiff, Nat.reduceLeDiff, g1, g2, at_none, st_none, ga_none, Option.isSome_none, Option.isSome_some, b2_f, b2_t, Bool.false_eq_true, b2_ok]
  · have q : (290 ≤ f ∧ f ≤ 295) ∨ f = 225 ∨ ((f = 128 ∨ f = 130) ∧ i = c) := q
    show (290 ≤ f ∧ f ≤ 295) ∨ f = 225 ∨ f = 226 ∨ (i = c ∧ ((32 ≤ f ∧ f ≤ 47) ∨ f = 128 ∨ f = 130))
    omega
  · rw [(aL f k (by omega)).1, (aL f k (by omega)).2, (a29 f k (by omega)).1, (a29 f k (by omega)).2]
    exact ⟨by rw [sI_1, if_neg (by omega), sI_1, if_neg (by omega)], rfl⟩
  · rw [(aL 46 0 (by omega)).1, (a29 46 0 (by omega)).1, sI_1, if_neg (by omega), sI_1, if_pos ⟨rfl, rfl, rfl⟩]
theorem lnP_f (h : nP s.V = 7) : lnP t T s (i, 0) = (s, (i, 5 + 16 * stT t T i)) := by
  unfold lnP
  have e : ckT t T (fun _ => if nP s.V = 7 then 5 else 0) (i, 0) = (i, 5 + 16 * stT t T i) := by
    have e5 : (if nP s.V = 7 then 5 else 0) = 5 := if_pos h
    rw [ckT_f (c := fun _ => if nP s.V = 7 then 5 else 0) (by show ¬ (if nP s.V = 7 then 5 else 0) = 0; omega)]
    show (i, (if nP s.V = 7 then 5 else 0) + 16 * stT t T i) = _
    rw [e5]
  have n : ¬ (i, 5 + 16 * stT t T i).2 = 0 := by show ¬ 5 + 16 * stT t T i = 0; omega
  simp only [e, ckT_e n]
  rw [if_neg n]
theorem lnP_0 (h : ¬ nP s.V = 7) : lnP t T s (i, 0) = (if (ckT t T (cNum t T 0 9) (ckT t T (cWd t T 1) (ckT t T (cNew t T s) (i + 1, 0)))).2 = 0 then addP s (wlI t T (i + 1)) (nvI t T (i + 3)) else s, ckT t T (cNum t T 0 9) (ckT t T (cWd t T 1) (ckT t T (cNew t T s) (i + 1, 0)))) := by
  unfold lnP
  have e : ckT t T (fun _ => if nP s.V = 7 then 5 else 0) (i, 0) = (i + 1, 0) := ckT_0 (c := fun _ => if nP s.V = 7 then 5 else 0) (if_neg h)
  simp only [e]
theorem lnW_f (h : nW s.V = 8) : lnW t T s (i, 0) = (s, (i, 5 + 16 * stT t T i)) := by
  unfold lnW
  have e : ckT t T (fun _ => if nW s.V = 8 then 5 else 0) (i, 0) = (i, 5 + 16 * stT t T i) := by
    have e5 : (if nW s.V = 8 then 5 else 0) = 5 := if_pos h
    rw [ckT_f (c := fun _ => if nW s.V = 8 then 5 else 0) (by show ¬ (if nW s.V = 8 then 5 else 0) = 0; omega)]
    show (i, (if nW s.V = 8 then 5 else 0) + 16 * stT t T i) = _
    rw [e5]
  have n : ¬ (i, 5 + 16 * stT t T i).2 = 0 := by show ¬ 5 + 16 * stT t T i = 0; omega
  simp only [e, ckT_e n]
  rw [if_neg n]
theorem lnW_0 (h : ¬ nW s.V = 8) : lnW t T s (i, 0) = (if (ckT t T (cNum t T 1 9) (ckT t T (cWd t T 3) (ckT t T (cWth t T) (ckT t T (cTold t T s (some (plA t T s (i + 1)))) (ckT t T (cTold t T s none) (i + 1, 0)))))).2 = 0 then addW s (plA t T s (i + 1)) (plA t T s (i + 2)) (if wdI t T (i + 3) = some 8 then 1 else 0) (nvI t T (i + 5)) else s, ckT t T (cNum t T 1 9) (ckT t T (cWd t T 3) (ckT t T (cWth t T) (ckT t T (cTold t T s (some (plA t T s (i + 1)))) (ckT t T (cTold t T s none) (i + 1, 0)))))) := by
  unfold lnW
  have e : ckT t T (fun _ => if nW s.V = 8 then 5 else 0) (i, 0) = (i + 1, 0) := ckT_0 (c := fun _ => if nW s.V = 8 then 5 else 0) (if_neg h)
  simp only [e]
theorem lnD_f (h : nD s.V = 4) : lnD t T s (i, 0) = (s, (i, 5 + 16 * stT t T i)) := by
  unfold lnD
  have e : ckT t T (fun _ => if nD s.V = 4 then 5 else 0) (i, 0) = (i, 5 + 16 * stT t T i) := by
    have e5 : (if nD s.V = 4 then 5 else 0) = 5 := if_pos h
    rw [ckT_f (c := fun _ => if nD s.V = 4 then 5 else 0) (by show ¬ (if nD s.V = 4 then 5 else 0) = 0; omega)]
    show (i, (if nD s.V = 4 then 5 else 0) + 16 * stT t T i) = _
    rw [e5]
  have n : ¬ (i, 5 + 16 * stT t T i).2 = 0 := by show ¬ 5 + 16 * stT t T i = 0; omega
  simp only [e, ckT_e n]
  rw [if_neg n]
theorem lnD_0 (h : ¬ nD s.V = 4) : lnD t T s (i, 0) = (if (ckT t T (cNum t T 1 900) (ckT t T (cWd t T 5) (ckT t T (cKnd t T) (ckT t T (cNew t T s) (i + 1, 0))))).2 = 0 then addD s (wlI t T (i + 1)) ((kdOf (wdI t T (i + 2))).getD 0) (nvI t T (i + 4)) else s, ckT t T (cNum t T 1 900) (ckT t T (cWd t T 5) (ckT t T (cKnd t T) (ckT t T (cNew t T s) (i + 1, 0))))) := by
  unfold lnD
  have e : ckT t T (fun _ => if nD s.V = 4 then 5 else 0) (i, 0) = (i + 1, 0) := ckT_0 (c := fun _ => if nD s.V = 4 then 5 else 0) (if_neg h)
  simp only [e]
theorem lnR_f (h : ¬ nR s.V = 0) : lnR t T s (i, 0) = (s, (i, 3 + 16 * stT t T i)) := by
  unfold lnR
  have e : ckT t T (fun _ => if nR s.V = 0 then 0 else 3) (i, 0) = (i, 3 + 16 * stT t T i) := by
    have e5 : (if nR s.V = 0 then 0 else 3) = 3 := if_neg h
    rw [ckT_f (c := fun _ => if nR s.V = 0 then 0 else 3) (by show ¬ (if nR s.V = 0 then 0 else 3) = 0; omega)]
    show (i, (if nR s.V = 0 then 0 else 3) + 16 * stT t T i) = _
    rw [e5]
  have n : ¬ (i, 3 + 16 * stT t T i).2 = 0 := by show ¬ 3 + 16 * stT t T i = 0; omega
  simp only [e]
  rw [if_neg n]
theorem lnR_0 (h : nR s.V = 0) : lnR t T s (i, 0) = (if (rnF t T 12 0 (s.V 8) (i + 1, 0)).2.2.2 = 0 then setR s (rnF t T 12 0 (s.V 8) (i + 1, 0)).1 (rnF t T 12 0 (s.V 8) (i + 1, 0)).2.1 else s, (rnF t T 12 0 (s.V 8) (i + 1, 0)).2.2) := by
  unfold lnR
  have e : ckT t T (fun _ => if nR s.V = 0 then 0 else 3) (i, 0) = (i + 1, 0) := ckT_0 (c := fun _ => if nR s.V = 0 then 0 else 3) (if_pos h)
  simp only [e]
  rw [if_pos trivial]
theorem lnL_f (h : s.L = true) : lnL t T s (i, 0) = (s, (i, 3 + 16 * stT t T i)) := by
  unfold lnL
  have e : ckT t T (fun _ => if s.L then 3 else 0) (i, 0) = (i, 3 + 16 * stT t T i) := by
    have e5 : (if s.L then 3 else 0) = 3 := if_pos h
    rw [ckT_f (c := fun _ => if s.L then 3 else 0) (by show ¬ (if s.L then 3 else 0) = 0; omega)]
    show (i, (if s.L then 3 else 0) + 16 * stT t T i) = _
    rw [e5]
  have n : ¬ (i, 3 + 16 * stT t T i).2 = 0 := by show ¬ 3 + 16 * stT t T i = 0; omega
  simp only [e]
  rw [if_neg n]
theorem lnL_0 (h : s.L = false) : lnL t T s (i, 0) = (if (testsF t T (partF t T 5) (i + 1, 0, [])).e = 0 then setL s (testsF t T (partF t T 5) (i + 1, 0, [])).C else s, ((testsF t T (partF t T 5) (i + 1, 0, [])).i, (testsF t T (partF t T 5) (i + 1, 0, [])).e)) := by
  unfold lnL
  have e : ckT t T (fun _ => if s.L then 3 else 0) (i, 0) = (i + 1, 0) := ckT_0 (c := fun _ => if s.L then 3 else 0) (if_neg (by rw [h]; decide))
  simp only [e]
  rw [if_pos trivial]
end CLN
