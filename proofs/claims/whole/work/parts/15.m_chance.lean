/-! ===== chance: the number, and the class ===== -/
def bw (o : Nat) : Nat → Nat → Nat
  | 0, s => o + (if 6 ≤ s then 10 - o else 0)
  | h + 1, s => o * bw o h (settle s 9) + (10 - o) * bw o h (settle s 0)
def wt (o : Nat) (b : Bool) : Nat := if b then o else 10 - o
def cw (o b : Nat) : Nat → Nat
  | 0 => 1
  | m + 1 => cw o b m * wt o (b.testBit m)
def cs (b s : Nat) : Nat → Nat
  | 0 => s
  | m + 1 => settle (cs b s m) (9 * (b.testBit m).toNat)
def gt (o h s b : Nat) : Nat := if 6 ≤ cs b s h + 9 * (b.testBit h).toNat then cw o b (h + 1) else 0
theorem sumN_c {f g : Nat → Nat} : ∀ n, (∀ k, k < n → f k = g k) → sumN f n = sumN g n
  | 0, _ => rfl
  | n + 1, h => by
    show sumN f n + f n = sumN g n + g n
    rw [sumN_c n (fun k hk => h k (by omega)), h n (by omega)]
theorem sumN_2 (f : Nat → Nat) : ∀ n, sumN f (2 * n) = sumN (fun k => f (2 * k) + f (2 * k + 1)) n
  | 0 => rfl
  | n + 1 => by
    show sumN f (2 * n + 1 + 1) = sumN (fun k => f (2 * k) + f (2 * k + 1)) n + (f (2 * n) + f (2 * n + 1))
    rw [← sumN_2 f n, ← Nat.add_assoc]; rfl
theorem sumN_a (f g : Nat → Nat) : ∀ n, sumN (fun k => f k + g k) n = sumN f n + sumN g n
  | 0 => rfl
  | n + 1 => by
    show sumN (fun k => f k + g k) n + (f n + g n) = sumN f n + f n + (sumN g n + g n)
    rw [sumN_a f g n]; omega
theorem sumN_m (a : Nat) (f : Nat → Nat) : ∀ n, sumN (fun k => a * f k) n = a * sumN f n
  | 0 => rfl
  | n + 1 => by
    show sumN (fun k => a * f k) n + a * f n = a * (sumN f n + f n)
    rw [sumN_m a f n, Nat.mul_add]
theorem tb_s (c : Bool) (b m : Nat) : (2 * b + c.toNat).testBit (m + 1) = b.testBit m := by
  rw [Nat.testBit_succ]
  congr 1
  have : c.toNat < 2 := by cases c <;> decide
  omega
theorem tb_0 (c : Bool) (b : Nat) : (2 * b + c.toNat).testBit 0 = c := by
  rw [Nat.testBit_zero]
  cases c
  · show decide ((2 * b + 0) % 2 = 1) = false
    exact decide_eq_false (by omega)
  · show decide ((2 * b + 1) % 2 = 1) = true
    exact decide_eq_true (by omega)
theorem cw_s (o : Nat) (c : Bool) (b : Nat) : ∀ m, cw o (2 * b + c.toNat) (m + 1) = wt o c * cw o b m
  | 0 => by
    show 1 * wt o ((2 * b + c.toNat).testBit 0) = wt o c * 1
    rw [tb_0, Nat.one_mul, Nat.mul_one]
  | m + 1 => by
    show cw o (2 * b + c.toNat) (m + 1) * wt o ((2 * b + c.toNat).testBit (m + 1)) = wt o c * (cw o b m * wt o (b.testBit m))
    rw [cw_s o c b m, tb_s, Nat.mul_assoc]
theorem cs_s (c : Bool) (b s : Nat) : ∀ m, cs (2 * b + c.toNat) s (m + 1) = cs b (settle s (9 * c.toNat)) m
  | 0 => by
    show settle s (9 * ((2 * b + c.toNat).testBit 0).toNat) = _
    rw [tb_0]; rfl
  | m + 1 => by
    show settle (cs (2 * b + c.toNat) s (m + 1)) (9 * ((2 * b + c.toNat).testBit (m + 1)).toNat) = settle (cs b (settle s (9 * c.toNat)) m) (9 * (b.testBit m).toNat)
    rw [cs_s c b s m, tb_s]
theorem gt_s (o h s : Nat) (c : Bool) (b : Nat) : gt o (h + 1) s (2 * b + c.toNat) = wt o c * gt o h (settle s (9 * c.toNat)) b := by
  unfold gt
  rw [cs_s, tb_s, cw_s]
  split
  · rfl
  · rfl
theorem gs_eq (o : Nat) : ∀ h s, sumN (gt o h s) (2 ^ (h + 1)) = bw o h s
  | 0, s => by
    show 0 + gt o 0 s 0 + gt o 0 s 1 = o + (if 6 ≤ s then 10 - o else 0)
    have e0 : gt o 0 s 0 = if 6 ≤ s then 10 - o else 0 := by
      show (if 6 ≤ s + 9 * 0 then 1 * (10 - o) else 0) = _
      rw [Nat.mul_zero, Nat.add_zero, Nat.one_mul]
    have e1 : gt o 0 s 1 = o := by
      show (if 6 ≤ s + 9 * 1 then 1 * o else 0) = o
      rw [if_pos (by omega), Nat.one_mul]
    rw [e0, e1]; omega
  | h + 1, s => by
    rw [show 2 ^ (h + 1 + 1) = 2 * 2 ^ (h + 1) from Nat.pow_succ'.trans rfl, sumN_2]
    have e : ∀ k, k < 2 ^ (h + 1) → gt o (h + 1) s (2 * k) + gt o (h + 1) s (2 * k + 1) = (10 - o) * gt o h (settle s 0) k + o * gt o h (settle s 9) k := fun k _ => by
      have e0 := gt_s o h s false k
      have e1 := gt_s o h s true k
      have e0 : gt o (h + 1) s (2 * k) = (10 - o) * gt o h (settle s 0) k := e0
      have e1 : gt o (h + 1) s (2 * k + 1) = o * gt o h (settle s 9) k := e1
      rw [e0, e1]
    rw [sumN_c _ e, sumN_a, sumN_m, sumN_m, gs_eq o h, gs_eq o h]
    show (10 - o) * bw o h (settle s 0) + o * bw o h (settle s 9) = o * bw o h (settle s 9) + (10 - o) * bw o h (settle s 0)
    omega
theorem bw_le {o : Nat} (ho : o ≤ 10) : ∀ h s, bw o h s ≤ 10 ^ (h + 1)
  | 0, s => by
    show o + (if 6 ≤ s then 10 - o else 0) ≤ 10
    split <;> omega
  | h + 1, s => by
    show o * bw o h (settle s 9) + (10 - o) * bw o h (settle s 0) ≤ 10 ^ (h + 1 + 1)
    have h1 := Nat.mul_le_mul_left o (bw_le ho h (settle s 9))
    have h2 := Nat.mul_le_mul_left (10 - o) (bw_le ho h (settle s 0))
    have h3 : 10 ^ (h + 1 + 1) = o * 10 ^ (h + 1) + (10 - o) * 10 ^ (h + 1) := by
      rw [← Nat.add_mul, show o + (10 - o) = 10 from by omega]
      exact Nat.pow_succ'
    omega
def okCh (V : VW) (a b e : Int32) : Bool := inR a (nW V) && (inR b 7 && decide (b ≠ 0)) && inR e 11
def chV (V S : VW) (a b e : Int32) : Int32 := if okCh V a b e then nI (bw e.toNatClampNeg b.toNatClampNeg (S 7 a.toNatClampNeg) * 1000000 / 10 ^ (b.toNatClampNeg + 1)) else -nI 1
section CHANCE
variable {w w' : Wd} {n c : Nat} {V S : VW} {C : List Int32}
theorem c_bw {o : Nat} (ho : o ≤ 10) (w : Wd) : ∀ h s d, h ≤ 6 → h < d → s ≤ 9 → F_BW d 0 [(.inl (nI s)), (.inl (nI h)), (.inl (nI o))] w = some (lN (bw o h s), w)
  | 0, s, d + 1, _, _, hs => by
    unfold bw
    by_cases e : 6 ≤ s
    · have e' : ¬ s < 6 := by omega
      simp (disch := omega) only [lgI_0, lgI_s, lgJ_0, lgJ_s, lgR_0, lgR_s, ls1_0, ls1_1, ls1_s, ls2_0, ls2_1, ls2_s, lk_0, lk_s, isLg_n, isLg_I, isLg_J, isLg_R, pI_c, pJ_c, pR_c, pO_c, pV_I, pV_R, x_ci, x_cl, x_cn, x_is, x_ls, x_as, x_kill, x_iadd, x_isub, x_imul, x_iand, x_ior, x_ixor, x_ishl, x_ishr, x_iushr, x_idiv, x_irem, x_ineg, x_ladd, x_lsub, x_lmul, x_land, x_lor, x_ldiv, x_lrem, x_lcmp, x_lshl, x_lshr, x_i2l, x_l2i, x_i2c, x_ifeq, x_iceq, x_ifne, x_icne, x_iflt, x_iclt, x_ifge, x_icge, x_ifgt, x_icgt, x_ifle, x_icle, x_gf, x_pf, x_pz, x_pj, x_pe, x_aa, x_ja, x_ra, x_sa, x_sj, x_len, x_ge, x_ace, x_acn, x_max, x_min, x_sw, x_kn, x_tx, x_lenS, x_kna, x_ecd, x_sv, x_sc, x_sb, x_i2b, x_il0, x_ll0, x_al0, x_inc0, x_il1, x_ll1, x_al1, x_inc1, x_il2, x_ll2, x_al2, x_inc2, x_il3, x_ll3, x_al3, x_inc3, x_il4, x_ll4, x_al4, x_inc4, x_il5, x_ll5, x_al5, x_inc5, x_il6, x_ll6, x_al6, x_inc6, x_il7, x_ll7, x_al7, x_inc7, x_il8, x_ll8, x_al8, x_inc8, x_il9, x_ll9, x_al9, x_inc9, x_il10, x_ll10, x_al10, x_inc10, x_il11, x_ll11, x_al11, x_inc11, x_il12, x_ll12, x_al12, x_inc12, x_il13, x_ll13, x_al13, x_inc13, x_dupI, x_popI, x_dupR, x_popR, x_dup2IR, x_dup2II, x_goto, x_ret, x_iret, x_zret, x_jret, x_rret, x_nulN, x_nulS, thn_s, x_call0, x_call1, x_callV1, x_call2, x_callV2, x_call3, x_callV3, x_call4, x_callV4, x_call5, x_callV5, x_call6, x_callV6, x_call7, x_callV7, tl_I, tl_J, tl_R, tl_U, stw_0, stw_I, stw_J, stw_R, ble_0, ble_1, ble_2, ble_3, ble_4, ble_5, ble_6, ble_7, ble_8, beq_r, rk_n, rk_s, fv_0_0, fv_0_1, fv_0_2, fv_0_3, fv_0_4, fv_0_5, fv_0_6, fv_0_7, fv_0_8, fv_0_9, fv_0_10, fv_0_11, fv_0_12, fv_0_13, fv_0_14, fv_0_15, fv_1_0, fv_1_1, fv_1_2, fv_1_3, fv_1_4, fv_2_0, fv_2_1, fv_2_2, fv_3_0, fv_3_1, fv_3_2, fv_4_0, fv_4_1, fv_4_2, fv_4_3, fv_4_4, fv_4_5, fv_5_0, fv_6_0, fv_6_1, fv_6_2, fv_7_0, fv_7_1, fv_7_2, fv_7_3, fv_7_4, fv_7_5, fv_7_6, fv_7_7, fv_7_8, fv_8_0, fv_8_1, fv_8_2, fv_8_3, fv_8_4, fv_8_5, fv_8_6, fv_8_7, fv_9_0, fv_9_1, fv_9_2, fv_9_3, fv_9_4, fv_9_5, fv_9_6, fv_9_7, fv_9_8, fv_9_9, fv_9_10, fv_9_11, fv_9_12, fv_9_13, fv_9_14, fv_10_0, fv_10_1, fv_10_2, fv_10_3, fv_10_4, fv_10_5, fv_10_6, fv_10_7, fv_10_8, fv_10_9, fv_10_10, fv_10_11, fv_10_12, fv_10_13, fv_10_14, fv_10_15, fv_10_16, fv_10_17, fv_10_18, fv_10_19, fv_10_20, fv_10_21, fv_10_22, fv_10_23, fv_10_24, fv_10_25, fv_10_26, fv_10_27, fv_10_28, kt_33, al_33, kt_34, al_34, kt_36, al_36, kt_37, al_37, kt_38, al_38, kt_39, al_39, kt_41, al_41, kt_42, al_42, kt_43, al_43, kt_45, al_45, kt_65, al_65, kt_66, al_66, kt_67, al_67, kt_68, al_68, kt_97, al_97, kt_98, al_98, kt_128, al_128, kt_129, al_129, kt_160, al_160, kt_163, al_163, kt_164, al_164, kt_192, al_192, kt_260, al_260, kt_261, al_261, kt_262, al_262, kt_263, al_263, kt_264, al_264, kt_288, al_288, kt_330, al_330, kt_331, al_331, kt_333, al_333, kt_334, al_334, kt_353, al_353, kt_356, al_356, kt_357, al_357, kt_358, al_358, kt_361, al_361, kt_362, al_362, kt_363, al_363, kt_364, al_364, kt_366, al_366, kt_367, al_367, kt_368, al_368, kt_369, al_369, kt_373, al_373, kt_374, al_374, kt_375, al_375, kt_376, al_376, kt_378, al_378, kt_379, al_379, Option.bind_some, Option.map_some, Option.map_none, cond_true, cond_false, List.nil_append, Bool.and_true, Bool.true_and, Bool.or_true, Bool.true_or, Nat.reduceAdd, Nat.reduceMul, ↓reduceIte, en_X10_blindWeight, B_X10_blindWeight_19, B_X10_blindWeight_0, lit_n, ib_n, nI_add, pk_mul, nI_sub, nI_eq, nI_leI, nI_ltI, nI_clamp, m1_eq, m1_eq', m1_lt, m1_lt', m1_le, m1_le', nI_or, nI_and, nI_1shl, nI_shr, and31, bit_n, nI_b0, nI_b1, Nat.reduceEqDiff, or_true, true_or, or_false, false_or, not_true_eq_false, not_false_eq_true, Nat.le_refl, Nat.lt_irrefl, Nat.zero_le, Nat.not_lt_zero, sI_1, sI_2, sA_1, sA_2, sJ_1, sJ_21, sJ_22, sE_1, sE_21, sE_22, false_and, and_false, true_and, and_true, and_self, ↓reduceIte, Nat.reduceEqDiff, Nat.reduceLeDiff, e, e', lit_l, lN_add, lN_mul, pk_lDiv, pk_lRem, lN_i, nI_l, pk_lEQ]
    · have e' : s < 6 := by omega
      simp (disch := omega) only [lgI_0, lgI_s, lgJ_0, lgJ_s, lgR_0, lgR_s, ls1_0, ls1_1, ls1_s, ls2_0, ls2_1, ls2_s, lk_0, lk_s, isLg_n, isLg_I, isLg_J, isLg_R, pI_c, pJ_c, pR_c, pO_c, pV_I, pV_R, x_ci, x_cl, x_cn, x_is, x_ls, x_as, x_kill, x_iadd, x_isub, x_imul, x_iand, x_ior, x_ixor, x_ishl, x_ishr, x_iushr, x_idiv, x_irem, x_ineg, x_ladd, x_lsub, x_lmul, x_land, x_lor, x_ldiv, x_lrem, x_lcmp, x_lshl, x_lshr, x_i2l, x_l2i, x_i2c, x_ifeq, x_iceq, x_ifne, x_icne, x_iflt, x_iclt, x_ifge, x_icge, x_ifgt, x_icgt, x_ifle, x_icle, x_gf, x_pf, x_pz, x_pj, x_pe, x_aa, x_ja, x_ra, x_sa, x_sj, x_len, x_ge, x_ace, x_acn, x_max, x_min, x_sw, x_kn, x_tx, x_lenS, x_kna, x_ecd, x_sv, x_sc, x_sb, x_i2b, x_il0, x_ll0, x_al0, x_inc0, x_il1, x_ll1, x_al1, x_inc1, x_il2, x_ll2, x_al2, x_inc2, x_il3, x_ll3, x_al3, x_inc3, x_il4, x_ll4, x_al4, x_inc4, x_il5, x_ll5, x_al5, x_inc5, x_il6, x_ll6, x_al6, x_inc6, x_il7, x_ll7, x_al7, x_inc7, x_il8, x_ll8, x_al8, x_inc8, x_il9, x_ll9, x_al9, x_inc9, x_il10, x_ll10, x_al10, x_inc10, x_il11, x_ll11, x_al11, x_inc11, x_il12, x_ll12, x_al12, x_inc12, x_il13, x_ll13, x_al13, x_inc13, x_dupI, x_popI, x_dupR, x_popR, x_dup2IR, x_dup2II, x_goto, x_ret, x_iret, x_zret, x_jret, x_rret, x_nulN, x_nulS, thn_s, x_call0, x_call1, x_callV1, x_call2, x_callV2, x_call3, x_callV3, x_call4, x_callV4, x_call5, x_callV5, x_call6, x_callV6, x_call7, x_callV7, tl_I, tl_J, tl_R, tl_U, stw_0, stw_I, stw_J, stw_R, ble_0, ble_1, ble_2, ble_3, ble_4, ble_5, ble_6, ble_7, ble_8, beq_r, rk_n, rk_s, fv_0_0, fv_0_1, fv_0_2, fv_0_3, fv_0_4, fv_0_5, fv_0_6, fv_0_7, fv_0_8, fv_0_9, fv_0_10, fv_0_11, fv_0_12, fv_0_13, fv_0_14, fv_0_15, fv_1_0, fv_1_1, fv_1_2, fv_1_3, fv_1_4, fv_2_0, fv_2_1, fv_2_2, fv_3_0, fv_3_1, fv_3_2, fv_4_0, fv_4_1, fv_4_2, fv_4_3, fv_4_4, fv_4_5, fv_5_0, fv_6_0, fv_6_1, fv_6_2, fv_7_0, fv_7_1, fv_7_2, fv_7_3, fv_7_4, fv_7_5, fv_7_6, fv_7_7, fv_7_8, fv_8_0, fv_8_1, fv_8_2, fv_8_3, fv_8_4, fv_8_5, fv_8_6, fv_8_7, fv_9_0, fv_9_1, fv_9_2, fv_9_3, fv_9_4, fv_9_5, fv_9_6, fv_9_7, fv_9_8, fv_9_9, fv_9_10, fv_9_11, fv_9_12, fv_9_13, fv_9_14, fv_10_0, fv_10_1, fv_10_2, fv_10_3, fv_10_4, fv_10_5, fv_10_6, fv_10_7, fv_10_8, fv_10_9, fv_10_10, fv_10_11, fv_10_12, fv_10_13, fv_10_14, fv_10_15, fv_10_16, fv_10_17, fv_10_18, fv_10_19, fv_10_20, fv_10_21, fv_10_22, fv_10_23, fv_10_24, fv_10_25, fv_10_26, fv_10_27, fv_10_28, kt_33, al_33, kt_34, al_34, kt_36, al_36, kt_37, al_37, kt_38, al_38, kt_39, al_39, kt_41, al_41, kt_42, al_42, kt_43, al_43, kt_45, al_45, kt_65, al_65, kt_66, al_66, kt_67, al_67, kt_68, al_68, kt_97, al_97, kt_98, al_98, kt_128, al_128, kt_129, al_129, kt_160, al_160, kt_163, al_163, kt_164, al_164, kt_192, al_192, kt_260, al_260, kt_261, al_261, kt_262, al_262, kt_263, al_263, kt_264, al_264, kt_288, al_288, kt_330, al_330, kt_331, al_331, kt_333, al_333, kt_334, al_334, kt_353, al_353, kt_356, al_356, kt_357, al_357, kt_358, al_358, kt_361, al_361, kt_362, al_362, kt_363, al_363, kt_364, al_364, kt_366, al_366, kt_367, al_367, kt_368, al_368, kt_369, al_369, kt_373, al_373, kt_374, al_374, kt_375, al_375, kt_376, al_376, kt_378, al_378, kt_379, al_379, Option.bind_some, Option.map_some, Option.map_none, cond_true, cond_false, List.nil_append, Bool.and_true, Bool.true_and, Bool.or_true, Bool.true_or, Nat.reduceAdd, Nat.reduceMul, ↓reduceIte, en_X10_blindWeight, B_X10_blindWeight_19, B_X10_blindWeight_0, lit_n, ib_n, nI_add, pk_mul, nI_sub, nI_eq, nI_leI, nI_ltI, nI_clamp, m1_eq, m1_eq', m1_lt, m1_lt', m1_le, m1_le', nI_or, nI_and, nI_1shl, nI_shr, and31, bit_n, nI_b0, nI_b1, Nat.reduceEqDiff, or_true, true_or, or_false, false_or, not_true_eq_false, not_false_eq_true, Nat.le_refl, Nat.lt_irrefl, Nat.zero_le, Nat.not_lt_zero, sI_1, sI_2, sA_1, sA_2, sJ_1, sJ_21, sJ_22, sE_1, sE_21, sE_22, false_and, and_false, true_and, and_true, and_self, ↓reduceIte, Nat.reduceEqDiff, Nat.reduceLeDiff, e, e', lit_l, lN_add, lN_mul, pk_lDiv, pk_lRem, lN_i, nI_l, pk_lEQ, Nat.add_zero]
  | h + 1, s, d + 1, hh, hd, hs => by
    have i1 := c_bw ho w h (settle s 9) d (by omega) (by omega) (settle_le hs)
    have i2 := c_bw ho w h (settle s 0) d (by omega) (by omega) (settle_le hs)
    have s1 := c_settled (r := 9) w hs (by omega)
    have s2 := c_settled (r := 0) w hs (by omega)
    have h0 : 0 < h + 1 := by omega
    unfold bw
    simp (disch := omega) only [lgI_0, lgI_s, lgJ_0, lgJ_s, lgR_0, lgR_s, ls1_0, ls1_1, ls1_s, ls2_0, ls2_1, ls2_s, lk_0, lk_s, isLg_n, isLg_I, isLg_J, isLg_R, pI_c, pJ_c, pR_c, pO_c, pV_I, pV_R, x_ci, x_cl, x_cn, x_is, x_ls, x_as, x_kill, x_iadd, x_isub, x_imul, x_iand, x_ior, x_ixor, x_ishl, x_ishr, x_iushr, x_idiv, x_irem, x_ineg, x_ladd, x_lsub, x_lmul, x_land, x_lor, x_ldiv, x_lrem, x_lcmp, x_lshl, x_lshr, x_i2l, x_l2i, x_i2c, x_ifeq, x_iceq, x_ifne, x_icne, x_iflt, x_iclt, x_ifge, x_icge, x_ifgt, x_icgt, x_ifle, x_icle, x_gf, x_pf, x_pz, x_pj, x_pe, x_aa, x_ja, x_ra, x_sa, x_sj, x_len, x_ge, x_ace, x_acn, x_max, x_min, x_sw, x_kn, x_tx, x_lenS, x_kna, x_ecd, x_sv, x_sc, x_sb, x_i2b, x_il0, x_ll0, x_al0, x_inc0, x_il1, x_ll1, x_al1, x_inc1, x_il2, x_ll2, x_al2, x_inc2, x_il3, x_ll3, x_al3, x_inc3, x_il4, x_ll4, x_al4, x_inc4, x_il5, x_ll5, x_al5, x_inc5, x_il6, x_ll6, x_al6, x_inc6, x_il7, x_ll7, x_al7, x_inc7, x_il8, x_ll8, x_al8, x_inc8, x_il9, x_ll9, x_al9, x_inc9, x_il10, x_ll10, x_al10, x_inc10, x_il11, x_ll11, x_al11, x_inc11, x_il12, x_ll12, x_al12, x_inc12, x_il13, x_ll13, x_al13, x_inc13, x_dupI, x_popI, x_dupR, x_popR, x_dup2IR, x_dup2II, x_goto, x_ret, x_iret, x_zret, x_jret, x_rret, x_nulN, x_nulS, thn_s, x_call0, x_call1, x_callV1, x_call2, x_callV2, x_call3, x_callV3, x_call4, x_callV4, x_call5, x_callV5, x_call6, x_callV6, x_call7, x_callV7, tl_I, tl_J, tl_R, tl_U, stw_0, stw_I, stw_J, stw_R, ble_0, ble_1, ble_2, ble_3, ble_4, ble_5, ble_6, ble_7, ble_8, beq_r, rk_n, rk_s, fv_0_0, fv_0_1, fv_0_2, fv_0_3, fv_0_4, fv_0_5, fv_0_6, fv_0_7, fv_0_8, fv_0_9, fv_0_10, fv_0_11, fv_0_12, fv_0_13, fv_0_14, fv_0_15, fv_1_0, fv_1_1, fv_1_2, fv_1_3, fv_1_4, fv_2_0, fv_2_1, fv_2_2, fv_3_0, fv_3_1, fv_3_2, fv_4_0, fv_4_1, fv_4_2, fv_4_3, fv_4_4, fv_4_5, fv_5_0, fv_6_0, fv_6_1, fv_6_2, fv_7_0, fv_7_1, fv_7_2, fv_7_3, fv_7_4, fv_7_5, fv_7_6, fv_7_7, fv_7_8, fv_8_0, fv_8_1, fv_8_2, fv_8_3, fv_8_4, fv_8_5, fv_8_6, fv_8_7, fv_9_0, fv_9_1, fv_9_2, fv_9_3, fv_9_4, fv_9_5, fv_9_6, fv_9_7, fv_9_8, fv_9_9, fv_9_10, fv_9_11, fv_9_12, fv_9_13, fv_9_14, fv_10_0, fv_10_1, fv_10_2, fv_10_3, fv_10_4, fv_10_5, fv_10_6, fv_10_7, fv_10_8, fv_10_9, fv_10_10, fv_10_11, fv_10_12, fv_10_13, fv_10_14, fv_10_15, fv_10_16, fv_10_17, fv_10_18, fv_10_19, fv_10_20, fv_10_21, fv_10_22, fv_10_23, fv_10_24, fv_10_25, fv_10_26, fv_10_27, fv_10_28, kt_33, al_33, kt_34, al_34, kt_36, al_36, kt_37, al_37, kt_38, al_38, kt_39, al_39, kt_41, al_41, kt_42, al_42, kt_43, al_43, kt_45, al_45, kt_65, al_65, kt_66, al_66, kt_67, al_67, kt_68, al_68, kt_97, al_97, kt_98, al_98, kt_128, al_128, kt_129, al_129, kt_160, al_160, kt_163, al_163, kt_164, al_164, kt_192, al_192, kt_260, al_260, kt_261, al_261, kt_262, al_262, kt_263, al_263, kt_264, al_264, kt_288, al_288, kt_330, al_330, kt_331, al_331, kt_333, al_333, kt_334, al_334, kt_353, al_353, kt_356, al_356, kt_357, al_357, kt_358, al_358, kt_361, al_361, kt_362, al_362, kt_363, al_363, kt_364, al_364, kt_366, al_366, kt_367, al_367, kt_368, al_368, kt_369, al_369, kt_373, al_373, kt_374, al_374, kt_375, al_375, kt_376, al_376, kt_378, al_378, kt_379, al_379, Option.bind_some, Option.map_some, Option.map_none, cond_true, cond_false, List.nil_append, Bool.and_true, Bool.true_and, Bool.or_true, Bool.true_or, Nat.reduceAdd, Nat.reduceMul, ↓reduceIte, en_X10_blindWeight, B_X10_blindWeight_19, B_X10_blindWeight_0, lit_n, ib_n, nI_add, pk_mul, nI_sub, nI_eq, nI_leI, nI_ltI, nI_clamp, m1_eq, m1_eq', m1_lt, m1_lt', m1_le, m1_le', nI_or, nI_and, nI_1shl, nI_shr, and31, bit_n, nI_b0, nI_b1, Nat.reduceEqDiff, or_true, true_or, or_false, false_or, not_true_eq_false, not_false_eq_true, Nat.le_refl, Nat.lt_irrefl, Nat.zero_le, Nat.not_lt_zero, sI_1, sI_2, sA_1, sA_2, sJ_1, sJ_21, sJ_22, sE_1, sE_21, sE_22, false_and, and_false, true_and, and_true, and_self, ↓reduceIte, Nat.reduceEqDiff, Nat.reduceLeDiff, s1, s2, i1, i2, Nat.add_sub_cancel, h0, lit_l, lN_add, lN_mul, pk_lDiv, pk_lRem, lN_i, nI_l, pk_lEQ]
end CHANCE
