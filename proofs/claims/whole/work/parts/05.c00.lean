-- X3_factOf
def M_X3_factOf : MD := (yX3_factOf, cX3_factOf, 1, (some .int), { frames := 2, cells := 0, slots := 0, locals := 128 }, 0, 0)
theorem co_X3_factOf : CO M_X3_factOf 1 := ⟨kw_662, kw_5, by decide +kernel, rfl, rfl⟩
def B_X3_factOf_37 : Den Int32 := op_iret
theorem sB_X3_factOf_37 {g : GG} {l : Launch} (hG : GOK g) : Snd g l M_X3_factOf (QM g M_X3_factOf ijI) 37 (B_X3_factOf_37) :=
  (snd_iret dX3_factOf_37 rfl)
def B_X3_factOf_0 : Den Int32 := (op_al 0 (op_ge 24 (op_acn (op_al 0 (op_ge 25 (op_acn (op_al 0 (op_ge 26 (op_acn (op_ci (-4) (op_kill 0 (B_X3_factOf_37))) (op_ci (-3) (op_goto (op_kill 0 (B_X3_factOf_37))))))) (op_ci (-2) (op_goto (op_kill 0 (B_X3_factOf_37))))))) (op_ci (-1) (op_goto (op_kill 0 (B_X3_factOf_37)))))))
theorem sB_X3_factOf_0 {g : GG} {l : Launch} (hG : GOK g) : Snd g l M_X3_factOf (QM g M_X3_factOf ijI) 0 (B_X3_factOf_0) :=
  (snd_aln (i := 0) dX3_factOf_0 rfl (snd_ge (j := 24) dX3_factOf_1 (Nat.le_of_ble_eq_true rfl) kw_663 (snd_acn dX3_factOf_4 rfl (snd_aln (i := 0) dX3_factOf_11 rfl (snd_ge (j := 25) dX3_factOf_12 (Nat.le_of_ble_eq_true rfl) kw_664 (snd_acn dX3_factOf_15 rfl (snd_aln (i := 0) dX3_factOf_23 rfl (snd_ge (j := 26) dX3_factOf_24 (Nat.le_of_ble_eq_true rfl) kw_665 (snd_acn dX3_factOf_27 rfl (snd_bipush (v := (-4)) dX3_factOf_35 rfl (snd_kill 0 (sB_X3_factOf_37 hG))) (snd_bipush (v := (-3)) dX3_factOf_30 rfl (snd_goto dX3_factOf_32 rfl (snd_kill 0 (sB_X3_factOf_37 hG))))))) (snd_bipush (v := (-2)) dX3_factOf_18 rfl (snd_goto dX3_factOf_20 rfl (snd_kill 0 (sB_X3_factOf_37 hG))))))) (snd_iconst (v := (-1)) dX3_factOf_7 rfl (snd_goto dX3_factOf_8 rfl (snd_kill 0 (sB_X3_factOf_37 hG)))))))
def f_X3_factOf : List VV → Wd → Option (Int32 × Wd) := fn 1 B_X3_factOf_0
theorem mt_X3_factOf {g : GG} {l : Launch} (hG : GOK g) : Mt g l M_X3_factOf ijI f_X3_factOf := mt_of (Y := M_X3_factOf) hG rfl rfl rfl (sB_X3_factOf_0 hG)
-- X3_put
def M_X3_put : MD := (yX3_put, cX3_put, 2, none, { frames := 2, cells := 0, slots := 0, locals := 128 }, 0, 0)
theorem co_X3_put : CO M_X3_put 1 := ⟨kw_525, kw_5, by decide +kernel, rfl, rfl⟩
def B_X3_put_32 : Den Unit := op_ret
theorem sB_X3_put_32 {g : GG} {l : Launch} (hG : GOK g) : Snd g l M_X3_put (QM g M_X3_put ijU) 32 (B_X3_put_32) :=
  (snd_ret dX3_put_32 rfl)
def B_X3_put_0 : Den Unit := (op_al 0 (op_gf 3 2 (op_al 0 (op_gf 3 0 (op_len (op_icge (op_kill 1 (op_kill 0 (B_X3_put_32))) (op_al 0 (op_gf 3 0 (op_al 0 (op_gf 3 2 (op_il 1 (op_sa 10 (op_al 0 (op_dup (op_gf 3 2 (op_ci 1 (op_iadd (op_pf 3 2 (op_kill 1 (op_kill 0 (B_X3_put_32)))))))))))))))))))))
theorem sB_X3_put_0 {g : GG} {l : Launch} (hG : GOK g) : Snd g l M_X3_put (QM g M_X3_put ijU) 0 (B_X3_put_0) :=
  (snd_aln (i := 0) dX3_put_0 rfl (snd_gf (k := 2) dX3_put_1 FO_3 (Nat.le_of_ble_eq_true rfl) kw_117 (snd_aln (i := 0) dX3_put_4 rfl (snd_gf (k := 0) dX3_put_5 FO_3 (Nat.le_of_ble_eq_true rfl) kw_115 (snd_len dX3_put_8 (snd_icge dX3_put_9 rfl (snd_kill 1 (snd_kill 0 (sB_X3_put_32 hG))) (snd_aln (i := 0) dX3_put_12 rfl (snd_gf (k := 0) dX3_put_13 FO_3 (Nat.le_of_ble_eq_true rfl) kw_115 (snd_aln (i := 0) dX3_put_16 rfl (snd_gf (k := 2) dX3_put_17 FO_3 (Nat.le_of_ble_eq_true rfl) kw_117 (snd_iln (i := 1) dX3_put_20 rfl (snd_si dX3_put_21 (snd_aln (i := 0) dX3_put_22 rfl (snd_dup dX3_put_23 (snd_gf (k := 2) dX3_put_24 FO_3 (Nat.le_of_ble_eq_true rfl) kw_117 (snd_iconst (v := 1) dX3_put_27 rfl (snd_iadd dX3_put_28 (snd_pf (host := "") (k := 2) dX3_put_29 FO_3 tyX3_ok nmX3 (Nat.le_of_ble_eq_true rfl) (Or.inl kw_117) rfl rfl rfl (snd_kill 1 (snd_kill 0 (sB_X3_put_32 hG)))))))))))))))))))))
def f_X3_put : List VV → Wd → Option (Unit × Wd) := fn 2 B_X3_put_0
theorem mt_X3_put {g : GG} {l : Launch} (hG : GOK g) : Mt g l M_X3_put ijU f_X3_put := mt_of (Y := M_X3_put) hG rfl rfl rfl (sB_X3_put_0 hG)
-- X6_wrong
def M_X6_wrong : MD := (yX6_wrong, cX6_wrong, 2, (some .boolean), { frames := 2, cells := 0, slots := 0, locals := 128 }, 0, 0)
theorem co_X6_wrong : CO M_X6_wrong 1 := ⟨kw_560, kw_3, by decide +kernel, rfl, rfl⟩
def B_X6_wrong_0 : Den Int32 := (op_al 0 (op_il 1 (op_ci 16 (op_al 0 (op_gf 6 0 (op_gf 8 2 (op_imul (op_iadd (op_pf 6 1 (op_ci 0 op_zret))))))))))
theorem sB_X6_wrong_0 {g : GG} {l : Launch} (hG : GOK g) : Snd g l M_X6_wrong (QM g M_X6_wrong ijI) 0 (B_X6_wrong_0) :=
  (snd_aln (i := 0) dX6_wrong_0 rfl (snd_iln (i := 1) dX6_wrong_1 rfl (snd_bipush (v := 16) dX6_wrong_2 rfl (snd_aln (i := 0) dX6_wrong_4 rfl (snd_gf (k := 0) dX6_wrong_5 FO_6 (Nat.le_of_ble_eq_true rfl) kw_87 (snd_gfN (k := 2) dX6_wrong_8 FO_8 (Nat.le_of_ble_eq_true rfl) kn_43 (snd_imul dX6_wrong_11 (snd_iadd dX6_wrong_12 (snd_pf (host := "") (k := 1) dX6_wrong_13 FO_6 tyX6_ok nmX6 (Nat.le_of_ble_eq_true rfl) (Or.inl kw_91) rfl rfl rfl (snd_iconst (v := 0) dX6_wrong_16 rfl (snd_zret dX6_wrong_17 rfl)))))))))))
def f_X6_wrong : List VV → Wd → Option (Int32 × Wd) := fn 2 B_X6_wrong_0
theorem mt_X6_wrong {g : GG} {l : Launch} (hG : GOK g) : Mt g l M_X6_wrong ijI f_X6_wrong := mt_of (Y := M_X6_wrong) hG rfl rfl rfl (sB_X6_wrong_0 hG)
-- X8_isFigure
def M_X8_isFigure : MD := (yX8_isFigure, cX8_isFigure, 1, (some .boolean), { frames := 2, cells := 0, slots := 0, locals := 128 }, 0, 0)
theorem co_X8_isFigure : CO M_X8_isFigure 1 := ⟨kw_419, kw_2, by decide +kernel, rfl, rfl⟩
def B_X8_isFigure_17 : Den Int32 := op_zret
theorem sB_X8_isFigure_17 {g : GG} {l : Launch} (hG : GOK g) : Snd g l M_X8_isFigure (QM g M_X8_isFigure ijI) 17 (B_X8_isFigure_17) :=
  (snd_zret dX8_isFigure_17 rfl)
def B_X8_isFigure_16 : Den Int32 := (op_ci 0 (op_kill 0 (B_X8_isFigure_17)))
theorem sB_X8_isFigure_16 {g : GG} {l : Launch} (hG : GOK g) : Snd g l M_X8_isFigure (QM g M_X8_isFigure ijI) 16 (B_X8_isFigure_16) :=
  (snd_iconst (v := 0) dX8_isFigure_16 rfl (snd_kill 0 (sB_X8_isFigure_17 hG)))
def B_X8_isFigure_0 : Den Int32 := (op_il 0 (op_ci 48 (op_iclt (op_kill 0 (B_X8_isFigure_16)) (op_il 0 (op_ci 57 (op_icgt (op_kill 0 (B_X8_isFigure_16)) (op_ci 1 (op_goto (op_kill 0 (B_X8_isFigure_17))))))))))
theorem sB_X8_isFigure_0 {g : GG} {l : Launch} (hG : GOK g) : Snd g l M_X8_isFigure (QM g M_X8_isFigure ijI) 0 (B_X8_isFigure_0) :=
  (snd_iln (i := 0) dX8_isFigure_0 rfl (snd_bipush (v := 48) dX8_isFigure_1 rfl (snd_iclt dX8_isFigure_3 rfl (snd_kill 0 (sB_X8_isFigure_16 hG)) (snd_iln (i := 0) dX8_isFigure_6 rfl (snd_bipush (v := 57) dX8_isFigure_7 rfl (snd_icgt dX8_isFigure_9 rfl (snd_kill 0 (sB_X8_isFigure_16 hG)) (snd_iconst (v := 1) dX8_isFigure_12 rfl (snd_goto dX8_isFigure_13 rfl (snd_kill 0 (sB_X8_isFigure_17 hG))))))))))
def f_X8_isFigure : List VV → Wd → Option (Int32 × Wd) := fn 1 B_X8_isFigure_0
theorem mt_X8_isFigure {g : GG} {l : Launch} (hG : GOK g) : Mt g l M_X8_isFigure ijI f_X8_isFigure := mt_of (Y := M_X8_isFigure) hG rfl rfl rfl (sB_X8_isFigure_0 hG)
-- X8_isLetter
def M_X8_isLetter : MD := (yX8_isLetter, cX8_isLetter, 1, (some .boolean), { frames := 2, cells := 0, slots := 0, locals := 128 }, 0, 0)
theorem co_X8_isLetter : CO M_X8_isLetter 1 := ⟨kw_403, kw_2, by decide +kernel, rfl, rfl⟩
def B_X8_isLetter_17 : Den Int32 := op_zret
theorem sB_X8_isLetter_17 {g : GG} {l : Launch} (hG : GOK g) : Snd g l M_X8_isLetter (QM g M_X8_isLetter ijI) 17 (B_X8_isLetter_17) :=
  (snd_zret dX8_isLetter_17 rfl)
def B_X8_isLetter_16 : Den Int32 := (op_ci 0 (op_kill 0 (B_X8_isLetter_17)))
theorem sB_X8_isLetter_16 {g : GG} {l : Launch} (hG : GOK g) : Snd g l M_X8_isLetter (QM g M_X8_isLetter ijI) 16 (B_X8_isLetter_16) :=
  (snd_iconst (v := 0) dX8_isLetter_16 rfl (snd_kill 0 (sB_X8_isLetter_17 hG)))
def B_X8_isLetter_0 : Den Int32 := (op_il 0 (op_ci 97 (op_iclt (op_kill 0 (B_X8_isLetter_16)) (op_il 0 (op_ci 122 (op_icgt (op_kill 0 (B_X8_isLetter_16)) (op_ci 1 (op_goto (op_kill 0 (B_X8_isLetter_17))))))))))
theorem sB_X8_isLetter_0 {g : GG} {l : Launch} (hG : GOK g) : Snd g l M_X8_isLetter (QM g M_X8_isLetter ijI) 0 (B_X8_isLetter_0) :=
  (snd_iln (i := 0) dX8_isLetter_0 rfl (snd_bipush (v := 97) dX8_isLetter_1 rfl (snd_iclt dX8_isLetter_3 rfl (snd_kill 0 (sB_X8_isLetter_16 hG)) (snd_iln (i := 0) dX8_isLetter_6 rfl (snd_bipush (v := 122) dX8_isLetter_7 rfl (snd_icgt dX8_isLetter_9 rfl (snd_kill 0 (sB_X8_isLetter_16 hG)) (snd_iconst (v := 1) dX8_isLetter_12 rfl (snd_goto dX8_isLetter_13 rfl (snd_kill 0 (sB_X8_isLetter_17 hG))))))))))
def f_X8_isLetter : List VV → Wd → Option (Int32 × Wd) := fn 1 B_X8_isLetter_0
theorem mt_X8_isLetter {g : GG} {l : Launch} (hG : GOK g) : Mt g l M_X8_isLetter ijI f_X8_isLetter := mt_of (Y := M_X8_isLetter) hG rfl rfl rfl (sB_X8_isLetter_0 hG)
-- J0_isLatin1_aae02
def M_J0_isLatin1_aae02 : MD := (yJ0_isLatin1_aae02, cJ0_isLatin1_aae02, 1, (some .boolean), { frames := 2, cells := 0, slots := 0, locals := 128 }, 0, 0)
theorem co_J0_isLatin1_aae02 : CO M_J0_isLatin1_aae02 0 := ⟨kw_439, kw_14, by decide +kernel, rfl, rfl⟩
def B_J0_isLatin1_aae02_18 : Den Int32 := op_zret
theorem sB_J0_isLatin1_aae02_18 {g : GG} {l : Launch} (hG : GOK g) : Snd g l M_J0_isLatin1_aae02 (QM g M_J0_isLatin1_aae02 ijI) 18 (B_J0_isLatin1_aae02_18) :=
  (snd_zret dJ0_isLatin1_aae02_18 rfl)
def B_J0_isLatin1_aae02_17 : Den Int32 := (op_ci 0 (op_kill 0 (B_J0_isLatin1_aae02_18)))
theorem sB_J0_isLatin1_aae02_17 {g : GG} {l : Launch} (hG : GOK g) : Snd g l M_J0_isLatin1_aae02 (QM g M_J0_isLatin1_aae02 ijI) 17 (B_J0_isLatin1_aae02_17) :=
  (snd_iconst (v := 0) dJ0_isLatin1_aae02_17 rfl (snd_kill 0 (sB_J0_isLatin1_aae02_18 hG)))
def B_J0_isLatin1_aae02_0 : Den Int32 := (op_ci 1 (op_ifeq (op_kill 0 (B_J0_isLatin1_aae02_17)) (op_al 0 (op_sc (op_ifne (op_kill 0 (B_J0_isLatin1_aae02_17)) (op_ci 1 (op_goto (op_kill 0 (B_J0_isLatin1_aae02_18)))))))))
theorem sB_J0_isLatin1_aae02_0 {g : GG} {l : Launch} (hG : GOK g) : Snd g l M_J0_isLatin1_aae02 (QM g M_J0_isLatin1_aae02 ijI) 0 (B_J0_isLatin1_aae02_0) :=
  (snd_cs dJ0_isLatin1_aae02_0 kw_440 (snd_ifeq dJ0_isLatin1_aae02_3 rfl (snd_kill 0 (sB_J0_isLatin1_aae02_17 hG)) (snd_aln (i := 0) dJ0_isLatin1_aae02_6 rfl (snd_sc2 dJ0_isLatin1_aae02_7 kw_1912 (snd_ifne dJ0_isLatin1_aae02_10 rfl (snd_kill 0 (sB_J0_isLatin1_aae02_17 hG)) (snd_iconst (v := 1) dJ0_isLatin1_aae02_13 rfl (snd_goto dJ0_isLatin1_aae02_14 rfl (snd_kill 0 (sB_J0_isLatin1_aae02_18 hG)))))))))
def f_J0_isLatin1_aae02 : List VV → Wd → Option (Int32 × Wd) := fn 1 B_J0_isLatin1_aae02_0
theorem mt_J0_isLatin1_aae02 {g : GG} {l : Launch} (hG : GOK g) : Mt g l M_J0_isLatin1_aae02 ijI f_J0_isLatin1_aae02 := mt_of (Y := M_J0_isLatin1_aae02) hG rfl rfl rfl (sB_J0_isLatin1_aae02_0 hG)
-- J0_coder_7d493
def M_J0_coder_7d493 : MD := (yJ0_coder_7d493, cJ0_coder_7d493, 1, (some .byte), { frames := 2, cells := 0, slots := 0, locals := 128 }, 0, 0)
theorem co_J0_coder_7d493 : CO M_J0_coder_7d493 0 := ⟨kw_449, kw_14, by decide +kernel, rfl, rfl⟩
def B_J0_coder_7d493_14 : Den Int32 := op_zret
theorem sB_J0_coder_7d493_14 {g : GG} {l : Launch} (hG : GOK g) : Snd g l M_J0_coder_7d493 (QM g M_J0_coder_7d493 ijI) 14 (B_J0_coder_7d493_14) :=
  (snd_bret dJ0_coder_7d493_14 rfl)
def B_J0_coder_7d493_0 : Den Int32 := (op_ci 1 (op_ifeq (op_ci 1 (op_kill 0 (B_J0_coder_7d493_14))) (op_al 0 (op_sc (op_goto (op_kill 0 (B_J0_coder_7d493_14)))))))
theorem sB_J0_coder_7d493_0 {g : GG} {l : Launch} (hG : GOK g) : Snd g l M_J0_coder_7d493 (QM g M_J0_coder_7d493 ijI) 0 (B_J0_coder_7d493_0) :=
  (snd_cs dJ0_coder_7d493_0 kw_440 (snd_ifeq dJ0_coder_7d493_3 rfl (snd_iconst (v := 1) dJ0_coder_7d493_13 rfl (snd_kill 0 (sB_J0_coder_7d493_14 hG))) (snd_aln (i := 0) dJ0_coder_7d493_6 rfl (snd_sc2 dJ0_coder_7d493_7 kw_1912 (snd_goto dJ0_coder_7d493_10 rfl (snd_kill 0 (sB_J0_coder_7d493_14 hG)))))))
def f_J0_coder_7d493 : List VV → Wd → Option (Int32 × Wd) := fn 1 B_J0_coder_7d493_0
theorem mt_J0_coder_7d493 {g : GG} {l : Launch} (hG : GOK g) : Mt g l M_J0_coder_7d493 ijI f_J0_coder_7d493 := mt_of (Y := M_J0_coder_7d493) hG rfl rfl rfl (sB_J0_coder_7d493_0 hG)
-- J0_length_8abf5
def M_J0_length_8abf5 : MD := (yJ0_length_8abf5, cJ0_length_8abf5, 1, (some .int), { frames := 4, cells := 0, slots := 0, locals := 256 }, 0, 0)
theorem co_J0_length_8abf5 : CO M_J0_length_8abf5 0 := ⟨kw_445, kw_14, by decide +kernel, rfl, rfl⟩
def B_J0_length_8abf5_0 : Den Int32 := (op_al 0 (op_sv (op_lenS (op_al 0 (op_callV 24 ijI f_J0_coder_7d493 1 (op_ishr op_iret))))))
theorem sB_J0_length_8abf5_0 {g : GG} {l : Launch} (hG : GOK g) : Snd g l M_J0_length_8abf5 (QM g M_J0_length_8abf5 ijI) 0 (B_J0_length_8abf5_0) :=
  (snd_aln (i := 0) dJ0_length_8abf5_0 rfl (snd_sv dJ0_length_8abf5_1 kw_1913 (snd_lenS dJ0_length_8abf5_4 (snd_aln (i := 0) dJ0_length_8abf5_5 rfl (snd_callT dJ0_length_8abf5_6 (mt_J0_coder_7d493 hG) co_J0_coder_7d493 ⟨⟨Nat.le_of_ble_eq_true rfl, Nat.le_of_ble_eq_true rfl⟩, Nat.le_of_ble_eq_true rfl, Nat.le_of_ble_eq_true rfl⟩ kw_447 kw_448 kw_446 (snd_ishr dJ0_length_8abf5_9 (snd_iret dJ0_length_8abf5_10 rfl)))))))
def f_J0_length_8abf5 : List VV → Wd → Option (Int32 × Wd) := fn 1 B_J0_length_8abf5_0
theorem mt_J0_length_8abf5 {g : GG} {l : Launch} (hG : GOK g) : Mt g l M_J0_length_8abf5 ijI f_J0_length_8abf5 := mt_of (Y := M_J0_length_8abf5) hG rfl rfl rfl (sB_J0_length_8abf5_0 hG)
-- J1_canEncode_9a6ad
def M_J1_canEncode_9a6ad : MD := (yJ1_canEncode_9a6ad, cJ1_canEncode_9a6ad, 1, (some .boolean), { frames := 2, cells := 0, slots := 0, locals := 128 }, 0, 0)
theorem co_J1_canEncode_9a6ad : CO M_J1_canEncode_9a6ad 1 := ⟨kw_455, kw_15, by decide +kernel, rfl, rfl⟩
def B_J1_canEncode_9a6ad_16 : Den Int32 := op_zret
theorem sB_J1_canEncode_9a6ad_16 {g : GG} {l : Launch} (hG : GOK g) : Snd g l M_J1_canEncode_9a6ad (QM g M_J1_canEncode_9a6ad ijI) 16 (B_J1_canEncode_9a6ad_16) :=
  (snd_zret dJ1_canEncode_9a6ad_16 rfl)
def B_J1_canEncode_9a6ad_15 : Den Int32 := (op_ci 0 (op_kill 0 (B_J1_canEncode_9a6ad_16)))
theorem sB_J1_canEncode_9a6ad_15 {g : GG} {l : Launch} (hG : GOK g) : Snd g l M_J1_canEncode_9a6ad (QM g M_J1_canEncode_9a6ad ijI) 15 (B_J1_canEncode_9a6ad_15) :=
  (snd_iconst (v := 0) dJ1_canEncode_9a6ad_15 rfl (snd_kill 0 (sB_J1_canEncode_9a6ad_16 hG)))
def B_J1_canEncode_9a6ad_0 : Den Int32 := (op_il 0 (op_iflt (op_kill 0 (B_J1_canEncode_9a6ad_15)) (op_il 0 (op_ci 255 (op_icgt (op_kill 0 (B_J1_canEncode_9a6ad_15)) (op_ci 1 (op_goto (op_kill 0 (B_J1_canEncode_9a6ad_16)))))))))
theorem sB_J1_canEncode_9a6ad_0 {g : GG} {l : Launch} (hG : GOK g) : Snd g l M_J1_canEncode_9a6ad (QM g M_J1_canEncode_9a6ad ijI) 0 (B_J1_canEncode_9a6ad_0) :=
  (snd_iln (i := 0) dJ1_canEncode_9a6ad_0 rfl (snd_iflt dJ1_canEncode_9a6ad_1 rfl (snd_kill 0 (sB_J1_canEncode_9a6ad_15 hG)) (snd_iln (i := 0) dJ1_canEncode_9a6ad_4 rfl (snd_sipush (v := 255) dJ1_canEncode_9a6ad_5 rfl (snd_icgt dJ1_canEncode_9a6ad_8 rfl (snd_kill 0 (sB_J1_canEncode_9a6ad_15 hG)) (snd_iconst (v := 1) dJ1_canEncode_9a6ad_11 rfl (snd_goto dJ1_canEncode_9a6ad_12 rfl (snd_kill 0 (sB_J1_canEncode_9a6ad_16 hG)))))))))
def f_J1_canEncode_9a6ad : List VV → Wd → Option (Int32 × Wd) := fn 1 B_J1_canEncode_9a6ad_0
theorem mt_J1_canEncode_9a6ad {g : GG} {l : Launch} (hG : GOK g) : Mt g l M_J1_canEncode_9a6ad ijI f_J1_canEncode_9a6ad := mt_of (Y := M_J1_canEncode_9a6ad) hG rfl rfl rfl (sB_J1_canEncode_9a6ad_0 hG)
-- J1_indexOfChar_4cfef
def M_J1_indexOfChar_4cfef : MD := (yJ1_indexOfChar_4cfef, cJ1_indexOfChar_4cfef, 6, (some .int), { frames := 2, cells := 0, slots := 0, locals := 128 }, 0, 0)
theorem co_J1_indexOfChar_4cfef : CO M_J1_indexOfChar_4cfef 4 := ⟨kw_464, kw_15, by decide +kernel, rfl, rfl⟩
def S_J1_indexOfChar_4cfef_7 (K7 : Den Int32) : Den Int32 := (op_il 5 (op_il 3 (op_icge (op_ci (-1) op_iret) (op_al 0 (op_il 5 (op_sb (op_il 4 (op_icne (op_inc 5 1 (op_goto (op_kill 2 (op_kill 1 K7)))) (op_il 5 op_iret)))))))))
def L_J1_indexOfChar_4cfef_7 : Nat → Den Int32
  | 0 => fun _ _ _ => none
  | n + 1 => S_J1_indexOfChar_4cfef_7 (L_J1_indexOfChar_4cfef_7 n)
theorem sS_J1_indexOfChar_4cfef_7 {g : GG} {l : Launch} (hG : GOK g) {K7 : Den Int32} (hK7 : Snd g l M_J1_indexOfChar_4cfef (QM g M_J1_indexOfChar_4cfef ijI) 7 K7) : Snd g l M_J1_indexOfChar_4cfef (QM g M_J1_indexOfChar_4cfef ijI) 7 (S_J1_indexOfChar_4cfef_7 K7) :=
  (snd_il dJ1_indexOfChar_4cfef_7 (snd_iln (i := 3) dJ1_indexOfChar_4cfef_9 rfl (snd_icge dJ1_indexOfChar_4cfef_10 rfl (snd_iconst (v := (-1)) dJ1_indexOfChar_4cfef_31 rfl (snd_iret dJ1_indexOfChar_4cfef_32 rfl)) (snd_aln (i := 0) dJ1_indexOfChar_4cfef_13 rfl (snd_il dJ1_indexOfChar_4cfef_14 (snd_sb dJ1_indexOfChar_4cfef_16 (snd_il dJ1_indexOfChar_4cfef_17 (snd_icne dJ1_indexOfChar_4cfef_19 rfl (snd_inc (v := 1) dJ1_indexOfChar_4cfef_25 rfl (Nat.le_of_ble_eq_true rfl) (snd_goto dJ1_indexOfChar_4cfef_28 rfl (snd_kill 2 (snd_kill 1 hK7)))) (snd_il dJ1_indexOfChar_4cfef_22 (snd_iret dJ1_indexOfChar_4cfef_24 rfl))))))))))
theorem sL_J1_indexOfChar_4cfef_7 {g : GG} {l : Launch} (hG : GOK g) : ∀ n, Snd g l M_J1_indexOfChar_4cfef (QM g M_J1_indexOfChar_4cfef ijI) 7 (L_J1_indexOfChar_4cfef_7 n)
  | 0 => snd_none
  | n + 1 => sS_J1_indexOfChar_4cfef_7 hG (sL_J1_indexOfChar_4cfef_7 hG n)
def B_J1_indexOfChar_4cfef_0 : Den Int32 := (op_il 1 (op_i2b (op_is 4 (op_il 2 (op_is 5 (op_kill 2 (op_kill 1 (L_J1_indexOfChar_4cfef_7 FU))))))))
theorem sB_J1_indexOfChar_4cfef_0 {g : GG} {l : Launch} (hG : GOK g) : Snd g l M_J1_indexOfChar_4cfef (QM g M_J1_indexOfChar_4cfef ijI) 0 (B_J1_indexOfChar_4cfef_0) :=
  (snd_iln (i := 1) dJ1_indexOfChar_4cfef_0 rfl (snd_i2b dJ1_indexOfChar_4cfef_1 (snd_is dJ1_indexOfChar_4cfef_2 (Nat.le_of_ble_eq_true rfl) (snd_iln (i := 2) dJ1_indexOfChar_4cfef_4 rfl (snd_is dJ1_indexOfChar_4cfef_5 (Nat.le_of_ble_eq_true rfl) (snd_kill 2 (snd_kill 1 (sL_J1_indexOfChar_4cfef_7 hG FU))))))))
def f_J1_indexOfChar_4cfef : List VV → Wd → Option (Int32 × Wd) := fn 6 B_J1_indexOfChar_4cfef_0
theorem mt_J1_indexOfChar_4cfef {g : GG} {l : Launch} (hG : GOK g) : Mt g l M_J1_indexOfChar_4cfef ijI f_J1_indexOfChar_4cfef := mt_of (Y := M_J1_indexOfChar_4cfef) hG rfl rfl rfl (sB_J1_indexOfChar_4cfef_0 hG)
-- J1_indexOf_4cfef
def M_J1_indexOf_4cfef : MD := (yJ1_indexOf_4cfef, cJ1_indexOf_4cfef, 4, (some .int), { frames := 4, cells := 0, slots := 0, locals := 256 }, 0, 0)
theorem co_J1_indexOf_4cfef : CO M_J1_indexOf_4cfef 4 := ⟨kw_452, kw_15, by decide +kernel, rfl, rfl⟩
def B_J1_indexOf_4cfef_0 : Den Int32 := (op_il 1 (op_call ijI f_J1_canEncode_9a6ad 1 (op_ifne (op_il 2 (op_ci 0 (op_max (op_is 2 (op_il 3 (op_al 0 (op_lenS (op_min (op_is 3 (op_il 2 (op_il 3 (op_iclt (op_al 0 (op_il 1 (op_il 2 (op_il 3 (op_call ijI f_J1_indexOfChar_4cfef 4 op_iret))))) (op_ci (-1) op_iret))))))))))))) (op_ci (-1) op_iret))))
theorem sB_J1_indexOf_4cfef_0 {g : GG} {l : Launch} (hG : GOK g) : Snd g l M_J1_indexOf_4cfef (QM g M_J1_indexOf_4cfef ijI) 0 (B_J1_indexOf_4cfef_0) :=
  (snd_iln (i := 1) dJ1_indexOf_4cfef_0 rfl (snd_callS dJ1_indexOf_4cfef_1 (mt_J1_canEncode_9a6ad hG) co_J1_canEncode_9a6ad ⟨⟨Nat.le_of_ble_eq_true rfl, Nat.le_of_ble_eq_true rfl⟩, Nat.le_of_ble_eq_true rfl, Nat.le_of_ble_eq_true rfl⟩ kw_454 kw_453 (snd_ifne dJ1_indexOf_4cfef_4 rfl (snd_iln (i := 2) dJ1_indexOf_4cfef_9 rfl (snd_iconst (v := 0) dJ1_indexOf_4cfef_10 rfl (snd_max dJ1_indexOf_4cfef_11 kw_456 kw_max_s kw_math kw_max_c ⟨⟨Nat.le_of_ble_eq_true rfl, Nat.le_of_ble_eq_true rfl⟩, Nat.le_of_ble_eq_true rfl, Nat.le_of_ble_eq_true rfl⟩ (snd_isn (i := 2) dJ1_indexOf_4cfef_14 rfl (Nat.le_of_ble_eq_true rfl) (snd_iln (i := 3) dJ1_indexOf_4cfef_15 rfl (snd_aln (i := 0) dJ1_indexOf_4cfef_16 rfl (snd_lenS dJ1_indexOf_4cfef_17 (snd_min dJ1_indexOf_4cfef_18 kw_459 kw_min_s kw_math kw_min_c ⟨⟨Nat.le_of_ble_eq_true rfl, Nat.le_of_ble_eq_true rfl⟩, Nat.le_of_ble_eq_true rfl, Nat.le_of_ble_eq_true rfl⟩ (snd_isn (i := 3) dJ1_indexOf_4cfef_21 rfl (Nat.le_of_ble_eq_true rfl) (snd_iln (i := 2) dJ1_indexOf_4cfef_22 rfl (snd_iln (i := 3) dJ1_indexOf_4cfef_23 rfl (snd_iclt dJ1_indexOf_4cfef_24 rfl (snd_aln (i := 0) dJ1_indexOf_4cfef_29 rfl (snd_iln (i := 1) dJ1_indexOf_4cfef_30 rfl (snd_iln (i := 2) dJ1_indexOf_4cfef_31 rfl (snd_iln (i := 3) dJ1_indexOf_4cfef_32 rfl (snd_callS dJ1_indexOf_4cfef_33 (mt_J1_indexOfChar_4cfef hG) co_J1_indexOfChar_4cfef ⟨⟨Nat.le_of_ble_eq_true rfl, Nat.le_of_ble_eq_true rfl⟩, Nat.le_of_ble_eq_true rfl, Nat.le_of_ble_eq_true rfl⟩ kw_463 kw_462 (snd_iret dJ1_indexOf_4cfef_36 rfl)))))) (snd_iconst (v := (-1)) dJ1_indexOf_4cfef_27 rfl (snd_iret dJ1_indexOf_4cfef_28 rfl)))))))))))))) (snd_iconst (v := (-1)) dJ1_indexOf_4cfef_7 rfl (snd_iret dJ1_indexOf_4cfef_8 rfl)))))
def f_J1_indexOf_4cfef : List VV → Wd → Option (Int32 × Wd) := fn 4 B_J1_indexOf_4cfef_0
theorem mt_J1_indexOf_4cfef {g : GG} {l : Launch} (hG : GOK g) : Mt g l M_J1_indexOf_4cfef ijI f_J1_indexOf_4cfef := mt_of (Y := M_J1_indexOf_4cfef) hG rfl rfl rfl (sB_J1_indexOf_4cfef_0 hG)
-- J0_indexOf_7cf53
def M_J0_indexOf_7cf53 : MD := (yJ0_indexOf_7cf53, cJ0_indexOf_7cf53, 3, (some .int), { frames := 6, cells := 0, slots := 0, locals := 384 }, 0, 0)
theorem co_J0_indexOf_7cf53 : CO M_J0_indexOf_7cf53 2 := ⟨kw_435, kw_14, by decide +kernel, rfl, rfl⟩
def B_J0_indexOf_7cf53_36 : Den Int32 := op_iret
theorem sB_J0_indexOf_7cf53_36 {g : GG} {l : Launch} (hG : GOK g) : Snd g l M_J0_indexOf_7cf53 (QM g M_J0_indexOf_7cf53 ijI) 36 (B_J0_indexOf_7cf53_36) :=
  (snd_iret dJ0_indexOf_7cf53_36 rfl)
def B_J0_indexOf_7cf53_0 : Den Int32 := (op_al 0 (op_callV 24 ijI f_J0_isLatin1_aae02 1 (op_ifeq (op_al 0 (op_sv (op_il 1 (op_il 2 (op_al 0 (op_callV 24 ijI f_J0_length_8abf5 1 (fun _ _ _ => none))))))) (op_al 0 (op_sv (op_il 1 (op_il 2 (op_al 0 (op_callV 24 ijI f_J0_length_8abf5 1 (op_call ijI f_J1_indexOf_4cfef 4 (op_goto (op_kill 2 (op_kill 1 (op_kill 0 (B_J0_indexOf_7cf53_36)))))))))))))))
theorem sB_J0_indexOf_7cf53_0 {g : GG} {l : Launch} (hG : GOK g) : Snd g l M_J0_indexOf_7cf53 (QM g M_J0_indexOf_7cf53 ijI) 0 (B_J0_indexOf_7cf53_0) :=
  (snd_aln (i := 0) dJ0_indexOf_7cf53_0 rfl (snd_callT dJ0_indexOf_7cf53_1 (mt_J0_isLatin1_aae02 hG) co_J0_isLatin1_aae02 ⟨⟨Nat.le_of_ble_eq_true rfl, Nat.le_of_ble_eq_true rfl⟩, Nat.le_of_ble_eq_true rfl, Nat.le_of_ble_eq_true rfl⟩ kw_437 kw_438 kw_436 (snd_ifeq dJ0_indexOf_7cf53_4 rfl (snd_aln (i := 0) dJ0_indexOf_7cf53_23 rfl (snd_sv dJ0_indexOf_7cf53_24 kw_1913 (snd_iln (i := 1) dJ0_indexOf_7cf53_27 rfl (snd_iln (i := 2) dJ0_indexOf_7cf53_28 rfl (snd_aln (i := 0) dJ0_indexOf_7cf53_29 rfl (snd_callT dJ0_indexOf_7cf53_30 (mt_J0_length_8abf5 hG) co_J0_length_8abf5 ⟨⟨Nat.le_of_ble_eq_true rfl, Nat.le_of_ble_eq_true rfl⟩, Nat.le_of_ble_eq_true rfl, Nat.le_of_ble_eq_true rfl⟩ kw_443 kw_444 kw_442 snd_none)))))) (snd_aln (i := 0) dJ0_indexOf_7cf53_7 rfl (snd_sv dJ0_indexOf_7cf53_8 kw_1913 (snd_iln (i := 1) dJ0_indexOf_7cf53_11 rfl (snd_iln (i := 2) dJ0_indexOf_7cf53_12 rfl (snd_aln (i := 0) dJ0_indexOf_7cf53_13 rfl (snd_callT dJ0_indexOf_7cf53_14 (mt_J0_length_8abf5 hG) co_J0_length_8abf5 ⟨⟨Nat.le_of_ble_eq_true rfl, Nat.le_of_ble_eq_true rfl⟩, Nat.le_of_ble_eq_true rfl, Nat.le_of_ble_eq_true rfl⟩ kw_443 kw_444 kw_442 (snd_callS dJ0_indexOf_7cf53_17 (mt_J1_indexOf_4cfef hG) co_J1_indexOf_4cfef ⟨⟨Nat.le_of_ble_eq_true rfl, Nat.le_of_ble_eq_true rfl⟩, Nat.le_of_ble_eq_true rfl, Nat.le_of_ble_eq_true rfl⟩ kw_451 kw_450 (snd_goto dJ0_indexOf_7cf53_20 rfl (snd_kill 2 (snd_kill 1 (snd_kill 0 (sB_J0_indexOf_7cf53_36 hG)))))))))))))))
def f_J0_indexOf_7cf53 : List VV → Wd → Option (Int32 × Wd) := fn 3 B_J0_indexOf_7cf53_0
theorem mt_J0_indexOf_7cf53 {g : GG} {l : Launch} (hG : GOK g) : Mt g l M_J0_indexOf_7cf53 ijI f_J0_indexOf_7cf53 := mt_of (Y := M_J0_indexOf_7cf53) hG rfl rfl rfl (sB_J0_indexOf_7cf53_0 hG)
-- J0_indexOf_0f7a4
def M_J0_indexOf_0f7a4 : MD := (yJ0_indexOf_0f7a4, cJ0_indexOf_0f7a4, 2, (some .int), { frames := 8, cells := 0, slots := 0, locals := 512 }, 0, 0)
theorem co_J0_indexOf_0f7a4 : CO M_J0_indexOf_0f7a4 1 := ⟨kw_431, kw_14, by decide +kernel, rfl, rfl⟩
def B_J0_indexOf_0f7a4_0 : Den Int32 := (op_al 0 (op_il 1 (op_ci 0 (op_callV 24 ijI f_J0_indexOf_7cf53 3 op_iret))))
theorem sB_J0_indexOf_0f7a4_0 {g : GG} {l : Launch} (hG : GOK g) : Snd g l M_J0_indexOf_0f7a4 (QM g M_J0_indexOf_0f7a4 ijI) 0 (B_J0_indexOf_0f7a4_0) :=
  (snd_aln (i := 0) dJ0_indexOf_0f7a4_0 rfl (snd_iln (i := 1) dJ0_indexOf_0f7a4_1 rfl (snd_iconst (v := 0) dJ0_indexOf_0f7a4_2 rfl (snd_callT dJ0_indexOf_0f7a4_3 (mt_J0_indexOf_7cf53 hG) co_J0_indexOf_7cf53 ⟨⟨Nat.le_of_ble_eq_true rfl, Nat.le_of_ble_eq_true rfl⟩, Nat.le_of_ble_eq_true rfl, Nat.le_of_ble_eq_true rfl⟩ kw_433 kw_434 kw_432 (snd_iret dJ0_indexOf_0f7a4_6 rfl)))))
def f_J0_indexOf_0f7a4 : List VV → Wd → Option (Int32 × Wd) := fn 2 B_J0_indexOf_0f7a4_0
theorem mt_J0_indexOf_0f7a4 {g : GG} {l : Launch} (hG : GOK g) : Mt g l M_J0_indexOf_0f7a4 ijI f_J0_indexOf_0f7a4 := mt_of (Y := M_J0_indexOf_0f7a4) hG rfl rfl rfl (sB_J0_indexOf_0f7a4_0 hG)
-- X8_isSign
def M_X8_isSign : MD := (yX8_isSign, cX8_isSign, 1, (some .boolean), { frames := 10, cells := 0, slots := 0, locals := 640 }, 0, 0)
theorem co_X8_isSign : CO M_X8_isSign 1 := ⟨kw_426, kw_2, by decide +kernel, rfl, rfl⟩
def B_X8_isSign_14 : Den Int32 := op_zret
theorem sB_X8_isSign_14 {g : GG} {l : Launch} (hG : GOK g) : Snd g l M_X8_isSign (QM g M_X8_isSign ijI) 14 (B_X8_isSign_14) :=
  (snd_zret dX8_isSign_14 rfl)
def B_X8_isSign_0 : Den Int32 := (op_tx (op_il 0 (op_callV 24 ijI f_J0_indexOf_0f7a4 2 (op_iflt (op_ci 0 (op_kill 0 (B_X8_isSign_14))) (op_ci 1 (op_goto (op_kill 0 (B_X8_isSign_14))))))))
theorem sB_X8_isSign_0 {g : GG} {l : Launch} (hG : GOK g) : Snd g l M_X8_isSign (QM g M_X8_isSign ijI) 0 (B_X8_isSign_0) :=
  (snd_tx dX8_isSign_0 rfl rfl (snd_iln (i := 0) dX8_isSign_2 rfl (snd_callT dX8_isSign_3 (mt_J0_indexOf_0f7a4 hG) co_J0_indexOf_0f7a4 ⟨⟨Nat.le_of_ble_eq_true rfl, Nat.le_of_ble_eq_true rfl⟩, Nat.le_of_ble_eq_true rfl, Nat.le_of_ble_eq_true rfl⟩ kw_429 kw_430 kw_428 (snd_iflt dX8_isSign_6 rfl (snd_iconst (v := 0) dX8_isSign_13 rfl (snd_kill 0 (sB_X8_isSign_14 hG))) (snd_iconst (v := 1) dX8_isSign_9 rfl (snd_goto dX8_isSign_10 rfl (snd_kill 0 (sB_X8_isSign_14 hG))))))))
def f_X8_isSign : List VV → Wd → Option (Int32 × Wd) := fn 1 B_X8_isSign_0
theorem mt_X8_isSign {g : GG} {l : Launch} (hG : GOK g) : Mt g l M_X8_isSign ijI f_X8_isSign := mt_of (Y := M_X8_isSign) hG rfl rfl rfl (sB_X8_isSign_0 hG)
-- X8_scanNumber
def M_X8_scanNumber : MD := (yX8_scanNumber, cX8_scanNumber, 1, none, { frames := 4, cells := 0, slots := 0, locals := 256 }, 0, 0)
theorem co_X8_scanNumber : CO M_X8_scanNumber 0 := ⟨kw_423, kw_2, by decide +kernel, rfl, rfl⟩
def B_X8_scanNumber_87 : Den Unit := (op_pf 8 4 op_ret)
theorem sB_X8_scanNumber_87 {g : GG} {l : Launch} (hG : GOK g) : Snd g l M_X8_scanNumber (QM g M_X8_scanNumber ijU) 87 (B_X8_scanNumber_87) :=
  (snd_pf (host := "") (k := 4) dX8_scanNumber_87 FO_8 tyX8_ok nmX8 (Nat.le_of_ble_eq_true rfl) (Or.inl kw_48) rfl rfl rfl (snd_ret dX8_scanNumber_90 rfl))
def B_X8_scanNumber_68 : Den Unit := (op_al 0 (op_al 0 (op_gf 8 3 (op_al 0 (op_gf 8 2 (op_isub (op_ci 4 (op_icle (op_ci 2 (op_kill 0 (B_X8_scanNumber_87))) (op_ci 3 (op_goto (op_kill 0 (B_X8_scanNumber_87))))))))))))
theorem sB_X8_scanNumber_68 {g : GG} {l : Launch} (hG : GOK g) : Snd g l M_X8_scanNumber (QM g M_X8_scanNumber ijU) 68 (B_X8_scanNumber_68) :=
  (snd_aln (i := 0) dX8_scanNumber_68 rfl (snd_aln (i := 0) dX8_scanNumber_69 rfl (snd_gf (k := 3) dX8_scanNumber_70 FO_8 (Nat.le_of_ble_eq_true rfl) kw_45 (snd_aln (i := 0) dX8_scanNumber_73 rfl (snd_gf (k := 2) dX8_scanNumber_74 FO_8 (Nat.le_of_ble_eq_true rfl) kw_44 (snd_isub dX8_scanNumber_77 (snd_iconst (v := 4) dX8_scanNumber_78 rfl (snd_icle dX8_scanNumber_79 rfl (snd_iconst (v := 2) dX8_scanNumber_86 rfl (snd_kill 0 (sB_X8_scanNumber_87 hG))) (snd_iconst (v := 3) dX8_scanNumber_82 rfl (snd_goto dX8_scanNumber_83 rfl (snd_kill 0 (sB_X8_scanNumber_87 hG))))))))))))
def S_X8_scanNumber_5 (K5 : Den Unit) : Den Unit := (op_al 0 (op_gf 8 3 (op_al 0 (op_gf 8 1 (op_icge (B_X8_scanNumber_68) (op_al 0 (op_gf 8 0 (op_al 0 (op_gf 8 3 (op_aa 12 (op_call ijI f_X8_isFigure 1 (op_ifeq (B_X8_scanNumber_68) (op_al 0 (op_al 0 (op_gf 8 7 (op_ci 10 (op_imul (op_al 0 (op_gf 8 0 (op_al 0 (op_gf 8 3 (op_aa 12 (op_ci 48 (op_isub (op_iadd (op_pf 8 7 (op_al 0 (op_dup (op_gf 8 3 (op_ci 1 (op_iadd (op_pf 8 3 (op_goto K5)))))))))))))))))))))))))))))))))
def L_X8_scanNumber_5 : Nat → Den Unit
  | 0 => fun _ _ _ => none
  | n + 1 => S_X8_scanNumber_5 (L_X8_scanNumber_5 n)
theorem sS_X8_scanNumber_5 {g : GG} {l : Launch} (hG : GOK g) {K5 : Den Unit} (hK5 : Snd g l M_X8_scanNumber (QM g M_X8_scanNumber ijU) 5 K5) : Snd g l M_X8_scanNumber (QM g M_X8_scanNumber ijU) 5 (S_X8_scanNumber_5 K5) :=
  (snd_aln (i := 0) dX8_scanNumber_5 rfl (snd_gf (k := 3) dX8_scanNumber_6 FO_8 (Nat.le_of_ble_eq_true rfl) kw_45 (snd_aln (i := 0) dX8_scanNumber_9 rfl (snd_gf (k := 1) dX8_scanNumber_10 FO_8 (Nat.le_of_ble_eq_true rfl) kw_42 (snd_icge dX8_scanNumber_13 rfl (sB_X8_scanNumber_68 hG) (snd_aln (i := 0) dX8_scanNumber_16 rfl (snd_gf (k := 0) dX8_scanNumber_17 FO_8 (Nat.le_of_ble_eq_true rfl) kw_40 (snd_aln (i := 0) dX8_scanNumber_20 rfl (snd_gf (k := 3) dX8_scanNumber_21 FO_8 (Nat.le_of_ble_eq_true rfl) kw_45 (snd_ca dX8_scanNumber_24 (snd_callS dX8_scanNumber_25 (mt_X8_isFigure hG) co_X8_isFigure ⟨⟨Nat.le_of_ble_eq_true rfl, Nat.le_of_ble_eq_true rfl⟩, Nat.le_of_ble_eq_true rfl, Nat.le_of_ble_eq_true rfl⟩ kw_418 kw_417 (snd_ifeq dX8_scanNumber_28 rfl (sB_X8_scanNumber_68 hG) (snd_aln (i := 0) dX8_scanNumber_31 rfl (snd_aln (i := 0) dX8_scanNumber_32 rfl (snd_gf (k := 7) dX8_scanNumber_33 FO_8 (Nat.le_of_ble_eq_true rfl) kw_59 (snd_bipush (v := 10) dX8_scanNumber_36 rfl (snd_imul dX8_scanNumber_38 (snd_aln (i := 0) dX8_scanNumber_39 rfl (snd_gf (k := 0) dX8_scanNumber_40 FO_8 (Nat.le_of_ble_eq_true rfl) kw_40 (snd_aln (i := 0) dX8_scanNumber_43 rfl (snd_gf (k := 3) dX8_scanNumber_44 FO_8 (Nat.le_of_ble_eq_true rfl) kw_45 (snd_ca dX8_scanNumber_47 (snd_bipush (v := 48) dX8_scanNumber_48 rfl (snd_isub dX8_scanNumber_50 (snd_iadd dX8_scanNumber_51 (snd_pf (host := "") (k := 7) dX8_scanNumber_52 FO_8 tyX8_ok nmX8 (Nat.le_of_ble_eq_true rfl) (Or.inl kw_59) rfl rfl rfl (snd_aln (i := 0) dX8_scanNumber_55 rfl (snd_dup dX8_scanNumber_56 (snd_gf (k := 3) dX8_scanNumber_57 FO_8 (Nat.le_of_ble_eq_true rfl) kw_45 (snd_iconst (v := 1) dX8_scanNumber_60 rfl (snd_iadd dX8_scanNumber_61 (snd_pf (host := "") (k := 3) dX8_scanNumber_62 FO_8 tyX8_ok nmX8 (Nat.le_of_ble_eq_true rfl) (Or.inl kw_45) rfl rfl rfl (snd_goto dX8_scanNumber_65 rfl hK5)))))))))))))))))))))))))))))))))
theorem sL_X8_scanNumber_5 {g : GG} {l : Launch} (hG : GOK g) : ∀ n, Snd g l M_X8_scanNumber (QM g M_X8_scanNumber ijU) 5 (L_X8_scanNumber_5 n)
  | 0 => snd_none
  | n + 1 => sS_X8_scanNumber_5 hG (sL_X8_scanNumber_5 hG n)
def B_X8_scanNumber_0 : Den Unit := (op_al 0 (op_ci 0 (op_pf 8 7 (L_X8_scanNumber_5 FU))))
theorem sB_X8_scanNumber_0 {g : GG} {l : Launch} (hG : GOK g) : Snd g l M_X8_scanNumber (QM g M_X8_scanNumber ijU) 0 (B_X8_scanNumber_0) :=
  (snd_aln (i := 0) dX8_scanNumber_0 rfl (snd_iconst (v := 0) dX8_scanNumber_1 rfl (snd_pf (host := "") (k := 7) dX8_scanNumber_2 FO_8 tyX8_ok nmX8 (Nat.le_of_ble_eq_true rfl) (Or.inl kw_59) rfl rfl rfl (sL_X8_scanNumber_5 hG FU))))
def f_X8_scanNumber : List VV → Wd → Option (Unit × Wd) := fn 1 B_X8_scanNumber_0
theorem mt_X8_scanNumber {g : GG} {l : Launch} (hG : GOK g) : Mt g l M_X8_scanNumber ijU f_X8_scanNumber := mt_of (Y := M_X8_scanNumber) hG rfl rfl rfl (sB_X8_scanNumber_0 hG)
-- X9_of
def M_X9_of : MD := (yX9_of, cX9_of, 3, (some (.object "DrownedCave$Word")), { frames := 2, cells := 0, slots := 0, locals := 128 }, 0, 0)
theorem co_X9_of : CO M_X9_of 1 := ⟨kw_414, kw_13, by decide +kernel, rfl, rfl⟩
def S_X9_of_2 (K2 : Den (Option (Nat × Nat))) : Den (Option (Nat × Nat)) := (op_il 2 (op_kn (op_lenS (op_icge (op_cn op_rret) (op_kn (op_il 2 (op_kna (op_ecd (op_ll 0 (op_lcmp (op_ifne (op_inc 2 1 (op_goto K2)) (op_kn (op_il 2 (op_kna op_rret))))))))))))))
def L_X9_of_2 : Nat → Den (Option (Nat × Nat))
  | 0 => fun _ _ _ => none
  | n + 1 => S_X9_of_2 (L_X9_of_2 n)
theorem sS_X9_of_2 {g : GG} {l : Launch} (hG : GOK g) {K2 : Den (Option (Nat × Nat))} (hK2 : Snd g l M_X9_of (QM g M_X9_of ijR) 2 K2) : Snd g l M_X9_of (QM g M_X9_of ijR) 2 (S_X9_of_2 K2) :=
  (snd_iln (i := 2) dX9_of_2 rfl (snd_kn dX9_of_3 kw_415 (snd_lenS dX9_of_6 (snd_icge dX9_of_7 rfl (snd_null dX9_of_35 (snd_rret dX9_of_36 rfl)) (snd_kn dX9_of_10 kw_415 (snd_iln (i := 2) dX9_of_13 rfl (snd_kna dX9_of_14 (snd_ecd dX9_of_15 kw_1911 (snd_lln (i := 0) dX9_of_18 rfl (snd_lcmp dX9_of_19 (snd_ifne dX9_of_20 rfl (snd_inc (v := 1) dX9_of_29 rfl (Nat.le_of_ble_eq_true rfl) (snd_goto dX9_of_32 rfl hK2)) (snd_kn dX9_of_23 kw_415 (snd_iln (i := 2) dX9_of_26 rfl (snd_kna dX9_of_27 (snd_rret dX9_of_28 rfl)))))))))))))))
theorem sL_X9_of_2 {g : GG} {l : Launch} (hG : GOK g) : ∀ n, Snd g l M_X9_of (QM g M_X9_of ijR) 2 (L_X9_of_2 n)
  | 0 => snd_none
  | n + 1 => sS_X9_of_2 hG (sL_X9_of_2 hG n)
def B_X9_of_0 : Den (Option (Nat × Nat)) := (op_ci 0 (op_is 2 (L_X9_of_2 FU)))
theorem sB_X9_of_0 {g : GG} {l : Launch} (hG : GOK g) : Snd g l M_X9_of (QM g M_X9_of ijR) 0 (B_X9_of_0) :=
  (snd_iconst (v := 0) dX9_of_0 rfl (snd_isn (i := 2) dX9_of_1 rfl (Nat.le_of_ble_eq_true rfl) (sL_X9_of_2 hG FU)))
def f_X9_of : List VV → Wd → Option ((Option (Nat × Nat)) × Wd) := fn 3 B_X9_of_0
theorem mt_X9_of {g : GG} {l : Launch} (hG : GOK g) : Mt g l M_X9_of ijR f_X9_of := mt_of (Y := M_X9_of) hG rfl rfl rfl (sB_X9_of_0 hG)
-- X9_withLetter
def M_X9_withLetter : MD := (yX9_withLetter, cX9_withLetter, 3, (some .long), { frames := 2, cells := 0, slots := 0, locals := 128 }, 0, 0)
theorem co_X9_withLetter : CO M_X9_withLetter 2 := ⟨kw_410, kw_13, by decide +kernel, rfl, rfl⟩
def B_X9_withLetter_0 : Den Int64 := (op_ll 0 (op_cl (32) (op_lmul (op_il 2 (op_ci 97 (op_isub (op_ci 1 (op_iadd (op_i2l (op_ladd op_jret))))))))))
theorem sB_X9_withLetter_0 {g : GG} {l : Launch} (hG : GOK g) : Snd g l M_X9_withLetter (QM g M_X9_withLetter ijJ) 0 (B_X9_withLetter_0) :=
  (snd_lln (i := 0) dX9_withLetter_0 rfl (snd_ldc2 (v := (32)) dX9_withLetter_1 kw_411 (snd_lmul dX9_withLetter_4 (snd_iln (i := 2) dX9_withLetter_5 rfl (snd_bipush (v := 97) dX9_withLetter_6 rfl (snd_isub dX9_withLetter_8 (snd_iconst (v := 1) dX9_withLetter_9 rfl (snd_iadd dX9_withLetter_10 (snd_i2l dX9_withLetter_11 (snd_ladd dX9_withLetter_12 (snd_jret dX9_withLetter_13 rfl)))))))))))
def f_X9_withLetter : List VV → Wd → Option (Int64 × Wd) := fn 3 B_X9_withLetter_0
theorem mt_X9_withLetter {g : GG} {l : Launch} (hG : GOK g) : Mt g l M_X9_withLetter ijJ f_X9_withLetter := mt_of (Y := M_X9_withLetter) hG rfl rfl rfl (sB_X9_withLetter_0 hG)
-- X8_scanWord
def M_X8_scanWord : MD := (yX8_scanWord, cX8_scanWord, 1, none, { frames := 4, cells := 0, slots := 0, locals := 256 }, 0, 0)
theorem co_X8_scanWord : CO M_X8_scanWord 0 := ⟨kw_407, kw_2, by decide +kernel, rfl, rfl⟩
def B_X8_scanWord_107 : Den Unit := (op_pe 8 6 21 op_ret)
theorem sB_X8_scanWord_107 {g : GG} {l : Launch} (hG : GOK g) : Snd g l M_X8_scanWord (QM g M_X8_scanWord ijU) 107 (B_X8_scanWord_107) :=
  (snd_pe (host := "") (k := 6) dX8_scanWord_107 FO_8 tyX8_ok nmX8 (Nat.le_of_ble_eq_true rfl) (Or.inl kw_58) rfl rfl (Or.inr (Or.inr rfl)) rfl (snd_ret dX8_scanWord_110 rfl))
def B_X8_scanWord_84 : Den Unit := (op_pf 8 4 (op_al 0 (op_al 0 (op_gf 8 4 (op_ci 1 (op_icne (op_cn (op_kill 0 (B_X8_scanWord_107))) (op_al 0 (op_gf 8 5 (op_call ijR f_X9_of 1 (op_goto (op_kill 0 (B_X8_scanWord_107))))))))))))
theorem sB_X8_scanWord_84 {g : GG} {l : Launch} (hG : GOK g) : Snd g l M_X8_scanWord (QM g M_X8_scanWord ijU) 84 (B_X8_scanWord_84) :=
  (snd_pf (host := "") (k := 4) dX8_scanWord_84 FO_8 tyX8_ok nmX8 (Nat.le_of_ble_eq_true rfl) (Or.inl kw_48) rfl rfl rfl (snd_aln (i := 0) dX8_scanWord_87 rfl (snd_aln (i := 0) dX8_scanWord_88 rfl (snd_gf (k := 4) dX8_scanWord_89 FO_8 (Nat.le_of_ble_eq_true rfl) kw_48 (snd_iconst (v := 1) dX8_scanWord_92 rfl (snd_icne dX8_scanWord_93 rfl (snd_null dX8_scanWord_106 (snd_kill 0 (sB_X8_scanWord_107 hG))) (snd_aln (i := 0) dX8_scanWord_96 rfl (snd_gf (k := 5) dX8_scanWord_97 FO_8 (Nat.le_of_ble_eq_true rfl) kw_53 (snd_callS dX8_scanWord_100 (mt_X9_of hG) co_X9_of ⟨⟨Nat.le_of_ble_eq_true rfl, Nat.le_of_ble_eq_true rfl⟩, Nat.le_of_ble_eq_true rfl, Nat.le_of_ble_eq_true rfl⟩ kw_413 kw_412 (snd_goto dX8_scanWord_103 rfl (snd_kill 0 (sB_X8_scanWord_107 hG))))))))))))
def B_X8_scanWord_64 : Den Unit := (op_al 0 (op_al 0 (op_gf 8 3 (op_al 0 (op_gf 8 2 (op_isub (op_ci 8 (op_icle (op_ci 1 (B_X8_scanWord_84)) (op_ci 3 (op_goto (B_X8_scanWord_84)))))))))))
theorem sB_X8_scanWord_64 {g : GG} {l : Launch} (hG : GOK g) : Snd g l M_X8_scanWord (QM g M_X8_scanWord ijU) 64 (B_X8_scanWord_64) :=
  (snd_aln (i := 0) dX8_scanWord_64 rfl (snd_aln (i := 0) dX8_scanWord_65 rfl (snd_gf (k := 3) dX8_scanWord_66 FO_8 (Nat.le_of_ble_eq_true rfl) kw_45 (snd_aln (i := 0) dX8_scanWord_69 rfl (snd_gf (k := 2) dX8_scanWord_70 FO_8 (Nat.le_of_ble_eq_true rfl) kw_44 (snd_isub dX8_scanWord_73 (snd_bipush (v := 8) dX8_scanWord_74 rfl (snd_icle dX8_scanWord_76 rfl (snd_iconst (v := 1) dX8_scanWord_83 rfl (sB_X8_scanWord_84 hG)) (snd_iconst (v := 3) dX8_scanWord_79 rfl (snd_goto dX8_scanWord_80 rfl (sB_X8_scanWord_84 hG)))))))))))
def S_X8_scanWord_5 (K5 : Den Unit) : Den Unit := (op_al 0 (op_gf 8 3 (op_al 0 (op_gf 8 1 (op_icge (B_X8_scanWord_64) (op_al 0 (op_gf 8 0 (op_al 0 (op_gf 8 3 (op_aa 12 (op_call ijI f_X8_isLetter 1 (op_ifeq (B_X8_scanWord_64) (op_al 0 (op_al 0 (op_gf 8 5 (op_al 0 (op_gf 8 0 (op_al 0 (op_gf 8 3 (op_aa 12 (op_call ijJ f_X9_withLetter 2 (op_pj 8 5 (op_al 0 (op_dup (op_gf 8 3 (op_ci 1 (op_iadd (op_pf 8 3 (op_goto K5)))))))))))))))))))))))))))))
def L_X8_scanWord_5 : Nat → Den Unit
  | 0 => fun _ _ _ => none
  | n + 1 => S_X8_scanWord_5 (L_X8_scanWord_5 n)
theorem sS_X8_scanWord_5 {g : GG} {l : Launch} (hG : GOK g) {K5 : Den Unit} (hK5 : Snd g l M_X8_scanWord (QM g M_X8_scanWord ijU) 5 K5) : Snd g l M_X8_scanWord (QM g M_X8_scanWord ijU) 5 (S_X8_scanWord_5 K5) :=
  (snd_aln (i := 0) dX8_scanWord_5 rfl (snd_gf (k := 3) dX8_scanWord_6 FO_8 (Nat.le_of_ble_eq_true rfl) kw_45 (snd_aln (i := 0) dX8_scanWord_9 rfl (snd_gf (k := 1) dX8_scanWord_10 FO_8 (Nat.le_of_ble_eq_true rfl) kw_42 (snd_icge dX8_scanWord_13 rfl (sB_X8_scanWord_64 hG) (snd_aln (i := 0) dX8_scanWord_16 rfl (snd_gf (k := 0) dX8_scanWord_17 FO_8 (Nat.le_of_ble_eq_true rfl) kw_40 (snd_aln (i := 0) dX8_scanWord_20 rfl (snd_gf (k := 3) dX8_scanWord_21 FO_8 (Nat.le_of_ble_eq_true rfl) kw_45 (snd_ca dX8_scanWord_24 (snd_callS dX8_scanWord_25 (mt_X8_isLetter hG) co_X8_isLetter ⟨⟨Nat.le_of_ble_eq_true rfl, Nat.le_of_ble_eq_true rfl⟩, Nat.le_of_ble_eq_true rfl, Nat.le_of_ble_eq_true rfl⟩ kw_402 kw_401 (snd_ifeq dX8_scanWord_28 rfl (sB_X8_scanWord_64 hG) (snd_aln (i := 0) dX8_scanWord_31 rfl (snd_aln (i := 0) dX8_scanWord_32 rfl (snd_gf (k := 5) dX8_scanWord_33 FO_8 (Nat.le_of_ble_eq_true rfl) kw_53 (snd_aln (i := 0) dX8_scanWord_36 rfl (snd_gf (k := 0) dX8_scanWord_37 FO_8 (Nat.le_of_ble_eq_true rfl) kw_40 (snd_aln (i := 0) dX8_scanWord_40 rfl (snd_gf (k := 3) dX8_scanWord_41 FO_8 (Nat.le_of_ble_eq_true rfl) kw_45 (snd_ca dX8_scanWord_44 (snd_callS dX8_scanWord_45 (mt_X9_withLetter hG) co_X9_withLetter ⟨⟨Nat.le_of_ble_eq_true rfl, Nat.le_of_ble_eq_true rfl⟩, Nat.le_of_ble_eq_true rfl, Nat.le_of_ble_eq_true rfl⟩ kw_409 kw_408 (snd_pj (host := "") (k := 5) dX8_scanWord_48 FO_8 tyX8_ok nmX8 (Nat.le_of_ble_eq_true rfl) (Or.inl kw_53) rfl rfl rfl (snd_aln (i := 0) dX8_scanWord_51 rfl (snd_dup dX8_scanWord_52 (snd_gf (k := 3) dX8_scanWord_53 FO_8 (Nat.le_of_ble_eq_true rfl) kw_45 (snd_iconst (v := 1) dX8_scanWord_56 rfl (snd_iadd dX8_scanWord_57 (snd_pf (host := "") (k := 3) dX8_scanWord_58 FO_8 tyX8_ok nmX8 (Nat.le_of_ble_eq_true rfl) (Or.inl kw_45) rfl rfl rfl (snd_goto dX8_scanWord_61 rfl hK5)))))))))))))))))))))))))))))
theorem sL_X8_scanWord_5 {g : GG} {l : Launch} (hG : GOK g) : ∀ n, Snd g l M_X8_scanWord (QM g M_X8_scanWord ijU) 5 (L_X8_scanWord_5 n)
  | 0 => snd_none
  | n + 1 => sS_X8_scanWord_5 hG (sL_X8_scanWord_5 hG n)
def B_X8_scanWord_0 : Den Unit := (op_al 0 (op_cl 0 (op_pj 8 5 (L_X8_scanWord_5 FU))))
theorem sB_X8_scanWord_0 {g : GG} {l : Launch} (hG : GOK g) : Snd g l M_X8_scanWord (QM g M_X8_scanWord ijU) 0 (B_X8_scanWord_0) :=
  (snd_aln (i := 0) dX8_scanWord_0 rfl (snd_lconst (v := 0) dX8_scanWord_1 rfl (snd_pj (host := "") (k := 5) dX8_scanWord_2 FO_8 tyX8_ok nmX8 (Nat.le_of_ble_eq_true rfl) (Or.inl kw_53) rfl rfl rfl (sL_X8_scanWord_5 hG FU))))
def f_X8_scanWord : List VV → Wd → Option (Unit × Wd) := fn 1 B_X8_scanWord_0
theorem mt_X8_scanWord {g : GG} {l : Launch} (hG : GOK g) : Mt g l M_X8_scanWord ijU f_X8_scanWord := mt_of (Y := M_X8_scanWord) hG rfl rfl rfl (sB_X8_scanWord_0 hG)
-- X8_next
def M_X8_next : MD := (yX8_next, cX8_next, 2, none, { frames := 12, cells := 0, slots := 0, locals := 768 }, 0, 0)
theorem co_X8_next : CO M_X8_next 0 := ⟨kw_400, kw_2, by decide +kernel, rfl, rfl⟩
def B_X8_next_153 : Den Unit := op_ret
theorem sB_X8_next_153 {g : GG} {l : Launch} (hG : GOK g) : Snd g l M_X8_next (QM g M_X8_next ijU) 153 (B_X8_next_153) :=
  (snd_ret dX8_next_153 rfl)
def B_X8_next_150 : Den Unit := (op_pf 8 4 (op_kill 1 (op_kill 0 (B_X8_next_153))))
theorem sB_X8_next_150 {g : GG} {l : Launch} (hG : GOK g) : Snd g l M_X8_next (QM g M_X8_next ijU) 150 (B_X8_next_150) :=
  (snd_pf (host := "") (k := 4) dX8_next_150 FO_8 tyX8_ok nmX8 (Nat.le_of_ble_eq_true rfl) (Or.inl kw_48) rfl rfl rfl (snd_kill 1 (snd_kill 0 (sB_X8_next_153 hG))))
def B_X8_next_60 : Den Unit := (op_al 0 (op_al 0 (op_gf 8 2 (op_pf 8 3 (op_al 0 (op_ci 0 (op_pf 8 4 (op_al 0 (op_cn (op_pe 8 6 21 (op_al 0 (op_gf 8 2 (op_al 0 (op_gf 8 1 (op_icge (op_kill 1 (op_kill 0 (B_X8_next_153))) (op_al 0 (op_gf 8 0 (op_al 0 (op_gf 8 2 (op_aa 12 (op_is 1 (op_il 1 (op_call ijI f_X8_isLetter 1 (op_ifeq (op_il 1 (op_call ijI f_X8_isFigure 1 (op_ifeq (op_al 0 (op_dup (op_gf 8 3 (op_ci 1 (op_iadd (op_pf 8 3 (op_al 0 (op_il 1 (op_call ijI f_X8_isSign 1 (op_ifeq (op_ci 3 (op_kill 1 (op_kill 0 (B_X8_next_150)))) (op_il 1 (op_goto (op_kill 1 (op_kill 0 (B_X8_next_150))))))))))))))) (op_al 0 (op_callV 8 ijU f_X8_scanNumber 1 (op_goto (op_kill 1 (op_kill 0 (B_X8_next_153))))))))) (op_al 0 (op_callV 8 ijU f_X8_scanWord 1 (op_goto (op_kill 1 (op_kill 0 (B_X8_next_153))))))))))))))))))))))))))))))
theorem sB_X8_next_60 {g : GG} {l : Launch} (hG : GOK g) : Snd g l M_X8_next (QM g M_X8_next ijU) 60 (B_X8_next_60) :=
  (snd_aln (i := 0) dX8_next_60 rfl (snd_aln (i := 0) dX8_next_61 rfl (snd_gf (k := 2) dX8_next_62 FO_8 (Nat.le_of_ble_eq_true rfl) kw_44 (snd_pf (host := "") (k := 3) dX8_next_65 FO_8 tyX8_ok nmX8 (Nat.le_of_ble_eq_true rfl) (Or.inl kw_45) rfl rfl rfl (snd_aln (i := 0) dX8_next_68 rfl (snd_iconst (v := 0) dX8_next_69 rfl (snd_pf (host := "") (k := 4) dX8_next_70 FO_8 tyX8_ok nmX8 (Nat.le_of_ble_eq_true rfl) (Or.inl kw_48) rfl rfl rfl (snd_aln (i := 0) dX8_next_73 rfl (snd_null dX8_next_74 (snd_pe (host := "") (k := 6) dX8_next_75 FO_8 tyX8_ok nmX8 (Nat.le_of_ble_eq_true rfl) (Or.inl kw_58) rfl rfl (Or.inr (Or.inr rfl)) rfl (snd_aln (i := 0) dX8_next_78 rfl (snd_gf (k := 2) dX8_next_79 FO_8 (Nat.le_of_ble_eq_true rfl) kw_44 (snd_aln (i := 0) dX8_next_82 rfl (snd_gf (k := 1) dX8_next_83 FO_8 (Nat.le_of_ble_eq_true rfl) kw_42 (snd_icge dX8_next_86 rfl (snd_kill 1 (snd_kill 0 (sB_X8_next_153 hG))) (snd_aln (i := 0) dX8_next_89 rfl (snd_gf (k := 0) dX8_next_90 FO_8 (Nat.le_of_ble_eq_true rfl) kw_40 (snd_aln (i := 0) dX8_next_93 rfl (snd_gf (k := 2) dX8_next_94 FO_8 (Nat.le_of_ble_eq_true rfl) kw_44 (snd_ca dX8_next_97 (snd_isn (i := 1) dX8_next_98 rfl (Nat.le_of_ble_eq_true rfl) (snd_iln (i := 1) dX8_next_99 rfl (snd_callS dX8_next_100 (mt_X8_isLetter hG) co_X8_isLetter ⟨⟨Nat.le_of_ble_eq_true rfl, Nat.le_of_ble_eq_true rfl⟩, Nat.le_of_ble_eq_true rfl, Nat.le_of_ble_eq_true rfl⟩ kw_402 kw_401 (snd_ifeq dX8_next_103 rfl (snd_iln (i := 1) dX8_next_113 rfl (snd_callS dX8_next_114 (mt_X8_isFigure hG) co_X8_isFigure ⟨⟨Nat.le_of_ble_eq_true rfl, Nat.le_of_ble_eq_true rfl⟩, Nat.le_of_ble_eq_true rfl, Nat.le_of_ble_eq_true rfl⟩ kw_418 kw_417 (snd_ifeq dX8_next_117 rfl (snd_aln (i := 0) dX8_next_127 rfl (snd_dup dX8_next_128 (snd_gf (k := 3) dX8_next_129 FO_8 (Nat.le_of_ble_eq_true rfl) kw_45 (snd_iconst (v := 1) dX8_next_132 rfl (snd_iadd dX8_next_133 (snd_pf (host := "") (k := 3) dX8_next_134 FO_8 tyX8_ok nmX8 (Nat.le_of_ble_eq_true rfl) (Or.inl kw_45) rfl rfl rfl (snd_aln (i := 0) dX8_next_137 rfl (snd_iln (i := 1) dX8_next_138 rfl (snd_callS dX8_next_139 (mt_X8_isSign hG) co_X8_isSign ⟨⟨Nat.le_of_ble_eq_true rfl, Nat.le_of_ble_eq_true rfl⟩, Nat.le_of_ble_eq_true rfl, Nat.le_of_ble_eq_true rfl⟩ kw_425 kw_424 (snd_ifeq dX8_next_142 rfl (snd_iconst (v := 3) dX8_next_149 rfl (snd_kill 1 (snd_kill 0 (sB_X8_next_150 hG)))) (snd_iln (i := 1) dX8_next_145 rfl (snd_goto dX8_next_146 rfl (snd_kill 1 (snd_kill 0 (sB_X8_next_150 hG))))))))))))))) (snd_aln (i := 0) dX8_next_120 rfl (snd_callV dX8_next_121 (mt_X8_scanNumber hG) co_X8_scanNumber ⟨⟨Nat.le_of_ble_eq_true rfl, Nat.le_of_ble_eq_true rfl⟩, Nat.le_of_ble_eq_true rfl, Nat.le_of_ble_eq_true rfl⟩ FO_8 kw_422 ks_1 kw_420 (snd_goto dX8_next_124 rfl (snd_kill 1 (snd_kill 0 (sB_X8_next_153 hG))))))))) (snd_aln (i := 0) dX8_next_106 rfl (snd_callV dX8_next_107 (mt_X8_scanWord hG) co_X8_scanWord ⟨⟨Nat.le_of_ble_eq_true rfl, Nat.le_of_ble_eq_true rfl⟩, Nat.le_of_ble_eq_true rfl, Nat.le_of_ble_eq_true rfl⟩ FO_8 kw_406 ks_0 kw_404 (snd_goto dX8_next_110 rfl (snd_kill 1 (snd_kill 0 (sB_X8_next_153 hG))))))))))))))))))))))))))))))
def B_X8_next_47 (K8 : Den Unit) : Den Unit := (op_al 0 (op_dup (op_gf 8 2 (op_ci 1 (op_iadd (op_pf 8 2 (op_goto (op_kill 1 K8))))))))
theorem sB_X8_next_47 {g : GG} {l : Launch} (hG : GOK g) {K8 : Den Unit} (hK8 : Snd g l M_X8_next (QM g M_X8_next ijU) 8 K8) : Snd g l M_X8_next (QM g M_X8_next ijU) 47 (B_X8_next_47 K8) :=
  (snd_aln (i := 0) dX8_next_47 rfl (snd_dup dX8_next_48 (snd_gf (k := 2) dX8_next_49 FO_8 (Nat.le_of_ble_eq_true rfl) kw_44 (snd_iconst (v := 1) dX8_next_52 rfl (snd_iadd dX8_next_53 (snd_pf (host := "") (k := 2) dX8_next_54 FO_8 tyX8_ok nmX8 (Nat.le_of_ble_eq_true rfl) (Or.inl kw_44) rfl rfl rfl (snd_goto dX8_next_57 rfl (snd_kill 1 hK8))))))))
def S_X8_next_8 (K8 : Den Unit) : Den Unit := (op_al 0 (op_gf 8 2 (op_al 0 (op_gf 8 1 (op_icge (op_kill 1 (B_X8_next_60)) (op_al 0 (op_gf 8 0 (op_al 0 (op_gf 8 2 (op_aa 12 (op_ci 10 (op_iceq (op_kill 1 (B_X8_next_47 K8)) (op_al 0 (op_gf 8 0 (op_al 0 (op_gf 8 2 (op_aa 12 (op_ci 32 (op_icne (op_kill 1 (B_X8_next_60)) (op_kill 1 (B_X8_next_47 K8)))))))))))))))))))))
def L_X8_next_8 : Nat → Den Unit
  | 0 => fun _ _ _ => none
  | n + 1 => S_X8_next_8 (L_X8_next_8 n)
theorem sS_X8_next_8 {g : GG} {l : Launch} (hG : GOK g) {K8 : Den Unit} (hK8 : Snd g l M_X8_next (QM g M_X8_next ijU) 8 K8) : Snd g l M_X8_next (QM g M_X8_next ijU) 8 (S_X8_next_8 K8) :=
  (snd_aln (i := 0) dX8_next_8 rfl (snd_gf (k := 2) dX8_next_9 FO_8 (Nat.le_of_ble_eq_true rfl) kw_44 (snd_aln (i := 0) dX8_next_12 rfl (snd_gf (k := 1) dX8_next_13 FO_8 (Nat.le_of_ble_eq_true rfl) kw_42 (snd_icge dX8_next_16 rfl (snd_kill 1 (sB_X8_next_60 hG)) (snd_aln (i := 0) dX8_next_19 rfl (snd_gf (k := 0) dX8_next_20 FO_8 (Nat.le_of_ble_eq_true rfl) kw_40 (snd_aln (i := 0) dX8_next_23 rfl (snd_gf (k := 2) dX8_next_24 FO_8 (Nat.le_of_ble_eq_true rfl) kw_44 (snd_ca dX8_next_27 (snd_bipush (v := 10) dX8_next_28 rfl (snd_iceq dX8_next_30 rfl (snd_kill 1 (sB_X8_next_47 hG hK8)) (snd_aln (i := 0) dX8_next_33 rfl (snd_gf (k := 0) dX8_next_34 FO_8 (Nat.le_of_ble_eq_true rfl) kw_40 (snd_aln (i := 0) dX8_next_37 rfl (snd_gf (k := 2) dX8_next_38 FO_8 (Nat.le_of_ble_eq_true rfl) kw_44 (snd_ca dX8_next_41 (snd_bipush (v := 32) dX8_next_42 rfl (snd_icne dX8_next_44 rfl (snd_kill 1 (sB_X8_next_60 hG)) (snd_kill 1 (sB_X8_next_47 hG hK8)))))))))))))))))))))
theorem sL_X8_next_8 {g : GG} {l : Launch} (hG : GOK g) : ∀ n, Snd g l M_X8_next (QM g M_X8_next ijU) 8 (L_X8_next_8 n)
  | 0 => snd_none
  | n + 1 => sS_X8_next_8 hG (sL_X8_next_8 hG n)
def B_X8_next_0 : Den Unit := (op_al 0 (op_al 0 (op_gf 8 3 (op_pf 8 2 (op_kill 1 (L_X8_next_8 FU))))))
theorem sB_X8_next_0 {g : GG} {l : Launch} (hG : GOK g) : Snd g l M_X8_next (QM g M_X8_next ijU) 0 (B_X8_next_0) :=
  (snd_aln (i := 0) dX8_next_0 rfl (snd_aln (i := 0) dX8_next_1 rfl (snd_gf (k := 3) dX8_next_2 FO_8 (Nat.le_of_ble_eq_true rfl) kw_45 (snd_pf (host := "") (k := 2) dX8_next_5 FO_8 tyX8_ok nmX8 (Nat.le_of_ble_eq_true rfl) (Or.inl kw_44) rfl rfl rfl (snd_kill 1 (sL_X8_next_8 hG FU))))))
def f_X8_next : List VV → Wd → Option (Unit × Wd) := fn 2 B_X8_next_0
theorem mt_X8_next {g : GG} {l : Launch} (hG : GOK g) : Mt g l M_X8_next ijU f_X8_next := mt_of (Y := M_X8_next) hG rfl rfl rfl (sB_X8_next_0 hG)
-- X9_isFact
def M_X9_isFact : MD := (yX9_isFact, cX9_isFact, 1, (some .boolean), { frames := 2, cells := 0, slots := 0, locals := 128 }, 0, 0)
theorem co_X9_isFact : CO M_X9_isFact 0 := ⟨kw_548, kw_13, by decide +kernel, rfl, rfl⟩
def B_X9_isFact_33 : Den Int32 := op_zret
theorem sB_X9_isFact_33 {g : GG} {l : Launch} (hG : GOK g) : Snd g l M_X9_isFact (QM g M_X9_isFact ijI) 33 (B_X9_isFact_33) :=
  (snd_zret dX9_isFact_33 rfl)
def B_X9_isFact_28 : Den Int32 := (op_ci 1 (op_goto (op_kill 0 (B_X9_isFact_33))))
theorem sB_X9_isFact_28 {g : GG} {l : Launch} (hG : GOK g) : Snd g l M_X9_isFact (QM g M_X9_isFact ijI) 28 (B_X9_isFact_28) :=
  (snd_iconst (v := 1) dX9_isFact_28 rfl (snd_goto dX9_isFact_29 rfl (snd_kill 0 (sB_X9_isFact_33 hG))))
def B_X9_isFact_0 : Den Int32 := (op_al 0 (op_ge 24 (op_ace (op_kill 0 (B_X9_isFact_28)) (op_al 0 (op_ge 25 (op_ace (op_kill 0 (B_X9_isFact_28)) (op_al 0 (op_ge 26 (op_ace (op_kill 0 (B_X9_isFact_28)) (op_al 0 (op_ge 27 (op_acn (op_ci 0 (op_kill 0 (B_X9_isFact_33))) (op_kill 0 (B_X9_isFact_28))))))))))))))
theorem sB_X9_isFact_0 {g : GG} {l : Launch} (hG : GOK g) : Snd g l M_X9_isFact (QM g M_X9_isFact ijI) 0 (B_X9_isFact_0) :=
  (snd_aln (i := 0) dX9_isFact_0 rfl (snd_ge (j := 24) dX9_isFact_1 (Nat.le_of_ble_eq_true rfl) kw_549 (snd_ace dX9_isFact_4 rfl (snd_kill 0 (sB_X9_isFact_28 hG)) (snd_aln (i := 0) dX9_isFact_7 rfl (snd_ge (j := 25) dX9_isFact_8 (Nat.le_of_ble_eq_true rfl) kw_551 (snd_ace dX9_isFact_11 rfl (snd_kill 0 (sB_X9_isFact_28 hG)) (snd_aln (i := 0) dX9_isFact_14 rfl (snd_ge (j := 26) dX9_isFact_15 (Nat.le_of_ble_eq_true rfl) kw_553 (snd_ace dX9_isFact_18 rfl (snd_kill 0 (sB_X9_isFact_28 hG)) (snd_aln (i := 0) dX9_isFact_21 rfl (snd_ge (j := 27) dX9_isFact_22 (Nat.le_of_ble_eq_true rfl) kw_555 (snd_acn dX9_isFact_25 rfl (snd_iconst (v := 0) dX9_isFact_32 rfl (snd_kill 0 (sB_X9_isFact_33 hG))) (snd_kill 0 (sB_X9_isFact_28 hG))))))))))))))
def f_X9_isFact : List VV → Wd → Option (Int32 × Wd) := fn 1 B_X9_isFact_0
theorem mt_X9_isFact {g : GG} {l : Launch} (hG : GOK g) : Mt g l M_X9_isFact ijI f_X9_isFact := mt_of (Y := M_X9_isFact) hG rfl rfl rfl (sB_X9_isFact_0 hG)
