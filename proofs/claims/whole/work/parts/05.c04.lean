-- X2_fit
def M_X2_fit : MD := (yX2_fit, cX2_fit, 3, (some .boolean), { frames := 2, cells := 0, slots := 0, locals := 128 }, 0, 0)
theorem co_X2_fit : CO M_X2_fit 1 := ⟨kw_1077, kw_9, by decide +kernel, rfl, rfl⟩
def S_X2_fit_2 (K2 : Den Int32) : Den Int32 := (op_il 2 (op_al 0 (op_gf 2 0 (op_icge (op_ci 1 op_zret) (op_al 1 (op_gf 5 0 (op_al 0 (op_gf 2 1 (op_il 2 (op_aa 10 (op_aa 10 (op_al 0 (op_gf 2 2 (op_il 2 (op_aa 10 (op_iceq (op_inc 2 1 (op_goto K2)) (op_ci 0 op_zret)))))))))))))))))
def L_X2_fit_2 : Nat → Den Int32
  | 0 => fun _ _ _ => none
  | n + 1 => S_X2_fit_2 (L_X2_fit_2 n)
theorem sS_X2_fit_2 {g : GG} {l : Launch} (hG : GOK g) {K2 : Den Int32} (hK2 : Snd g l M_X2_fit (QM g M_X2_fit ijI) 2 K2) : Snd g l M_X2_fit (QM g M_X2_fit ijI) 2 (S_X2_fit_2 K2) :=
  (snd_iln (i := 2) dX2_fit_2 rfl (snd_aln (i := 0) dX2_fit_3 rfl (snd_gf (k := 0) dX2_fit_4 FO_2 (Nat.le_of_ble_eq_true rfl) kw_285 (snd_icge dX2_fit_7 rfl (snd_iconst (v := 1) dX2_fit_38 rfl (snd_zret dX2_fit_39 rfl)) (snd_aln (i := 1) dX2_fit_10 rfl (snd_gfN (k := 0) dX2_fit_11 FO_5 (Nat.le_of_ble_eq_true rfl) kn_325 (snd_aln (i := 0) dX2_fit_14 rfl (snd_gf (k := 1) dX2_fit_15 FO_2 (Nat.le_of_ble_eq_true rfl) kw_287 (snd_iln (i := 2) dX2_fit_18 rfl (snd_ia dX2_fit_19 (snd_ia dX2_fit_20 (snd_aln (i := 0) dX2_fit_21 rfl (snd_gf (k := 2) dX2_fit_22 FO_2 (Nat.le_of_ble_eq_true rfl) kw_288 (snd_iln (i := 2) dX2_fit_25 rfl (snd_ia dX2_fit_26 (snd_iceq dX2_fit_27 rfl (snd_inc (v := 1) dX2_fit_32 rfl (Nat.le_of_ble_eq_true rfl) (snd_goto dX2_fit_35 rfl hK2)) (snd_iconst (v := 0) dX2_fit_30 rfl (snd_zret dX2_fit_31 rfl))))))))))))))))))
theorem sL_X2_fit_2 {g : GG} {l : Launch} (hG : GOK g) : ∀ n, Snd g l M_X2_fit (QM g M_X2_fit ijI) 2 (L_X2_fit_2 n)
  | 0 => snd_none
  | n + 1 => sS_X2_fit_2 hG (sL_X2_fit_2 hG n)
def B_X2_fit_0 : Den Int32 := (op_ci 0 (op_is 2 (L_X2_fit_2 FU)))
theorem sB_X2_fit_0 {g : GG} {l : Launch} (hG : GOK g) : Snd g l M_X2_fit (QM g M_X2_fit ijI) 0 (B_X2_fit_0) :=
  (snd_iconst (v := 0) dX2_fit_0 rfl (snd_isn (i := 2) dX2_fit_1 rfl (Nat.le_of_ble_eq_true rfl) (sL_X2_fit_2 hG FU)))
def f_X2_fit : List VV → Wd → Option (Int32 × Wd) := fn 3 B_X2_fit_0
theorem mt_X2_fit {g : GG} {l : Launch} (hG : GOK g) : Mt g l M_X2_fit ijI f_X2_fit := mt_of (Y := M_X2_fit) hG rfl rfl rfl (sB_X2_fit_0 hG)
-- X4_forgetAll
def M_X4_forgetAll : MD := (yX4_forgetAll, cX4_forgetAll, 1, none, { frames := 2, cells := 0, slots := 0, locals := 128 }, 0, 0)
theorem co_X4_forgetAll : CO M_X4_forgetAll 0 := ⟨kw_683, kw_8, by decide +kernel, rfl, rfl⟩
def B_X4_forgetAll_0 : Den Unit := (op_al 0 (op_ci 0 (op_pf 4 2 (op_al 0 (op_ci 0 (op_pf 4 5 op_ret))))))
theorem sB_X4_forgetAll_0 {g : GG} {l : Launch} (hG : GOK g) : Snd g l M_X4_forgetAll (QM g M_X4_forgetAll ijU) 0 (B_X4_forgetAll_0) :=
  (snd_aln (i := 0) dX4_forgetAll_0 rfl (snd_iconst (v := 0) dX4_forgetAll_1 rfl (snd_pf (host := "") (k := 2) dX4_forgetAll_2 FO_4 tyX4_ok nmX4 (Nat.le_of_ble_eq_true rfl) (Or.inl kw_298) rfl rfl rfl (snd_aln (i := 0) dX4_forgetAll_5 rfl (snd_iconst (v := 0) dX4_forgetAll_6 rfl (snd_pf (host := "") (k := 5) dX4_forgetAll_7 FO_4 tyX4_ok nmX4 (Nat.le_of_ble_eq_true rfl) (Or.inl kw_302) rfl rfl rfl (snd_ret dX4_forgetAll_10 rfl)))))))
def f_X4_forgetAll : List VV → Wd → Option (Unit × Wd) := fn 1 B_X4_forgetAll_0
theorem mt_X4_forgetAll {g : GG} {l : Launch} (hG : GOK g) : Mt g l M_X4_forgetAll ijU f_X4_forgetAll := mt_of (Y := M_X4_forgetAll) hG rfl rfl rfl (sB_X4_forgetAll_0 hG)
-- X7_become
def M_X7_become : MD := (yX7_become, cX7_become, 2, none, { frames := 2, cells := 0, slots := 0, locals := 128 }, 0, 0)
theorem co_X7_become : CO M_X7_become 1 := ⟨kw_809, kw_7, by decide +kernel, rfl, rfl⟩
def B_X7_become_0 : Den Unit := (op_al 0 (op_al 1 (op_gf 7 0 (op_pf 7 0 (op_al 0 (op_al 1 (op_gf 7 1 (op_pf 7 1 (op_al 0 (op_al 1 (op_gf 7 2 (op_pf 7 2 (op_al 0 (op_al 1 (op_gf 7 3 (op_pf 7 3 (op_al 1 (op_gf 7 4 (op_ci 0 (op_al 0 (op_gf 7 4 (op_ci 0 (op_ci 4 (op_cpy (op_al 1 (op_gf 7 5 (op_ci 0 (op_al 0 (op_gf 7 5 (op_ci 0 (op_ci 4 (op_cpy (op_al 1 (op_gf 7 6 (op_ci 0 (op_al 0 (op_gf 7 6 (op_ci 0 (op_ci 4 (op_cpy (op_al 1 (op_gf 7 7 (op_ci 0 (op_al 0 (op_gf 7 7 (op_ci 0 (op_ci 8 (op_cpy (op_al 1 (op_gf 7 8 (op_ci 0 (op_al 0 (op_gf 7 8 (op_ci 0 (op_ci 7 (op_cpy op_ret))))))))))))))))))))))))))))))))))))))))))))))))))))))))
theorem sB_X7_become_0 {g : GG} {l : Launch} (hG : GOK g) : Snd g l M_X7_become (QM g M_X7_become ijU) 0 (B_X7_become_0) :=
  (snd_aln (i := 0) dX7_become_0 rfl (snd_aln (i := 1) dX7_become_1 rfl (snd_gf (k := 0) dX7_become_2 FO_7 (Nat.le_of_ble_eq_true rfl) kw_232 (snd_pf (host := "") (k := 0) dX7_become_5 FO_7 tyX7_ok nmX7 (Nat.le_of_ble_eq_true rfl) (Or.inl kw_232) rfl rfl rfl (snd_aln (i := 0) dX7_become_8 rfl (snd_aln (i := 1) dX7_become_9 rfl (snd_gf (k := 1) dX7_become_10 FO_7 (Nat.le_of_ble_eq_true rfl) kw_234 (snd_pf (host := "") (k := 1) dX7_become_13 FO_7 tyX7_ok nmX7 (Nat.le_of_ble_eq_true rfl) (Or.inl kw_234) rfl rfl rfl (snd_aln (i := 0) dX7_become_16 rfl (snd_aln (i := 1) dX7_become_17 rfl (snd_gf (k := 2) dX7_become_18 FO_7 (Nat.le_of_ble_eq_true rfl) kw_236 (snd_pf (host := "") (k := 2) dX7_become_21 FO_7 tyX7_ok nmX7 (Nat.le_of_ble_eq_true rfl) (Or.inl kw_236) rfl rfl rfl (snd_aln (i := 0) dX7_become_24 rfl (snd_aln (i := 1) dX7_become_25 rfl (snd_gf (k := 3) dX7_become_26 FO_7 (Nat.le_of_ble_eq_true rfl) kw_238 (snd_pf (host := "") (k := 3) dX7_become_29 FO_7 tyX7_ok nmX7 (Nat.le_of_ble_eq_true rfl) (Or.inl kw_238) rfl rfl rfl (snd_aln (i := 1) dX7_become_32 rfl (snd_gf (k := 4) dX7_become_33 FO_7 (Nat.le_of_ble_eq_true rfl) kw_240 (snd_iconst (v := 0) dX7_become_36 rfl (snd_aln (i := 0) dX7_become_37 rfl (snd_gf (k := 4) dX7_become_38 FO_7 (Nat.le_of_ble_eq_true rfl) kw_240 (snd_iconst (v := 0) dX7_become_41 rfl (snd_iconst (v := 4) dX7_become_42 rfl (snd_cpy dX7_become_43 kw_810 kw_cpy_n kw_cpy_s kw_sys ⟨Nat.le_of_ble_eq_true rfl, Nat.le_of_ble_eq_true rfl⟩ (snd_aln (i := 1) dX7_become_46 rfl (snd_gf (k := 5) dX7_become_47 FO_7 (Nat.le_of_ble_eq_true rfl) kw_242 (snd_iconst (v := 0) dX7_become_50 rfl (snd_aln (i := 0) dX7_become_51 rfl (snd_gf (k := 5) dX7_become_52 FO_7 (Nat.le_of_ble_eq_true rfl) kw_242 (snd_iconst (v := 0) dX7_become_55 rfl (snd_iconst (v := 4) dX7_become_56 rfl (snd_cpy dX7_become_57 kw_810 kw_cpy_n kw_cpy_s kw_sys ⟨Nat.le_of_ble_eq_true rfl, Nat.le_of_ble_eq_true rfl⟩ (snd_aln (i := 1) dX7_become_60 rfl (snd_gf (k := 6) dX7_become_61 FO_7 (Nat.le_of_ble_eq_true rfl) kw_244 (snd_iconst (v := 0) dX7_become_64 rfl (snd_aln (i := 0) dX7_become_65 rfl (snd_gf (k := 6) dX7_become_66 FO_7 (Nat.le_of_ble_eq_true rfl) kw_244 (snd_iconst (v := 0) dX7_become_69 rfl (snd_iconst (v := 4) dX7_become_70 rfl (snd_cpy dX7_become_71 kw_810 kw_cpy_n kw_cpy_s kw_sys ⟨Nat.le_of_ble_eq_true rfl, Nat.le_of_ble_eq_true rfl⟩ (snd_aln (i := 1) dX7_become_74 rfl (snd_gf (k := 7) dX7_become_75 FO_7 (Nat.le_of_ble_eq_true rfl) kw_246 (snd_iconst (v := 0) dX7_become_78 rfl (snd_aln (i := 0) dX7_become_79 rfl (snd_gf (k := 7) dX7_become_80 FO_7 (Nat.le_of_ble_eq_true rfl) kw_246 (snd_iconst (v := 0) dX7_become_83 rfl (snd_bipush (v := 8) dX7_become_84 rfl (snd_cpy dX7_become_86 kw_810 kw_cpy_n kw_cpy_s kw_sys ⟨Nat.le_of_ble_eq_true rfl, Nat.le_of_ble_eq_true rfl⟩ (snd_aln (i := 1) dX7_become_89 rfl (snd_gf (k := 8) dX7_become_90 FO_7 (Nat.le_of_ble_eq_true rfl) kw_248 (snd_iconst (v := 0) dX7_become_93 rfl (snd_aln (i := 0) dX7_become_94 rfl (snd_gf (k := 8) dX7_become_95 FO_7 (Nat.le_of_ble_eq_true rfl) kw_248 (snd_iconst (v := 0) dX7_become_98 rfl (snd_bipush (v := 7) dX7_become_99 rfl (snd_cpy dX7_become_101 kw_810 kw_cpy_n kw_cpy_s kw_sys ⟨Nat.le_of_ble_eq_true rfl, Nat.le_of_ble_eq_true rfl⟩ (snd_ret dX7_become_104 rfl)))))))))))))))))))))))))))))))))))))))))))))))))))))))))
def f_X7_become : List VV → Wd → Option (Unit × Wd) := fn 2 B_X7_become_0
theorem mt_X7_become {g : GG} {l : Launch} (hG : GOK g) : Mt g l M_X7_become ijU f_X7_become := mt_of (Y := M_X7_become) hG rfl rfl rfl (sB_X7_become_0 hG)
-- X4_hold
def M_X4_hold : MD := (yX4_hold, cX4_hold, 2, none, { frames := 4, cells := 0, slots := 0, locals := 256 }, 0, 0)
theorem co_X4_hold : CO M_X4_hold 1 := ⟨kw_805, kw_8, by decide +kernel, rfl, rfl⟩
def B_X4_hold_0 : Den Unit := (op_al 0 (op_gf 4 0 (op_al 0 (op_gf 4 1 (op_ra (op_al 1 (op_callV 7 ijU f_X7_become 2 op_ret)))))))
theorem sB_X4_hold_0 {g : GG} {l : Launch} (hG : GOK g) : Snd g l M_X4_hold (QM g M_X4_hold ijU) 0 (B_X4_hold_0) :=
  (snd_aln (i := 0) dX4_hold_0 rfl (snd_gf (k := 0) dX4_hold_1 FO_4 (Nat.le_of_ble_eq_true rfl) kw_296 (snd_aln (i := 0) dX4_hold_4 rfl (snd_gf (k := 1) dX4_hold_5 FO_4 (Nat.le_of_ble_eq_true rfl) kw_297 (snd_ra dX4_hold_8 (snd_aln (i := 1) dX4_hold_9 rfl (snd_callV dX4_hold_10 (mt_X7_become hG) co_X7_become ⟨⟨Nat.le_of_ble_eq_true rfl, Nat.le_of_ble_eq_true rfl⟩, Nat.le_of_ble_eq_true rfl, Nat.le_of_ble_eq_true rfl⟩ FO_7 kw_807 kw_808 kw_806 (snd_ret dX4_hold_13 rfl))))))))
def f_X4_hold : List VV → Wd → Option (Unit × Wd) := fn 2 B_X4_hold_0
theorem mt_X4_hold {g : GG} {l : Launch} (hG : GOK g) : Mt g l M_X4_hold ijU f_X4_hold := mt_of (Y := M_X4_hold) hG rfl rfl rfl (sB_X4_hold_0 hG)
-- X4_keep
def M_X4_keep : MD := (yX4_keep, cX4_keep, 1, none, { frames := 2, cells := 0, slots := 0, locals := 128 }, 0, 0)
theorem co_X4_keep : CO M_X4_keep 0 := ⟨kw_836, kw_8, by decide +kernel, rfl, rfl⟩
def B_X4_keep_20 : Den Unit := (op_pf 4 1 (op_al 0 (op_ci 16 (op_al 0 (op_gf 4 2 (op_ci 1 (op_iadd (op_min (op_pf 4 2 op_ret)))))))))
theorem sB_X4_keep_20 {g : GG} {l : Launch} (hG : GOK g) : Snd g l M_X4_keep (QM g M_X4_keep ijU) 20 (B_X4_keep_20) :=
  (snd_pf (host := "") (k := 1) dX4_keep_20 FO_4 tyX4_ok nmX4 (Nat.le_of_ble_eq_true rfl) (Or.inl kw_297) rfl rfl rfl (snd_aln (i := 0) dX4_keep_23 rfl (snd_bipush (v := 16) dX4_keep_24 rfl (snd_aln (i := 0) dX4_keep_26 rfl (snd_gf (k := 2) dX4_keep_27 FO_4 (Nat.le_of_ble_eq_true rfl) kw_298 (snd_iconst (v := 1) dX4_keep_30 rfl (snd_iadd dX4_keep_31 (snd_min dX4_keep_32 kw_837 kw_min_s kw_math kw_min_c ⟨⟨Nat.le_of_ble_eq_true rfl, Nat.le_of_ble_eq_true rfl⟩, Nat.le_of_ble_eq_true rfl, Nat.le_of_ble_eq_true rfl⟩ (snd_pf (host := "") (k := 2) dX4_keep_35 FO_4 tyX4_ok nmX4 (Nat.le_of_ble_eq_true rfl) (Or.inl kw_298) rfl rfl rfl (snd_ret dX4_keep_38 rfl))))))))))
def B_X4_keep_0 : Den Unit := (op_al 0 (op_al 0 (op_gf 4 1 (op_ci 16 (op_icge (op_ci 0 (B_X4_keep_20)) (op_al 0 (op_gf 4 1 (op_ci 1 (op_iadd (op_goto (B_X4_keep_20)))))))))))
theorem sB_X4_keep_0 {g : GG} {l : Launch} (hG : GOK g) : Snd g l M_X4_keep (QM g M_X4_keep ijU) 0 (B_X4_keep_0) :=
  (snd_aln (i := 0) dX4_keep_0 rfl (snd_aln (i := 0) dX4_keep_1 rfl (snd_gf (k := 1) dX4_keep_2 FO_4 (Nat.le_of_ble_eq_true rfl) kw_297 (snd_bipush (v := 16) dX4_keep_5 rfl (snd_icge dX4_keep_7 rfl (snd_iconst (v := 0) dX4_keep_19 rfl (sB_X4_keep_20 hG)) (snd_aln (i := 0) dX4_keep_10 rfl (snd_gf (k := 1) dX4_keep_11 FO_4 (Nat.le_of_ble_eq_true rfl) kw_297 (snd_iconst (v := 1) dX4_keep_14 rfl (snd_iadd dX4_keep_15 (snd_goto dX4_keep_16 rfl (sB_X4_keep_20 hG)))))))))))
def f_X4_keep : List VV → Wd → Option (Unit × Wd) := fn 1 B_X4_keep_0
theorem mt_X4_keep {g : GG} {l : Launch} (hG : GOK g) : Mt g l M_X4_keep ijU f_X4_keep := mt_of (Y := M_X4_keep) hG rfl rfl rfl (sB_X4_keep_0 hG)
-- X4_takesBack
def M_X4_takesBack : MD := (yX4_takesBack, cX4_takesBack, 2, (some .boolean), { frames := 4, cells := 0, slots := 0, locals := 256 }, 0, 0)
theorem co_X4_takesBack : CO M_X4_takesBack 1 := ⟨kw_915, kw_8, by decide +kernel, rfl, rfl⟩
def B_X4_takesBack_28 : Den Int32 := (op_pf 4 1 (op_al 0 (op_dup (op_gf 4 2 (op_ci 1 (op_isub (op_pf 4 2 (op_al 1 (op_al 0 (op_gf 4 0 (op_al 0 (op_gf 4 1 (op_ra (op_callV 7 ijU f_X7_become 2 (op_ci 1 op_zret)))))))))))))))
theorem sB_X4_takesBack_28 {g : GG} {l : Launch} (hG : GOK g) : Snd g l M_X4_takesBack (QM g M_X4_takesBack ijI) 28 (B_X4_takesBack_28) :=
  (snd_pf (host := "") (k := 1) dX4_takesBack_28 FO_4 tyX4_ok nmX4 (Nat.le_of_ble_eq_true rfl) (Or.inl kw_297) rfl rfl rfl (snd_aln (i := 0) dX4_takesBack_31 rfl (snd_dup dX4_takesBack_32 (snd_gf (k := 2) dX4_takesBack_33 FO_4 (Nat.le_of_ble_eq_true rfl) kw_298 (snd_iconst (v := 1) dX4_takesBack_36 rfl (snd_isub dX4_takesBack_37 (snd_pf (host := "") (k := 2) dX4_takesBack_38 FO_4 tyX4_ok nmX4 (Nat.le_of_ble_eq_true rfl) (Or.inl kw_298) rfl rfl rfl (snd_aln (i := 1) dX4_takesBack_41 rfl (snd_aln (i := 0) dX4_takesBack_42 rfl (snd_gf (k := 0) dX4_takesBack_43 FO_4 (Nat.le_of_ble_eq_true rfl) kw_296 (snd_aln (i := 0) dX4_takesBack_46 rfl (snd_gf (k := 1) dX4_takesBack_47 FO_4 (Nat.le_of_ble_eq_true rfl) kw_297 (snd_ra dX4_takesBack_50 (snd_callV dX4_takesBack_51 (mt_X7_become hG) co_X7_become ⟨⟨Nat.le_of_ble_eq_true rfl, Nat.le_of_ble_eq_true rfl⟩, Nat.le_of_ble_eq_true rfl, Nat.le_of_ble_eq_true rfl⟩ FO_7 kw_807 kw_808 kw_806 (snd_iconst (v := 1) dX4_takesBack_54 rfl (snd_zret dX4_takesBack_55 rfl))))))))))))))))
def B_X4_takesBack_0 : Den Int32 := (op_al 0 (op_gf 4 2 (op_ifne (op_al 0 (op_al 0 (op_gf 4 1 (op_ifle (op_ci 16 (B_X4_takesBack_28)) (op_al 0 (op_gf 4 1 (op_ci 1 (op_isub (op_goto (B_X4_takesBack_28)))))))))) (op_ci 0 op_zret))))
theorem sB_X4_takesBack_0 {g : GG} {l : Launch} (hG : GOK g) : Snd g l M_X4_takesBack (QM g M_X4_takesBack ijI) 0 (B_X4_takesBack_0) :=
  (snd_aln (i := 0) dX4_takesBack_0 rfl (snd_gf (k := 2) dX4_takesBack_1 FO_4 (Nat.le_of_ble_eq_true rfl) kw_298 (snd_ifne dX4_takesBack_4 rfl (snd_aln (i := 0) dX4_takesBack_9 rfl (snd_aln (i := 0) dX4_takesBack_10 rfl (snd_gf (k := 1) dX4_takesBack_11 FO_4 (Nat.le_of_ble_eq_true rfl) kw_297 (snd_ifle dX4_takesBack_14 rfl (snd_bipush (v := 16) dX4_takesBack_26 rfl (sB_X4_takesBack_28 hG)) (snd_aln (i := 0) dX4_takesBack_17 rfl (snd_gf (k := 1) dX4_takesBack_18 FO_4 (Nat.le_of_ble_eq_true rfl) kw_297 (snd_iconst (v := 1) dX4_takesBack_21 rfl (snd_isub dX4_takesBack_22 (snd_goto dX4_takesBack_23 rfl (sB_X4_takesBack_28 hG)))))))))) (snd_iconst (v := 0) dX4_takesBack_7 rfl (snd_zret dX4_takesBack_8 rfl)))))
def f_X4_takesBack : List VV → Wd → Option (Int32 × Wd) := fn 2 B_X4_takesBack_0
theorem mt_X4_takesBack {g : GG} {l : Launch} (hG : GOK g) : Mt g l M_X4_takesBack ijI f_X4_takesBack := mt_of (Y := M_X4_takesBack) hG rfl rfl rfl (sB_X4_takesBack_0 hG)
-- X4_remembers
def M_X4_remembers : MD := (yX4_remembers, cX4_remembers, 4, none, { frames := 4, cells := 0, slots := 0, locals := 256 }, 0, 0)
theorem co_X4_remembers : CO M_X4_remembers 3 := ⟨kw_1161, kw_8, by decide +kernel, rfl, rfl⟩
def B_X4_remembers_0 : Den Unit := (op_al 0 (op_gf 4 3 (op_il 1 (op_ra (op_al 2 (op_callV 7 ijU f_X7_become 2 (op_al 0 (op_gf 4 4 (op_il 1 (op_ra (op_al 3 (op_callV 2 ijU f_X2_become 2 (op_al 0 (op_dup (op_gf 4 5 (op_ci 1 (op_il 1 (op_ishl (op_ior (op_pf 4 5 op_ret))))))))))))))))))))
theorem sB_X4_remembers_0 {g : GG} {l : Launch} (hG : GOK g) : Snd g l M_X4_remembers (QM g M_X4_remembers ijU) 0 (B_X4_remembers_0) :=
  (snd_aln (i := 0) dX4_remembers_0 rfl (snd_gf (k := 3) dX4_remembers_1 FO_4 (Nat.le_of_ble_eq_true rfl) kw_300 (snd_iln (i := 1) dX4_remembers_4 rfl (snd_ra dX4_remembers_5 (snd_aln (i := 2) dX4_remembers_6 rfl (snd_callV dX4_remembers_7 (mt_X7_become hG) co_X7_become ⟨⟨Nat.le_of_ble_eq_true rfl, Nat.le_of_ble_eq_true rfl⟩, Nat.le_of_ble_eq_true rfl, Nat.le_of_ble_eq_true rfl⟩ FO_7 kw_807 kw_808 kw_806 (snd_aln (i := 0) dX4_remembers_10 rfl (snd_gf (k := 4) dX4_remembers_11 FO_4 (Nat.le_of_ble_eq_true rfl) kw_301 (snd_iln (i := 1) dX4_remembers_14 rfl (snd_ra dX4_remembers_15 (snd_aln (i := 3) dX4_remembers_16 rfl (snd_callV dX4_remembers_17 (mt_X2_become hG) co_X2_become ⟨⟨Nat.le_of_ble_eq_true rfl, Nat.le_of_ble_eq_true rfl⟩, Nat.le_of_ble_eq_true rfl, Nat.le_of_ble_eq_true rfl⟩ FO_2 kw_1154 kw_1155 kw_1153 (snd_aln (i := 0) dX4_remembers_20 rfl (snd_dup dX4_remembers_21 (snd_gf (k := 5) dX4_remembers_22 FO_4 (Nat.le_of_ble_eq_true rfl) kw_302 (snd_iconst (v := 1) dX4_remembers_25 rfl (snd_iln (i := 1) dX4_remembers_26 rfl (snd_ishl dX4_remembers_27 (snd_ior dX4_remembers_28 (snd_pf (host := "") (k := 5) dX4_remembers_29 FO_4 tyX4_ok nmX4 (Nat.le_of_ble_eq_true rfl) (Or.inl kw_302) rfl rfl rfl (snd_ret dX4_remembers_32 rfl)))))))))))))))))))))
def f_X4_remembers : List VV → Wd → Option (Unit × Wd) := fn 4 B_X4_remembers_0
theorem mt_X4_remembers {g : GG} {l : Launch} (hG : GOK g) : Mt g l M_X4_remembers ijU f_X4_remembers := mt_of (Y := M_X4_remembers) hG rfl rfl rfl (sB_X4_remembers_0 hG)
-- X10_isIn
def M_X10_isIn : MD := (yX10_isIn, cX10_isIn, 2, (some .boolean), { frames := 2, cells := 0, slots := 0, locals := 128 }, 0, 0)
theorem co_X10_isIn : CO M_X10_isIn 2 := ⟨kw_749, kw_1, by decide +kernel, rfl, rfl⟩
def B_X10_isIn_13 : Den Int32 := op_zret
theorem sB_X10_isIn_13 {g : GG} {l : Launch} (hG : GOK g) : Snd g l M_X10_isIn (QM g M_X10_isIn ijI) 13 (B_X10_isIn_13) :=
  (snd_zret dX10_isIn_13 rfl)
def B_X10_isIn_0 : Den Int32 := (op_il 0 (op_il 1 (op_ishr (op_ci 1 (op_iand (op_ifeq (op_ci 0 (op_kill 1 (op_kill 0 (B_X10_isIn_13)))) (op_ci 1 (op_goto (op_kill 1 (op_kill 0 (B_X10_isIn_13)))))))))))
theorem sB_X10_isIn_0 {g : GG} {l : Launch} (hG : GOK g) : Snd g l M_X10_isIn (QM g M_X10_isIn ijI) 0 (B_X10_isIn_0) :=
  (snd_iln (i := 0) dX10_isIn_0 rfl (snd_iln (i := 1) dX10_isIn_1 rfl (snd_ishr dX10_isIn_2 (snd_iconst (v := 1) dX10_isIn_3 rfl (snd_iand dX10_isIn_4 (snd_ifeq dX10_isIn_5 rfl (snd_iconst (v := 0) dX10_isIn_12 rfl (snd_kill 1 (snd_kill 0 (sB_X10_isIn_13 hG)))) (snd_iconst (v := 1) dX10_isIn_8 rfl (snd_goto dX10_isIn_9 rfl (snd_kill 1 (snd_kill 0 (sB_X10_isIn_13 hG)))))))))))
def f_X10_isIn : List VV → Wd → Option (Int32 × Wd) := fn 2 B_X10_isIn_0
theorem mt_X10_isIn {g : GG} {l : Launch} (hG : GOK g) : Mt g l M_X10_isIn ijI f_X10_isIn := mt_of (Y := M_X10_isIn) hG rfl rfl rfl (sB_X10_isIn_0 hG)
-- X4_returnsTo
def M_X4_returnsTo : MD := (yX4_returnsTo, cX4_returnsTo, 4, (some .boolean), { frames := 4, cells := 0, slots := 0, locals := 256 }, 0, 0)
theorem co_X4_returnsTo : CO M_X4_returnsTo 3 := ⟨kw_1151, kw_8, by decide +kernel, rfl, rfl⟩
def B_X4_returnsTo_0 : Den Int32 := (op_al 0 (op_gf 4 5 (op_il 1 (op_call ijI f_X10_isIn 2 (op_ifne (op_al 2 (op_al 0 (op_gf 4 3 (op_il 1 (op_ra (op_callV 7 ijU f_X7_become 2 (op_al 3 (op_al 0 (op_gf 4 4 (op_il 1 (op_ra (op_callV 2 ijU f_X2_become 2 (op_al 0 (op_ci 0 (op_pf 4 2 (op_ci 1 op_zret)))))))))))))))) (op_ci 0 op_zret))))))
theorem sB_X4_returnsTo_0 {g : GG} {l : Launch} (hG : GOK g) : Snd g l M_X4_returnsTo (QM g M_X4_returnsTo ijI) 0 (B_X4_returnsTo_0) :=
  (snd_aln (i := 0) dX4_returnsTo_0 rfl (snd_gf (k := 5) dX4_returnsTo_1 FO_4 (Nat.le_of_ble_eq_true rfl) kw_302 (snd_iln (i := 1) dX4_returnsTo_4 rfl (snd_callSN dX4_returnsTo_5 (mt_X10_isIn hG) co_X10_isIn ⟨⟨Nat.le_of_ble_eq_true rfl, Nat.le_of_ble_eq_true rfl⟩, Nat.le_of_ble_eq_true rfl, Nat.le_of_ble_eq_true rfl⟩ kw_748 kn_1152 (snd_ifne dX4_returnsTo_8 rfl (snd_aln (i := 2) dX4_returnsTo_13 rfl (snd_aln (i := 0) dX4_returnsTo_14 rfl (snd_gf (k := 3) dX4_returnsTo_15 FO_4 (Nat.le_of_ble_eq_true rfl) kw_300 (snd_iln (i := 1) dX4_returnsTo_18 rfl (snd_ra dX4_returnsTo_19 (snd_callV dX4_returnsTo_20 (mt_X7_become hG) co_X7_become ⟨⟨Nat.le_of_ble_eq_true rfl, Nat.le_of_ble_eq_true rfl⟩, Nat.le_of_ble_eq_true rfl, Nat.le_of_ble_eq_true rfl⟩ FO_7 kw_807 kw_808 kw_806 (snd_aln (i := 3) dX4_returnsTo_23 rfl (snd_aln (i := 0) dX4_returnsTo_24 rfl (snd_gf (k := 4) dX4_returnsTo_25 FO_4 (Nat.le_of_ble_eq_true rfl) kw_301 (snd_iln (i := 1) dX4_returnsTo_28 rfl (snd_ra dX4_returnsTo_29 (snd_callV dX4_returnsTo_30 (mt_X2_become hG) co_X2_become ⟨⟨Nat.le_of_ble_eq_true rfl, Nat.le_of_ble_eq_true rfl⟩, Nat.le_of_ble_eq_true rfl, Nat.le_of_ble_eq_true rfl⟩ FO_2 kw_1154 kw_1155 kw_1153 (snd_aln (i := 0) dX4_returnsTo_33 rfl (snd_iconst (v := 0) dX4_returnsTo_34 rfl (snd_pf (host := "") (k := 2) dX4_returnsTo_35 FO_4 tyX4_ok nmX4 (Nat.le_of_ble_eq_true rfl) (Or.inl kw_298) rfl rfl rfl (snd_iconst (v := 1) dX4_returnsTo_38 rfl (snd_zret dX4_returnsTo_39 rfl))))))))))))))))) (snd_iconst (v := 0) dX4_returnsTo_11 rfl (snd_zret dX4_returnsTo_12 rfl)))))))
def f_X4_returnsTo : List VV → Wd → Option (Int32 × Wd) := fn 4 B_X4_returnsTo_0
theorem mt_X4_returnsTo {g : GG} {l : Launch} (hG : GOK g) : Mt g l M_X4_returnsTo ijI f_X4_returnsTo := mt_of (Y := M_X4_returnsTo) hG rfl rfl rfl (sB_X4_returnsTo_0 hG)
-- X5_lowers
def M_X5_lowers : MD := (yX5_lowers, cX5_lowers, 4, (some .boolean), { frames := 2, cells := 0, slots := 0, locals := 128 }, 0, 0)
theorem co_X5_lowers : CO M_X5_lowers 3 := ⟨kw_968, kw_10, by decide +kernel, rfl, rfl⟩
def B_X5_lowers_37 : Den Int32 := (op_ci 0 op_zret)
theorem sB_X5_lowers_37 {g : GG} {l : Launch} (hG : GOK g) : Snd g l M_X5_lowers (QM g M_X5_lowers ijI) 37 (B_X5_lowers_37) :=
  (snd_iconst (v := 0) dX5_lowers_37 rfl (snd_zret dX5_lowers_38 rfl))
def B_X5_lowers_39 : Den Int32 := (op_al 0 (op_gf 5 0 (op_il 2 (op_al 0 (op_gf 5 0 (op_il 1 (op_aa 10 (op_il 3 (op_iadd (op_sa 10 (op_ci 1 op_zret)))))))))))
theorem sB_X5_lowers_39 {g : GG} {l : Launch} (hG : GOK g) : Snd g l M_X5_lowers (QM g M_X5_lowers ijI) 39 (B_X5_lowers_39) :=
  (snd_aln (i := 0) dX5_lowers_39 rfl (snd_gf (k := 0) dX5_lowers_40 FO_5 (Nat.le_of_ble_eq_true rfl) kw_324 (snd_iln (i := 2) dX5_lowers_43 rfl (snd_aln (i := 0) dX5_lowers_44 rfl (snd_gf (k := 0) dX5_lowers_45 FO_5 (Nat.le_of_ble_eq_true rfl) kw_324 (snd_iln (i := 1) dX5_lowers_48 rfl (snd_ia dX5_lowers_49 (snd_iln (i := 3) dX5_lowers_50 rfl (snd_iadd dX5_lowers_51 (snd_si dX5_lowers_52 (snd_iconst (v := 1) dX5_lowers_53 rfl (snd_zret dX5_lowers_54 rfl))))))))))))
def B_X5_lowers_0 : Den Int32 := (op_al 0 (op_gf 5 0 (op_il 1 (op_aa 10 (op_ci (-1) (op_iceq (op_kill 3 (op_kill 2 (op_kill 1 (op_kill 0 (B_X5_lowers_37))))) (op_al 0 (op_gf 5 0 (op_il 2 (op_aa 10 (op_ci (-1) (op_iceq (B_X5_lowers_39) (op_al 0 (op_gf 5 0 (op_il 2 (op_aa 10 (op_al 0 (op_gf 5 0 (op_il 1 (op_aa 10 (op_il 3 (op_iadd (op_icgt (B_X5_lowers_39) (op_kill 3 (op_kill 2 (op_kill 1 (op_kill 0 (B_X5_lowers_37))))))))))))))))))))))))))))
theorem sB_X5_lowers_0 {g : GG} {l : Launch} (hG : GOK g) : Snd g l M_X5_lowers (QM g M_X5_lowers ijI) 0 (B_X5_lowers_0) :=
  (snd_aln (i := 0) dX5_lowers_0 rfl (snd_gf (k := 0) dX5_lowers_1 FO_5 (Nat.le_of_ble_eq_true rfl) kw_324 (snd_iln (i := 1) dX5_lowers_4 rfl (snd_ia dX5_lowers_5 (snd_iconst (v := (-1)) dX5_lowers_6 rfl (snd_iceq dX5_lowers_7 rfl (snd_kill 3 (snd_kill 2 (snd_kill 1 (snd_kill 0 (sB_X5_lowers_37 hG))))) (snd_aln (i := 0) dX5_lowers_10 rfl (snd_gf (k := 0) dX5_lowers_11 FO_5 (Nat.le_of_ble_eq_true rfl) kw_324 (snd_iln (i := 2) dX5_lowers_14 rfl (snd_ia dX5_lowers_15 (snd_iconst (v := (-1)) dX5_lowers_16 rfl (snd_iceq dX5_lowers_17 rfl (sB_X5_lowers_39 hG) (snd_aln (i := 0) dX5_lowers_20 rfl (snd_gf (k := 0) dX5_lowers_21 FO_5 (Nat.le_of_ble_eq_true rfl) kw_324 (snd_iln (i := 2) dX5_lowers_24 rfl (snd_ia dX5_lowers_25 (snd_aln (i := 0) dX5_lowers_26 rfl (snd_gf (k := 0) dX5_lowers_27 FO_5 (Nat.le_of_ble_eq_true rfl) kw_324 (snd_iln (i := 1) dX5_lowers_30 rfl (snd_ia dX5_lowers_31 (snd_iln (i := 3) dX5_lowers_32 rfl (snd_iadd dX5_lowers_33 (snd_icgt dX5_lowers_34 rfl (sB_X5_lowers_39 hG) (snd_kill 3 (snd_kill 2 (snd_kill 1 (snd_kill 0 (sB_X5_lowers_37 hG))))))))))))))))))))))))))))
def f_X5_lowers : List VV → Wd → Option (Int32 × Wd) := fn 4 B_X5_lowers_0
theorem mt_X5_lowers {g : GG} {l : Launch} (hG : GOK g) : Mt g l M_X5_lowers ijI f_X5_lowers := mt_of (Y := M_X5_lowers) hG rfl rfl rfl (sB_X5_lowers_0 hG)
-- X5_spread
def M_X5_spread : MD := (yX5_spread, cX5_spread, 10, none, { frames := 4, cells := 0, slots := 0, locals := 256 }, 0, 0)
theorem co_X5_spread : CO M_X5_spread 4 := ⟨kw_962, kw_10, by decide +kernel, rfl, rfl⟩
def B_X5_spread_166 : Den Unit := op_ret
theorem sB_X5_spread_166 {g : GG} {l : Launch} (hG : GOK g) : Snd g l M_X5_spread (QM g M_X5_spread ijU) 166 (B_X5_spread_166) :=
  (snd_ret dX5_spread_166 rfl)
def B_X5_spread_154 (K46 K64 : Den Unit) : Den Unit := (op_inc 7 1 (op_goto (op_kill 9 (op_kill 8 (op_kill 2 K64)))))
theorem sB_X5_spread_154 {g : GG} {l : Launch} (hG : GOK g) {K46 : Den Unit} {K64 : Den Unit} (hK46 : Snd g l M_X5_spread (QM g M_X5_spread ijU) 46 K46) (hK64 : Snd g l M_X5_spread (QM g M_X5_spread ijU) 64 K64) : Snd g l M_X5_spread (QM g M_X5_spread ijU) 154 (B_X5_spread_154 K46 K64) :=
  (snd_inc (v := 1) dX5_spread_154 rfl (Nat.le_of_ble_eq_true rfl) (snd_goto dX5_spread_157 rfl (snd_kill 9 (snd_kill 8 (snd_kill 2 hK64)))))
def B_X5_spread_152 (K46 K64 : Den Unit) : Den Unit := (op_is 5 (op_kill 9 (op_kill 8 (op_kill 2 (B_X5_spread_154 K46 K64)))))
theorem sB_X5_spread_152 {g : GG} {l : Launch} (hG : GOK g) {K46 : Den Unit} {K64 : Den Unit} (hK46 : Snd g l M_X5_spread (QM g M_X5_spread ijU) 46 K46) (hK64 : Snd g l M_X5_spread (QM g M_X5_spread ijU) 64 K64) : Snd g l M_X5_spread (QM g M_X5_spread ijU) 152 (B_X5_spread_152 K46 K64) :=
  (snd_is dX5_spread_152 (Nat.le_of_ble_eq_true rfl) (snd_kill 9 (snd_kill 8 (snd_kill 2 (sB_X5_spread_154 hG hK46 hK64)))))
def B_X5_spread_147 (K46 K64 : Den Unit) : Den Unit := (op_ci 1 (op_goto (op_kill 9 (op_kill 8 (op_kill 5 (op_kill 2 (B_X5_spread_152 K46 K64)))))))
theorem sB_X5_spread_147 {g : GG} {l : Launch} (hG : GOK g) {K46 : Den Unit} {K64 : Den Unit} (hK46 : Snd g l M_X5_spread (QM g M_X5_spread ijU) 46 K46) (hK64 : Snd g l M_X5_spread (QM g M_X5_spread ijU) 64 K64) : Snd g l M_X5_spread (QM g M_X5_spread ijU) 147 (B_X5_spread_147 K46 K64) :=
  (snd_iconst (v := 1) dX5_spread_147 rfl (snd_goto dX5_spread_148 rfl (snd_kill 9 (snd_kill 8 (snd_kill 5 (snd_kill 2 (sB_X5_spread_152 hG hK46 hK64)))))))
def S_X5_spread_64 (K46 K64 : Den Unit) : Den Unit := (op_il 7 (op_al 1 (op_gf 0 3 (op_icge (op_inc 6 1 (op_goto (op_kill 9 (op_kill 8 (op_kill 7 (op_kill 2 K46)))))) (op_il 3 (op_il 7 (op_call ijI f_X10_isIn 2 (op_ifeq (op_kill 9 (op_kill 8 (op_kill 2 (B_X5_spread_154 K46 K64)))) (op_al 0 (op_al 1 (op_gf 0 4 (op_il 7 (op_aa 10 (op_al 1 (op_gf 0 5 (op_il 7 (op_aa 10 (op_al 4 (op_il 7 (op_aa 10 (op_callV 5 ijI f_X5_lowers 4 (op_is 8 (op_al 0 (op_al 1 (op_gf 0 5 (op_il 7 (op_aa 10 (op_al 1 (op_gf 0 4 (op_il 7 (op_aa 10 (op_al 4 (op_il 7 (op_aa 10 (op_callV 5 ijI f_X5_lowers 4 (op_is 9 (op_il 5 (op_ifne (op_kill 9 (op_kill 8 (op_kill 5 (op_kill 2 (B_X5_spread_147 K46 K64))))) (op_il 8 (op_ifne (op_kill 9 (op_kill 8 (op_kill 5 (op_kill 2 (B_X5_spread_147 K46 K64))))) (op_il 9 (op_ifeq (op_ci 0 (op_kill 9 (op_kill 8 (op_kill 5 (op_kill 2 (B_X5_spread_152 K46 K64)))))) (op_kill 9 (op_kill 8 (op_kill 5 (op_kill 2 (B_X5_spread_147 K46 K64)))))))))))))))))))))))))))))))))))))))))))))))
def L_X5_spread_64 (K46 : Den Unit) : Nat → Den Unit
  | 0 => fun _ _ _ => none
  | n + 1 => S_X5_spread_64 K46 (L_X5_spread_64 K46 n)
theorem sS_X5_spread_64 {g : GG} {l : Launch} (hG : GOK g) {K46 : Den Unit} {K64 : Den Unit} (hK46 : Snd g l M_X5_spread (QM g M_X5_spread ijU) 46 K46) (hK64 : Snd g l M_X5_spread (QM g M_X5_spread ijU) 64 K64) : Snd g l M_X5_spread (QM g M_X5_spread ijU) 64 (S_X5_spread_64 K46 K64) :=
  (snd_il dX5_spread_64 (snd_aln (i := 1) dX5_spread_66 rfl (snd_gfN (k := 3) dX5_spread_67 FO_0 (Nat.le_of_ble_eq_true rfl) kn_137 (snd_icge dX5_spread_70 rfl (snd_inc (v := 1) dX5_spread_160 rfl (Nat.le_of_ble_eq_true rfl) (snd_goto dX5_spread_163 rfl (snd_kill 9 (snd_kill 8 (snd_kill 7 (snd_kill 2 hK46)))))) (snd_iln (i := 3) dX5_spread_73 rfl (snd_il dX5_spread_74 (snd_callSN dX5_spread_76 (mt_X10_isIn hG) co_X10_isIn ⟨⟨Nat.le_of_ble_eq_true rfl, Nat.le_of_ble_eq_true rfl⟩, Nat.le_of_ble_eq_true rfl, Nat.le_of_ble_eq_true rfl⟩ kw_748 kn_964 (snd_ifeq dX5_spread_79 rfl (snd_kill 9 (snd_kill 8 (snd_kill 2 (sB_X5_spread_154 hG hK46 hK64)))) (snd_aln (i := 0) dX5_spread_82 rfl (snd_aln (i := 1) dX5_spread_83 rfl (snd_gfN (k := 4) dX5_spread_84 FO_0 (Nat.le_of_ble_eq_true rfl) kn_141 (snd_il dX5_spread_87 (snd_ia dX5_spread_89 (snd_aln (i := 1) dX5_spread_90 rfl (snd_gfN (k := 5) dX5_spread_91 FO_0 (Nat.le_of_ble_eq_true rfl) kn_144 (snd_il dX5_spread_94 (snd_ia dX5_spread_96 (snd_al dX5_spread_97 (snd_il dX5_spread_99 (snd_ia dX5_spread_101 (snd_callV dX5_spread_102 (mt_X5_lowers hG) co_X5_lowers ⟨⟨Nat.le_of_ble_eq_true rfl, Nat.le_of_ble_eq_true rfl⟩, Nat.le_of_ble_eq_true rfl, Nat.le_of_ble_eq_true rfl⟩ FO_5 kw_967 ks_23 kw_965 (snd_is dX5_spread_105 (Nat.le_of_ble_eq_true rfl) (snd_aln (i := 0) dX5_spread_107 rfl (snd_aln (i := 1) dX5_spread_108 rfl (snd_gfN (k := 5) dX5_spread_109 FO_0 (Nat.le_of_ble_eq_true rfl) kn_144 (snd_il dX5_spread_112 (snd_ia dX5_spread_114 (snd_aln (i := 1) dX5_spread_115 rfl (snd_gfN (k := 4) dX5_spread_116 FO_0 (Nat.le_of_ble_eq_true rfl) kn_141 (snd_il dX5_spread_119 (snd_ia dX5_spread_121 (snd_al dX5_spread_122 (snd_il dX5_spread_124 (snd_ia dX5_spread_126 (snd_callV dX5_spread_127 (mt_X5_lowers hG) co_X5_lowers ⟨⟨Nat.le_of_ble_eq_true rfl, Nat.le_of_ble_eq_true rfl⟩, Nat.le_of_ble_eq_true rfl, Nat.le_of_ble_eq_true rfl⟩ FO_5 kw_967 ks_23 kw_965 (snd_is dX5_spread_130 (Nat.le_of_ble_eq_true rfl) (snd_il dX5_spread_132 (snd_ifne dX5_spread_134 rfl (snd_kill 9 (snd_kill 8 (snd_kill 5 (snd_kill 2 (sB_X5_spread_147 hG hK46 hK64))))) (snd_il dX5_spread_137 (snd_ifne dX5_spread_139 rfl (snd_kill 9 (snd_kill 8 (snd_kill 5 (snd_kill 2 (sB_X5_spread_147 hG hK46 hK64))))) (snd_il dX5_spread_142 (snd_ifeq dX5_spread_144 rfl (snd_iconst (v := 0) dX5_spread_151 rfl (snd_kill 9 (snd_kill 8 (snd_kill 5 (snd_kill 2 (sB_X5_spread_152 hG hK46 hK64)))))) (snd_kill 9 (snd_kill 8 (snd_kill 5 (snd_kill 2 (sB_X5_spread_147 hG hK46 hK64)))))))))))))))))))))))))))))))))))))))))))))))
theorem sL_X5_spread_64 {g : GG} {l : Launch} (hG : GOK g) {K46 : Den Unit} (hK46 : Snd g l M_X5_spread (QM g M_X5_spread ijU) 46 K46) : ∀ n, Snd g l M_X5_spread (QM g M_X5_spread ijU) 64 (L_X5_spread_64 K46 n)
  | 0 => snd_none
  | n + 1 => sS_X5_spread_64 hG hK46 (sL_X5_spread_64 hG hK46 n)
def S_X5_spread_46 (K46 : Den Unit) : Den Unit := (op_il 5 (op_ifeq (op_kill 9 (op_kill 8 (op_kill 7 (op_kill 6 (op_kill 5 (op_kill 4 (op_kill 3 (op_kill 2 (op_kill 1 (op_kill 0 (B_X5_spread_166))))))))))) (op_il 6 (op_ci 7 (op_icge (op_kill 9 (op_kill 8 (op_kill 7 (op_kill 6 (op_kill 5 (op_kill 4 (op_kill 3 (op_kill 2 (op_kill 1 (op_kill 0 (B_X5_spread_166))))))))))) (op_ci 0 (op_is 5 (op_ci 0 (op_is 7 (op_kill 9 (op_kill 8 (op_kill 2 (L_X5_spread_64 K46 FU)))))))))))))
def L_X5_spread_46 : Nat → Den Unit
  | 0 => fun _ _ _ => none
  | n + 1 => S_X5_spread_46 (L_X5_spread_46 n)
theorem sS_X5_spread_46 {g : GG} {l : Launch} (hG : GOK g) {K46 : Den Unit} (hK46 : Snd g l M_X5_spread (QM g M_X5_spread ijU) 46 K46) : Snd g l M_X5_spread (QM g M_X5_spread ijU) 46 (S_X5_spread_46 K46) :=
  (snd_il dX5_spread_46 (snd_ifeq dX5_spread_48 rfl (snd_kill 9 (snd_kill 8 (snd_kill 7 (snd_kill 6 (snd_kill 5 (snd_kill 4 (snd_kill 3 (snd_kill 2 (snd_kill 1 (snd_kill 0 (sB_X5_spread_166 hG))))))))))) (snd_il dX5_spread_51 (snd_bipush (v := 7) dX5_spread_53 rfl (snd_icge dX5_spread_55 rfl (snd_kill 9 (snd_kill 8 (snd_kill 7 (snd_kill 6 (snd_kill 5 (snd_kill 4 (snd_kill 3 (snd_kill 2 (snd_kill 1 (snd_kill 0 (sB_X5_spread_166 hG))))))))))) (snd_iconst (v := 0) dX5_spread_58 rfl (snd_is dX5_spread_59 (Nat.le_of_ble_eq_true rfl) (snd_iconst (v := 0) dX5_spread_61 rfl (snd_is dX5_spread_62 (Nat.le_of_ble_eq_true rfl) (snd_kill 9 (snd_kill 8 (snd_kill 2 (sL_X5_spread_64 hG hK46 FU)))))))))))))
theorem sL_X5_spread_46 {g : GG} {l : Launch} (hG : GOK g) : ∀ n, Snd g l M_X5_spread (QM g M_X5_spread ijU) 46 (L_X5_spread_46 n)
  | 0 => snd_none
  | n + 1 => sS_X5_spread_46 hG (sL_X5_spread_46 hG n)
def S_X5_spread_3 (K3 : Den Unit) : Den Unit := (op_il 5 (op_ci 7 (op_icge (op_al 1 (op_il 2 (op_callV 0 ijI f_X0_hasPlace 2 (op_ifne (op_al 0 (op_gf 5 0 (op_il 2 (op_ci 0 (op_sa 10 (op_ci 1 (op_is 5 (op_ci 0 (op_is 6 (op_kill 9 (op_kill 8 (op_kill 7 (op_kill 2 (L_X5_spread_46 FU)))))))))))))) op_ret)))) (op_al 0 (op_gf 5 0 (op_il 5 (op_ci (-1) (op_sa 10 (op_inc 5 1 (op_goto (op_kill 9 (op_kill 8 (op_kill 7 (op_kill 6 K3))))))))))))))
def L_X5_spread_3 : Nat → Den Unit
  | 0 => fun _ _ _ => none
  | n + 1 => S_X5_spread_3 (L_X5_spread_3 n)
theorem sS_X5_spread_3 {g : GG} {l : Launch} (hG : GOK g) {K3 : Den Unit} (hK3 : Snd g l M_X5_spread (QM g M_X5_spread ijU) 3 K3) : Snd g l M_X5_spread (QM g M_X5_spread ijU) 3 (S_X5_spread_3 K3) :=
  (snd_il dX5_spread_3 (snd_bipush (v := 7) dX5_spread_5 rfl (snd_icge dX5_spread_7 rfl (snd_aln (i := 1) dX5_spread_24 rfl (snd_iln (i := 2) dX5_spread_25 rfl (snd_callV dX5_spread_26 (mt_X0_hasPlace hG) co_X0_hasPlace ⟨⟨Nat.le_of_ble_eq_true rfl, Nat.le_of_ble_eq_true rfl⟩, Nat.le_of_ble_eq_true rfl, Nat.le_of_ble_eq_true rfl⟩ FO_0 kw_728 kw_729 kw_963 (snd_ifne dX5_spread_29 rfl (snd_aln (i := 0) dX5_spread_33 rfl (snd_gf (k := 0) dX5_spread_34 FO_5 (Nat.le_of_ble_eq_true rfl) kw_324 (snd_iln (i := 2) dX5_spread_37 rfl (snd_iconst (v := 0) dX5_spread_38 rfl (snd_si dX5_spread_39 (snd_iconst (v := 1) dX5_spread_40 rfl (snd_is dX5_spread_41 (Nat.le_of_ble_eq_true rfl) (snd_iconst (v := 0) dX5_spread_43 rfl (snd_is dX5_spread_44 (Nat.le_of_ble_eq_true rfl) (snd_kill 9 (snd_kill 8 (snd_kill 7 (snd_kill 2 (sL_X5_spread_46 hG FU)))))))))))))) (snd_ret dX5_spread_32 rfl))))) (snd_aln (i := 0) dX5_spread_10 rfl (snd_gf (k := 0) dX5_spread_11 FO_5 (Nat.le_of_ble_eq_true rfl) kw_324 (snd_il dX5_spread_14 (snd_iconst (v := (-1)) dX5_spread_16 rfl (snd_si dX5_spread_17 (snd_inc (v := 1) dX5_spread_18 rfl (Nat.le_of_ble_eq_true rfl) (snd_goto dX5_spread_21 rfl (snd_kill 9 (snd_kill 8 (snd_kill 7 (snd_kill 6 hK3))))))))))))))
theorem sL_X5_spread_3 {g : GG} {l : Launch} (hG : GOK g) : ∀ n, Snd g l M_X5_spread (QM g M_X5_spread ijU) 3 (L_X5_spread_3 n)
  | 0 => snd_none
  | n + 1 => sS_X5_spread_3 hG (sL_X5_spread_3 hG n)
def B_X5_spread_0 : Den Unit := (op_ci 0 (op_is 5 (op_kill 9 (op_kill 8 (op_kill 7 (op_kill 6 (L_X5_spread_3 FU)))))))
theorem sB_X5_spread_0 {g : GG} {l : Launch} (hG : GOK g) : Snd g l M_X5_spread (QM g M_X5_spread ijU) 0 (B_X5_spread_0) :=
  (snd_iconst (v := 0) dX5_spread_0 rfl (snd_is dX5_spread_1 (Nat.le_of_ble_eq_true rfl) (snd_kill 9 (snd_kill 8 (snd_kill 7 (snd_kill 6 (sL_X5_spread_3 hG FU)))))))
def f_X5_spread : List VV → Wd → Option (Unit × Wd) := fn 10 B_X5_spread_0
theorem mt_X5_spread {g : GG} {l : Launch} (hG : GOK g) : Mt g l M_X5_spread ijU f_X5_spread := mt_of (Y := M_X5_spread) hG rfl rfl rfl (sB_X5_spread_0 hG)
-- X5_reached
def M_X5_reached : MD := (yX5_reached, cX5_reached, 3, (some .int), { frames := 2, cells := 0, slots := 0, locals := 128 }, 0, 0)
theorem co_X5_reached : CO M_X5_reached 0 := ⟨kw_1031, kw_10, by decide +kernel, rfl, rfl⟩
def B_X5_reached_26 (K4 : Den Int32) : Den Int32 := (op_inc 2 1 (op_goto K4))
theorem sB_X5_reached_26 {g : GG} {l : Launch} (hG : GOK g) {K4 : Den Int32} (hK4 : Snd g l M_X5_reached (QM g M_X5_reached ijI) 4 K4) : Snd g l M_X5_reached (QM g M_X5_reached ijI) 26 (B_X5_reached_26 K4) :=
  (snd_inc (v := 1) dX5_reached_26 rfl (Nat.le_of_ble_eq_true rfl) (snd_goto dX5_reached_29 rfl hK4))
def S_X5_reached_4 (K4 : Den Int32) : Den Int32 := (op_il 2 (op_ci 7 (op_icge (op_il 1 op_iret) (op_al 0 (op_gf 5 0 (op_il 2 (op_aa 10 (op_ci (-1) (op_iceq (B_X5_reached_26 K4) (op_il 1 (op_ci 1 (op_il 2 (op_ishl (op_ior (op_is 1 (B_X5_reached_26 K4))))))))))))))))
def L_X5_reached_4 : Nat → Den Int32
  | 0 => fun _ _ _ => none
  | n + 1 => S_X5_reached_4 (L_X5_reached_4 n)
theorem sS_X5_reached_4 {g : GG} {l : Launch} (hG : GOK g) {K4 : Den Int32} (hK4 : Snd g l M_X5_reached (QM g M_X5_reached ijI) 4 K4) : Snd g l M_X5_reached (QM g M_X5_reached ijI) 4 (S_X5_reached_4 K4) :=
  (snd_iln (i := 2) dX5_reached_4 rfl (snd_bipush (v := 7) dX5_reached_5 rfl (snd_icge dX5_reached_7 rfl (snd_iln (i := 1) dX5_reached_32 rfl (snd_iret dX5_reached_33 rfl)) (snd_aln (i := 0) dX5_reached_10 rfl (snd_gf (k := 0) dX5_reached_11 FO_5 (Nat.le_of_ble_eq_true rfl) kw_324 (snd_iln (i := 2) dX5_reached_14 rfl (snd_ia dX5_reached_15 (snd_iconst (v := (-1)) dX5_reached_16 rfl (snd_iceq dX5_reached_17 rfl (sB_X5_reached_26 hG hK4) (snd_iln (i := 1) dX5_reached_20 rfl (snd_iconst (v := 1) dX5_reached_21 rfl (snd_iln (i := 2) dX5_reached_22 rfl (snd_ishl dX5_reached_23 (snd_ior dX5_reached_24 (snd_isn (i := 1) dX5_reached_25 rfl (Nat.le_of_ble_eq_true rfl) (sB_X5_reached_26 hG hK4))))))))))))))))
theorem sL_X5_reached_4 {g : GG} {l : Launch} (hG : GOK g) : ∀ n, Snd g l M_X5_reached (QM g M_X5_reached ijI) 4 (L_X5_reached_4 n)
  | 0 => snd_none
  | n + 1 => sS_X5_reached_4 hG (sL_X5_reached_4 hG n)
def B_X5_reached_0 : Den Int32 := (op_ci 0 (op_is 1 (op_ci 0 (op_is 2 (L_X5_reached_4 FU)))))
theorem sB_X5_reached_0 {g : GG} {l : Launch} (hG : GOK g) : Snd g l M_X5_reached (QM g M_X5_reached ijI) 0 (B_X5_reached_0) :=
  (snd_iconst (v := 0) dX5_reached_0 rfl (snd_isn (i := 1) dX5_reached_1 rfl (Nat.le_of_ble_eq_true rfl) (snd_iconst (v := 0) dX5_reached_2 rfl (snd_isn (i := 2) dX5_reached_3 rfl (Nat.le_of_ble_eq_true rfl) (sL_X5_reached_4 hG FU)))))
def f_X5_reached : List VV → Wd → Option (Int32 × Wd) := fn 3 B_X5_reached_0
theorem mt_X5_reached {g : GG} {l : Launch} (hG : GOK g) : Mt g l M_X5_reached ijI f_X5_reached := mt_of (Y := M_X5_reached) hG rfl rfl rfl (sB_X5_reached_0 hG)
-- X8_rewind
def M_X8_rewind : MD := (yX8_rewind, cX8_rewind, 1, none, { frames := 14, cells := 0, slots := 0, locals := 896 }, 0, 0)
theorem co_X8_rewind : CO M_X8_rewind 0 := ⟨kw_396, kw_2, by decide +kernel, rfl, rfl⟩
def B_X8_rewind_0 : Den Unit := (op_al 0 (op_ci 0 (op_pf 8 3 (op_al 0 (op_callV 8 ijU f_X8_next 1 op_ret)))))
theorem sB_X8_rewind_0 {g : GG} {l : Launch} (hG : GOK g) : Snd g l M_X8_rewind (QM g M_X8_rewind ijU) 0 (B_X8_rewind_0) :=
  (snd_aln (i := 0) dX8_rewind_0 rfl (snd_iconst (v := 0) dX8_rewind_1 rfl (snd_pf (host := "") (k := 3) dX8_rewind_2 FO_8 tyX8_ok nmX8 (Nat.le_of_ble_eq_true rfl) (Or.inl kw_45) rfl rfl rfl (snd_aln (i := 0) dX8_rewind_5 rfl (snd_callV dX8_rewind_6 (mt_X8_next hG) co_X8_next ⟨⟨Nat.le_of_ble_eq_true rfl, Nat.le_of_ble_eq_true rfl⟩, Nat.le_of_ble_eq_true rfl, Nat.le_of_ble_eq_true rfl⟩ FO_8 kw_398 kw_399 kw_397 (snd_ret dX8_rewind_9 rfl))))))
def f_X8_rewind : List VV → Wd → Option (Unit × Wd) := fn 1 B_X8_rewind_0
theorem mt_X8_rewind {g : GG} {l : Launch} (hG : GOK g) : Mt g l M_X8_rewind ijU f_X8_rewind := mt_of (Y := M_X8_rewind) hG rfl rfl rfl (sB_X8_rewind_0 hG)
-- X6_begin
def M_X6_begin : MD := (yX6_begin, cX6_begin, 1, none, { frames := 16, cells := 0, slots := 0, locals := 1024 }, 0, 0)
theorem co_X6_begin : CO M_X6_begin 0 := ⟨kw_392, kw_3, by decide +kernel, rfl, rfl⟩
def B_X6_begin_0 : Den Unit := (op_al 0 (op_ci 0 (op_pf 6 1 (op_al 0 (op_gf 6 0 (op_callV 8 ijU f_X8_rewind 1 op_ret))))))
theorem sB_X6_begin_0 {g : GG} {l : Launch} (hG : GOK g) : Snd g l M_X6_begin (QM g M_X6_begin ijU) 0 (B_X6_begin_0) :=
  (snd_aln (i := 0) dX6_begin_0 rfl (snd_iconst (v := 0) dX6_begin_1 rfl (snd_pf (host := "") (k := 1) dX6_begin_2 FO_6 tyX6_ok nmX6 (Nat.le_of_ble_eq_true rfl) (Or.inl kw_91) rfl rfl rfl (snd_aln (i := 0) dX6_begin_5 rfl (snd_gf (k := 0) dX6_begin_6 FO_6 (Nat.le_of_ble_eq_true rfl) kw_87 (snd_callV dX6_begin_9 (mt_X8_rewind hG) co_X8_rewind ⟨⟨Nat.le_of_ble_eq_true rfl, Nat.le_of_ble_eq_true rfl⟩, Nat.le_of_ble_eq_true rfl, Nat.le_of_ble_eq_true rfl⟩ FO_8 kw_394 kw_395 kw_393 (snd_ret dX6_begin_12 rfl)))))))
def f_X6_begin : List VV → Wd → Option (Unit × Wd) := fn 1 B_X6_begin_0
theorem mt_X6_begin {g : GG} {l : Launch} (hG : GOK g) : Mt g l M_X6_begin ijU f_X6_begin := mt_of (Y := M_X6_begin) hG rfl rfl rfl (sB_X6_begin_0 hG)
-- X7_begin
def M_X7_begin : MD := (yX7_begin, cX7_begin, 3, none, { frames := 2, cells := 0, slots := 0, locals := 128 }, 0, 0)
theorem co_X7_begin : CO M_X7_begin 1 := ⟨kw_679, kw_7, by decide +kernel, rfl, rfl⟩
def S_X7_begin_105 (K105 : Den Unit) : Den Unit := (op_il 2 (op_ci 7 (op_icge op_ret (op_al 0 (op_gf 7 8 (op_il 2 (op_ci 0 (op_sa 10 (op_inc 2 1 (op_goto (op_kill 1 K105)))))))))))
def L_X7_begin_105 : Nat → Den Unit
  | 0 => fun _ _ _ => none
  | n + 1 => S_X7_begin_105 (L_X7_begin_105 n)
theorem sS_X7_begin_105 {g : GG} {l : Launch} (hG : GOK g) {K105 : Den Unit} (hK105 : Snd g l M_X7_begin (QM g M_X7_begin ijU) 105 K105) : Snd g l M_X7_begin (QM g M_X7_begin ijU) 105 (S_X7_begin_105 K105) :=
  (snd_iln (i := 2) dX7_begin_105 rfl (snd_bipush (v := 7) dX7_begin_106 rfl (snd_icge dX7_begin_108 rfl (snd_ret dX7_begin_124 rfl) (snd_aln (i := 0) dX7_begin_111 rfl (snd_gf (k := 8) dX7_begin_112 FO_7 (Nat.le_of_ble_eq_true rfl) kw_248 (snd_iln (i := 2) dX7_begin_115 rfl (snd_iconst (v := 0) dX7_begin_116 rfl (snd_si dX7_begin_117 (snd_inc (v := 1) dX7_begin_118 rfl (Nat.le_of_ble_eq_true rfl) (snd_goto dX7_begin_121 rfl (snd_kill 1 hK105)))))))))))
theorem sL_X7_begin_105 {g : GG} {l : Launch} (hG : GOK g) : ∀ n, Snd g l M_X7_begin (QM g M_X7_begin ijU) 105 (L_X7_begin_105 n)
  | 0 => snd_none
  | n + 1 => sS_X7_begin_105 hG (sL_X7_begin_105 hG n)
def S_X7_begin_84 (K84 : Den Unit) : Den Unit := (op_il 2 (op_ci 8 (op_icge (op_ci 0 (op_is 2 (op_kill 1 (L_X7_begin_105 FU)))) (op_al 0 (op_gf 7 7 (op_il 2 (op_ci 0 (op_sa 10 (op_inc 2 1 (op_goto (op_kill 1 K84)))))))))))
def L_X7_begin_84 : Nat → Den Unit
  | 0 => fun _ _ _ => none
  | n + 1 => S_X7_begin_84 (L_X7_begin_84 n)
theorem sS_X7_begin_84 {g : GG} {l : Launch} (hG : GOK g) {K84 : Den Unit} (hK84 : Snd g l M_X7_begin (QM g M_X7_begin ijU) 84 K84) : Snd g l M_X7_begin (QM g M_X7_begin ijU) 84 (S_X7_begin_84 K84) :=
  (snd_iln (i := 2) dX7_begin_84 rfl (snd_bipush (v := 8) dX7_begin_85 rfl (snd_icge dX7_begin_87 rfl (snd_iconst (v := 0) dX7_begin_103 rfl (snd_isn (i := 2) dX7_begin_104 rfl (Nat.le_of_ble_eq_true rfl) (snd_kill 1 (sL_X7_begin_105 hG FU)))) (snd_aln (i := 0) dX7_begin_90 rfl (snd_gf (k := 7) dX7_begin_91 FO_7 (Nat.le_of_ble_eq_true rfl) kw_246 (snd_iln (i := 2) dX7_begin_94 rfl (snd_iconst (v := 0) dX7_begin_95 rfl (snd_si dX7_begin_96 (snd_inc (v := 1) dX7_begin_97 rfl (Nat.le_of_ble_eq_true rfl) (snd_goto dX7_begin_100 rfl (snd_kill 1 hK84)))))))))))
theorem sL_X7_begin_84 {g : GG} {l : Launch} (hG : GOK g) : ∀ n, Snd g l M_X7_begin (QM g M_X7_begin ijU) 84 (L_X7_begin_84 n)
  | 0 => snd_none
  | n + 1 => sS_X7_begin_84 hG (sL_X7_begin_84 hG n)
def B_X7_begin_68 (K22 : Den Unit) : Den Unit := (op_sa 10 (op_al 0 (op_gf 7 6 (op_il 2 (op_ci 0 (op_sa 10 (op_inc 2 1 (op_goto K22))))))))
theorem sB_X7_begin_68 {g : GG} {l : Launch} (hG : GOK g) {K22 : Den Unit} (hK22 : Snd g l M_X7_begin (QM g M_X7_begin ijU) 22 K22) : Snd g l M_X7_begin (QM g M_X7_begin ijU) 68 (B_X7_begin_68 K22) :=
  (snd_si dX7_begin_68 (snd_aln (i := 0) dX7_begin_69 rfl (snd_gf (k := 6) dX7_begin_70 FO_7 (Nat.le_of_ble_eq_true rfl) kw_244 (snd_iln (i := 2) dX7_begin_73 rfl (snd_iconst (v := 0) dX7_begin_74 rfl (snd_si dX7_begin_75 (snd_inc (v := 1) dX7_begin_76 rfl (Nat.le_of_ble_eq_true rfl) (snd_goto dX7_begin_79 rfl hK22))))))))
def B_X7_begin_44 (K22 : Den Unit) : Den Unit := (op_sa 10 (op_al 0 (op_gf 7 5 (op_il 2 (op_il 2 (op_al 1 (op_gf 0 8 (op_icge (op_ci 0 (B_X7_begin_68 K22)) (op_al 1 (op_gf 0 11 (op_il 2 (op_aa 10 (op_goto (B_X7_begin_68 K22))))))))))))))
theorem sB_X7_begin_44 {g : GG} {l : Launch} (hG : GOK g) {K22 : Den Unit} (hK22 : Snd g l M_X7_begin (QM g M_X7_begin ijU) 22 K22) : Snd g l M_X7_begin (QM g M_X7_begin ijU) 44 (B_X7_begin_44 K22) :=
  (snd_si dX7_begin_44 (snd_aln (i := 0) dX7_begin_45 rfl (snd_gf (k := 5) dX7_begin_46 FO_7 (Nat.le_of_ble_eq_true rfl) kw_242 (snd_iln (i := 2) dX7_begin_49 rfl (snd_iln (i := 2) dX7_begin_50 rfl (snd_aln (i := 1) dX7_begin_51 rfl (snd_gfN (k := 8) dX7_begin_52 FO_0 (Nat.le_of_ble_eq_true rfl) kn_153 (snd_icge dX7_begin_55 rfl (snd_iconst (v := 0) dX7_begin_67 rfl (sB_X7_begin_68 hG hK22)) (snd_aln (i := 1) dX7_begin_58 rfl (snd_gfN (k := 11) dX7_begin_59 FO_0 (Nat.le_of_ble_eq_true rfl) kn_159 (snd_iln (i := 2) dX7_begin_62 rfl (snd_ia dX7_begin_63 (snd_goto dX7_begin_64 rfl (sB_X7_begin_68 hG hK22))))))))))))))
def S_X7_begin_22 (K22 : Den Unit) : Den Unit := (op_il 2 (op_ci 4 (op_icge (op_ci 0 (op_is 2 (op_kill 1 (L_X7_begin_84 FU)))) (op_al 0 (op_gf 7 4 (op_il 2 (op_al 1 (op_gf 0 0 (op_ifle (op_ci (-1) (B_X7_begin_44 K22)) (op_ci 0 (op_goto (B_X7_begin_44 K22))))))))))))
def L_X7_begin_22 : Nat → Den Unit
  | 0 => fun _ _ _ => none
  | n + 1 => S_X7_begin_22 (L_X7_begin_22 n)
theorem sS_X7_begin_22 {g : GG} {l : Launch} (hG : GOK g) {K22 : Den Unit} (hK22 : Snd g l M_X7_begin (QM g M_X7_begin ijU) 22 K22) : Snd g l M_X7_begin (QM g M_X7_begin ijU) 22 (S_X7_begin_22 K22) :=
  (snd_iln (i := 2) dX7_begin_22 rfl (snd_iconst (v := 4) dX7_begin_23 rfl (snd_icge dX7_begin_24 rfl (snd_iconst (v := 0) dX7_begin_82 rfl (snd_isn (i := 2) dX7_begin_83 rfl (Nat.le_of_ble_eq_true rfl) (snd_kill 1 (sL_X7_begin_84 hG FU)))) (snd_aln (i := 0) dX7_begin_27 rfl (snd_gf (k := 4) dX7_begin_28 FO_7 (Nat.le_of_ble_eq_true rfl) kw_240 (snd_iln (i := 2) dX7_begin_31 rfl (snd_aln (i := 1) dX7_begin_32 rfl (snd_gfN (k := 0) dX7_begin_33 FO_0 (Nat.le_of_ble_eq_true rfl) kn_130 (snd_ifle dX7_begin_36 rfl (snd_iconst (v := (-1)) dX7_begin_43 rfl (sB_X7_begin_44 hG hK22)) (snd_iconst (v := 0) dX7_begin_39 rfl (snd_goto dX7_begin_40 rfl (sB_X7_begin_44 hG hK22))))))))))))
theorem sL_X7_begin_22 {g : GG} {l : Launch} (hG : GOK g) : ∀ n, Snd g l M_X7_begin (QM g M_X7_begin ijU) 22 (L_X7_begin_22 n)
  | 0 => snd_none
  | n + 1 => sS_X7_begin_22 hG (sL_X7_begin_22 hG n)
def B_X7_begin_0 : Den Unit := (op_al 0 (op_ci 0 (op_pf 7 0 (op_al 0 (op_ci 0 (op_pf 7 1 (op_al 0 (op_ci 0 (op_pf 7 2 (op_al 0 (op_ci 0 (op_pf 7 3 (op_ci 0 (op_is 2 (L_X7_begin_22 FU)))))))))))))))
theorem sB_X7_begin_0 {g : GG} {l : Launch} (hG : GOK g) : Snd g l M_X7_begin (QM g M_X7_begin ijU) 0 (B_X7_begin_0) :=
  (snd_aln (i := 0) dX7_begin_0 rfl (snd_iconst (v := 0) dX7_begin_1 rfl (snd_pf (host := "") (k := 0) dX7_begin_2 FO_7 tyX7_ok nmX7 (Nat.le_of_ble_eq_true rfl) (Or.inl kw_232) rfl rfl rfl (snd_aln (i := 0) dX7_begin_5 rfl (snd_iconst (v := 0) dX7_begin_6 rfl (snd_pf (host := "") (k := 1) dX7_begin_7 FO_7 tyX7_ok nmX7 (Nat.le_of_ble_eq_true rfl) (Or.inl kw_234) rfl rfl rfl (snd_aln (i := 0) dX7_begin_10 rfl (snd_iconst (v := 0) dX7_begin_11 rfl (snd_pf (host := "") (k := 2) dX7_begin_12 FO_7 tyX7_ok nmX7 (Nat.le_of_ble_eq_true rfl) (Or.inl kw_236) rfl rfl rfl (snd_aln (i := 0) dX7_begin_15 rfl (snd_iconst (v := 0) dX7_begin_16 rfl (snd_pf (host := "") (k := 3) dX7_begin_17 FO_7 tyX7_ok nmX7 (Nat.le_of_ble_eq_true rfl) (Or.inl kw_238) rfl rfl rfl (snd_iconst (v := 0) dX7_begin_20 rfl (snd_isn (i := 2) dX7_begin_21 rfl (Nat.le_of_ble_eq_true rfl) (sL_X7_begin_22 hG FU)))))))))))))))
def f_X7_begin : List VV → Wd → Option (Unit × Wd) := fn 3 B_X7_begin_0
theorem mt_X7_begin {g : GG} {l : Launch} (hG : GOK g) : Mt g l M_X7_begin ijU f_X7_begin := mt_of (Y := M_X7_begin) hG rfl rfl rfl (sB_X7_begin_0 hG)
-- X7_isDrowned
def M_X7_isDrowned : MD := (yX7_isDrowned, cX7_isDrowned, 2, (some .boolean), { frames := 4, cells := 0, slots := 0, locals := 256 }, 0, 0)
theorem co_X7_isDrowned : CO M_X7_isDrowned 1 := ⟨kw_769, kw_7, by decide +kernel, rfl, rfl⟩
def B_X7_isDrowned_0 : Den Int32 := (op_al 0 (op_gf 7 2 (op_il 1 (op_call ijI f_X10_isIn 2 op_zret))))
theorem sB_X7_isDrowned_0 {g : GG} {l : Launch} (hG : GOK g) : Snd g l M_X7_isDrowned (QM g M_X7_isDrowned ijI) 0 (B_X7_isDrowned_0) :=
  (snd_aln (i := 0) dX7_isDrowned_0 rfl (snd_gf (k := 2) dX7_isDrowned_1 FO_7 (Nat.le_of_ble_eq_true rfl) kw_236 (snd_iln (i := 1) dX7_isDrowned_4 rfl (snd_callSN dX7_isDrowned_5 (mt_X10_isIn hG) co_X10_isIn ⟨⟨Nat.le_of_ble_eq_true rfl, Nat.le_of_ble_eq_true rfl⟩, Nat.le_of_ble_eq_true rfl, Nat.le_of_ble_eq_true rfl⟩ kw_748 kn_747 (snd_zret dX7_isDrowned_8 rfl)))))
def f_X7_isDrowned : List VV → Wd → Option (Int32 × Wd) := fn 2 B_X7_isDrowned_0
theorem mt_X7_isDrowned {g : GG} {l : Launch} (hG : GOK g) : Mt g l M_X7_isDrowned ijI f_X7_isDrowned := mt_of (Y := M_X7_isDrowned) hG rfl rfl rfl (sB_X7_isDrowned_0 hG)
-- X7_hasThread
def M_X7_hasThread : MD := (yX7_hasThread, cX7_hasThread, 2, (some .boolean), { frames := 4, cells := 0, slots := 0, locals := 256 }, 0, 0)
theorem co_X7_hasThread : CO M_X7_hasThread 1 := ⟨kw_746, kw_7, by decide +kernel, rfl, rfl⟩
def B_X7_hasThread_0 : Den Int32 := (op_al 0 (op_gf 7 3 (op_il 1 (op_call ijI f_X10_isIn 2 op_zret))))
theorem sB_X7_hasThread_0 {g : GG} {l : Launch} (hG : GOK g) : Snd g l M_X7_hasThread (QM g M_X7_hasThread ijI) 0 (B_X7_hasThread_0) :=
  (snd_aln (i := 0) dX7_hasThread_0 rfl (snd_gf (k := 3) dX7_hasThread_1 FO_7 (Nat.le_of_ble_eq_true rfl) kw_238 (snd_iln (i := 1) dX7_hasThread_4 rfl (snd_callSN dX7_hasThread_5 (mt_X10_isIn hG) co_X10_isIn ⟨⟨Nat.le_of_ble_eq_true rfl, Nat.le_of_ble_eq_true rfl⟩, Nat.le_of_ble_eq_true rfl, Nat.le_of_ble_eq_true rfl⟩ kw_748 kn_747 (snd_zret dX7_hasThread_8 rfl)))))
def f_X7_hasThread : List VV → Wd → Option (Int32 × Wd) := fn 2 B_X7_hasThread_0
theorem mt_X7_hasThread {g : GG} {l : Launch} (hG : GOK g) : Mt g l M_X7_hasThread ijI f_X7_hasThread := mt_of (Y := M_X7_hasThread) hG rfl rfl rfl (sB_X7_hasThread_0 hG)
-- X7_isBlind
def M_X7_isBlind : MD := (yX7_isBlind, cX7_isBlind, 3, (some .boolean), { frames := 4, cells := 0, slots := 0, locals := 256 }, 0, 0)
theorem co_X7_isBlind : CO M_X7_isBlind 2 := ⟨kw_753, kw_7, by decide +kernel, rfl, rfl⟩
def B_X7_isBlind_25 : Den Int32 := op_zret
theorem sB_X7_isBlind_25 {g : GG} {l : Launch} (hG : GOK g) : Snd g l M_X7_isBlind (QM g M_X7_isBlind ijI) 25 (B_X7_isBlind_25) :=
  (snd_zret dX7_isBlind_25 rfl)
def B_X7_isBlind_0 : Den Int32 := (op_al 0 (op_gf 7 7 (op_il 2 (op_aa 10 (op_al 1 (op_al 0 (op_gf 7 0 (op_callV 0 ijI f_X0_rainAt 2 (op_iadd (op_ci 6 (op_iclt (op_ci 0 (op_kill 2 (op_kill 1 (op_kill 0 (B_X7_isBlind_25))))) (op_ci 1 (op_goto (op_kill 2 (op_kill 1 (op_kill 0 (B_X7_isBlind_25)))))))))))))))))
theorem sB_X7_isBlind_0 {g : GG} {l : Launch} (hG : GOK g) : Snd g l M_X7_isBlind (QM g M_X7_isBlind ijI) 0 (B_X7_isBlind_0) :=
  (snd_aln (i := 0) dX7_isBlind_0 rfl (snd_gf (k := 7) dX7_isBlind_1 FO_7 (Nat.le_of_ble_eq_true rfl) kw_246 (snd_iln (i := 2) dX7_isBlind_4 rfl (snd_ia dX7_isBlind_5 (snd_aln (i := 1) dX7_isBlind_6 rfl (snd_aln (i := 0) dX7_isBlind_7 rfl (snd_gf (k := 0) dX7_isBlind_8 FO_7 (Nat.le_of_ble_eq_true rfl) kw_232 (snd_callV dX7_isBlind_11 (mt_X0_rainAt hG) co_X0_rainAt ⟨⟨Nat.le_of_ble_eq_true rfl, Nat.le_of_ble_eq_true rfl⟩, Nat.le_of_ble_eq_true rfl, Nat.le_of_ble_eq_true rfl⟩ FO_0 kw_755 kw_756 kw_754 (snd_iadd dX7_isBlind_14 (snd_bipush (v := 6) dX7_isBlind_15 rfl (snd_iclt dX7_isBlind_17 rfl (snd_iconst (v := 0) dX7_isBlind_24 rfl (snd_kill 2 (snd_kill 1 (snd_kill 0 (sB_X7_isBlind_25 hG))))) (snd_iconst (v := 1) dX7_isBlind_20 rfl (snd_goto dX7_isBlind_21 rfl (snd_kill 2 (snd_kill 1 (snd_kill 0 (sB_X7_isBlind_25 hG)))))))))))))))))
def f_X7_isBlind : List VV → Wd → Option (Int32 × Wd) := fn 3 B_X7_isBlind_0
theorem mt_X7_isBlind {g : GG} {l : Launch} (hG : GOK g) : Mt g l M_X7_isBlind ijI f_X7_isBlind := mt_of (Y := M_X7_isBlind) hG rfl rfl rfl (sB_X7_isBlind_0 hG)
-- X7_isOpen
def M_X7_isOpen : MD := (yX7_isOpen, cX7_isOpen, 3, (some .boolean), { frames := 6, cells := 0, slots := 0, locals := 384 }, 0, 0)
theorem co_X7_isOpen : CO M_X7_isOpen 2 := ⟨kw_821, kw_7, by decide +kernel, rfl, rfl⟩
def B_X7_isOpen_22 : Den Int32 := op_zret
theorem sB_X7_isOpen_22 {g : GG} {l : Launch} (hG : GOK g) : Snd g l M_X7_isOpen (QM g M_X7_isOpen ijI) 22 (B_X7_isOpen_22) :=
  (snd_zret dX7_isOpen_22 rfl)
def B_X7_isOpen_17 : Den Int32 := (op_ci 1 (op_goto (op_kill 2 (op_kill 1 (op_kill 0 (B_X7_isOpen_22))))))
theorem sB_X7_isOpen_17 {g : GG} {l : Launch} (hG : GOK g) : Snd g l M_X7_isOpen (QM g M_X7_isOpen ijI) 17 (B_X7_isOpen_17) :=
  (snd_iconst (v := 1) dX7_isOpen_17 rfl (snd_goto dX7_isOpen_18 rfl (snd_kill 2 (snd_kill 1 (snd_kill 0 (sB_X7_isOpen_22 hG))))))
def B_X7_isOpen_0 : Den Int32 := (op_al 0 (op_il 2 (op_callV 7 ijI f_X7_hasThread 2 (op_ifne (op_kill 2 (op_kill 1 (op_kill 0 (B_X7_isOpen_17)))) (op_al 0 (op_al 1 (op_il 2 (op_callV 7 ijI f_X7_isBlind 3 (op_ifne (op_ci 0 (op_kill 2 (op_kill 1 (op_kill 0 (B_X7_isOpen_22))))) (op_kill 2 (op_kill 1 (op_kill 0 (B_X7_isOpen_17)))))))))))))
theorem sB_X7_isOpen_0 {g : GG} {l : Launch} (hG : GOK g) : Snd g l M_X7_isOpen (QM g M_X7_isOpen ijI) 0 (B_X7_isOpen_0) :=
  (snd_aln (i := 0) dX7_isOpen_0 rfl (snd_iln (i := 2) dX7_isOpen_1 rfl (snd_callV dX7_isOpen_2 (mt_X7_hasThread hG) co_X7_hasThread ⟨⟨Nat.le_of_ble_eq_true rfl, Nat.le_of_ble_eq_true rfl⟩, Nat.le_of_ble_eq_true rfl, Nat.le_of_ble_eq_true rfl⟩ FO_7 kw_744 kw_745 kw_822 (snd_ifne dX7_isOpen_5 rfl (snd_kill 2 (snd_kill 1 (snd_kill 0 (sB_X7_isOpen_17 hG)))) (snd_aln (i := 0) dX7_isOpen_8 rfl (snd_aln (i := 1) dX7_isOpen_9 rfl (snd_iln (i := 2) dX7_isOpen_10 rfl (snd_callV dX7_isOpen_11 (mt_X7_isBlind hG) co_X7_isBlind ⟨⟨Nat.le_of_ble_eq_true rfl, Nat.le_of_ble_eq_true rfl⟩, Nat.le_of_ble_eq_true rfl, Nat.le_of_ble_eq_true rfl⟩ FO_7 kw_751 kw_752 kw_823 (snd_ifne dX7_isOpen_14 rfl (snd_iconst (v := 0) dX7_isOpen_21 rfl (snd_kill 2 (snd_kill 1 (snd_kill 0 (sB_X7_isOpen_22 hG))))) (snd_kill 2 (snd_kill 1 (snd_kill 0 (sB_X7_isOpen_17 hG)))))))))))))
def f_X7_isOpen : List VV → Wd → Option (Int32 × Wd) := fn 3 B_X7_isOpen_0
theorem mt_X7_isOpen {g : GG} {l : Launch} (hG : GOK g) : Mt g l M_X7_isOpen ijI f_X7_isOpen := mt_of (Y := M_X7_isOpen) hG rfl rfl rfl (sB_X7_isOpen_0 hG)
-- X7_isUnderWater
def M_X7_isUnderWater : MD := (yX7_isUnderWater, cX7_isUnderWater, 3, (some .boolean), { frames := 4, cells := 0, slots := 0, locals := 256 }, 0, 0)
theorem co_X7_isUnderWater : CO M_X7_isUnderWater 2 := ⟨kw_894, kw_7, by decide +kernel, rfl, rfl⟩
def B_X7_isUnderWater_27 : Den Int32 := op_zret
theorem sB_X7_isUnderWater_27 {g : GG} {l : Launch} (hG : GOK g) : Snd g l M_X7_isUnderWater (QM g M_X7_isUnderWater ijI) 27 (B_X7_isUnderWater_27) :=
  (snd_zret dX7_isUnderWater_27 rfl)
def B_X7_isUnderWater_26 : Den Int32 := (op_ci 0 (op_kill 2 (op_kill 1 (op_kill 0 (B_X7_isUnderWater_27)))))
theorem sB_X7_isUnderWater_26 {g : GG} {l : Launch} (hG : GOK g) : Snd g l M_X7_isUnderWater (QM g M_X7_isUnderWater ijI) 26 (B_X7_isUnderWater_26) :=
  (snd_iconst (v := 0) dX7_isUnderWater_26 rfl (snd_kill 2 (snd_kill 1 (snd_kill 0 (sB_X7_isUnderWater_27 hG)))))
def B_X7_isUnderWater_0 : Den Int32 := (op_al 0 (op_gf 7 4 (op_il 2 (op_aa 10 (op_ifeq (op_kill 2 (op_kill 1 (op_kill 0 (B_X7_isUnderWater_26)))) (op_al 1 (op_al 0 (op_gf 7 4 (op_il 2 (op_aa 10 (op_callV 0 ijI f_X0_hasPlace 2 (op_ifeq (op_kill 2 (op_kill 1 (op_kill 0 (B_X7_isUnderWater_26)))) (op_ci 1 (op_goto (op_kill 2 (op_kill 1 (op_kill 0 (B_X7_isUnderWater_27))))))))))))))))))
theorem sB_X7_isUnderWater_0 {g : GG} {l : Launch} (hG : GOK g) : Snd g l M_X7_isUnderWater (QM g M_X7_isUnderWater ijI) 0 (B_X7_isUnderWater_0) :=
  (snd_aln (i := 0) dX7_isUnderWater_0 rfl (snd_gf (k := 4) dX7_isUnderWater_1 FO_7 (Nat.le_of_ble_eq_true rfl) kw_240 (snd_iln (i := 2) dX7_isUnderWater_4 rfl (snd_ia dX7_isUnderWater_5 (snd_ifeq dX7_isUnderWater_6 rfl (snd_kill 2 (snd_kill 1 (snd_kill 0 (sB_X7_isUnderWater_26 hG)))) (snd_aln (i := 1) dX7_isUnderWater_9 rfl (snd_aln (i := 0) dX7_isUnderWater_10 rfl (snd_gf (k := 4) dX7_isUnderWater_11 FO_7 (Nat.le_of_ble_eq_true rfl) kw_240 (snd_iln (i := 2) dX7_isUnderWater_14 rfl (snd_ia dX7_isUnderWater_15 (snd_callV dX7_isUnderWater_16 (mt_X0_hasPlace hG) co_X0_hasPlace ⟨⟨Nat.le_of_ble_eq_true rfl, Nat.le_of_ble_eq_true rfl⟩, Nat.le_of_ble_eq_true rfl, Nat.le_of_ble_eq_true rfl⟩ FO_0 kw_728 kw_729 kw_858 (snd_ifeq dX7_isUnderWater_19 rfl (snd_kill 2 (snd_kill 1 (snd_kill 0 (sB_X7_isUnderWater_26 hG)))) (snd_iconst (v := 1) dX7_isUnderWater_22 rfl (snd_goto dX7_isUnderWater_23 rfl (snd_kill 2 (snd_kill 1 (snd_kill 0 (sB_X7_isUnderWater_27 hG))))))))))))))))))
def f_X7_isUnderWater : List VV → Wd → Option (Int32 × Wd) := fn 3 B_X7_isUnderWater_0
theorem mt_X7_isUnderWater {g : GG} {l : Launch} (hG : GOK g) : Mt g l M_X7_isUnderWater ijI f_X7_isUnderWater := mt_of (Y := M_X7_isUnderWater) hG rfl rfl rfl (sB_X7_isUnderWater_0 hG)
-- X7_openWays
def M_X7_openWays : MD := (yX7_openWays, cX7_openWays, 4, (some .int), { frames := 8, cells := 0, slots := 0, locals := 512 }, 0, 0)
theorem co_X7_openWays : CO M_X7_openWays 1 := ⟨kw_950, kw_7, by decide +kernel, rfl, rfl⟩
def B_X7_openWays_27 (K4 : Den Int32) : Den Int32 := (op_inc 3 1 (op_goto K4))
theorem sB_X7_openWays_27 {g : GG} {l : Launch} (hG : GOK g) {K4 : Den Int32} (hK4 : Snd g l M_X7_openWays (QM g M_X7_openWays ijI) 4 K4) : Snd g l M_X7_openWays (QM g M_X7_openWays ijI) 27 (B_X7_openWays_27 K4) :=
  (snd_inc (v := 1) dX7_openWays_27 rfl (Nat.le_of_ble_eq_true rfl) (snd_goto dX7_openWays_30 rfl hK4))
def S_X7_openWays_4 (K4 : Den Int32) : Den Int32 := (op_il 3 (op_al 1 (op_gf 0 3 (op_icge (op_il 2 op_iret) (op_al 0 (op_al 1 (op_il 3 (op_callV 7 ijI f_X7_isOpen 3 (op_ifeq (B_X7_openWays_27 K4) (op_il 2 (op_ci 1 (op_il 3 (op_ishl (op_ior (op_is 2 (B_X7_openWays_27 K4))))))))))))))))
def L_X7_openWays_4 : Nat → Den Int32
  | 0 => fun _ _ _ => none
  | n + 1 => S_X7_openWays_4 (L_X7_openWays_4 n)
theorem sS_X7_openWays_4 {g : GG} {l : Launch} (hG : GOK g) {K4 : Den Int32} (hK4 : Snd g l M_X7_openWays (QM g M_X7_openWays ijI) 4 K4) : Snd g l M_X7_openWays (QM g M_X7_openWays ijI) 4 (S_X7_openWays_4 K4) :=
  (snd_iln (i := 3) dX7_openWays_4 rfl (snd_aln (i := 1) dX7_openWays_5 rfl (snd_gfN (k := 3) dX7_openWays_6 FO_0 (Nat.le_of_ble_eq_true rfl) kn_138 (snd_icge dX7_openWays_9 rfl (snd_iln (i := 2) dX7_openWays_33 rfl (snd_iret dX7_openWays_34 rfl)) (snd_aln (i := 0) dX7_openWays_12 rfl (snd_aln (i := 1) dX7_openWays_13 rfl (snd_iln (i := 3) dX7_openWays_14 rfl (snd_callV dX7_openWays_15 (mt_X7_isOpen hG) co_X7_isOpen ⟨⟨Nat.le_of_ble_eq_true rfl, Nat.le_of_ble_eq_true rfl⟩, Nat.le_of_ble_eq_true rfl, Nat.le_of_ble_eq_true rfl⟩ FO_7 kw_819 kw_820 kw_818 (snd_ifeq dX7_openWays_18 rfl (sB_X7_openWays_27 hG hK4) (snd_iln (i := 2) dX7_openWays_21 rfl (snd_iconst (v := 1) dX7_openWays_22 rfl (snd_iln (i := 3) dX7_openWays_23 rfl (snd_ishl dX7_openWays_24 (snd_ior dX7_openWays_25 (snd_isn (i := 2) dX7_openWays_26 rfl (Nat.le_of_ble_eq_true rfl) (sB_X7_openWays_27 hG hK4))))))))))))))))
theorem sL_X7_openWays_4 {g : GG} {l : Launch} (hG : GOK g) : ∀ n, Snd g l M_X7_openWays (QM g M_X7_openWays ijI) 4 (L_X7_openWays_4 n)
  | 0 => snd_none
  | n + 1 => sS_X7_openWays_4 hG (sL_X7_openWays_4 hG n)
def B_X7_openWays_0 : Den Int32 := (op_ci 0 (op_is 2 (op_ci 0 (op_is 3 (L_X7_openWays_4 FU)))))
theorem sB_X7_openWays_0 {g : GG} {l : Launch} (hG : GOK g) : Snd g l M_X7_openWays (QM g M_X7_openWays ijI) 0 (B_X7_openWays_0) :=
  (snd_iconst (v := 0) dX7_openWays_0 rfl (snd_isn (i := 2) dX7_openWays_1 rfl (Nat.le_of_ble_eq_true rfl) (snd_iconst (v := 0) dX7_openWays_2 rfl (snd_isn (i := 3) dX7_openWays_3 rfl (Nat.le_of_ble_eq_true rfl) (sL_X7_openWays_4 hG FU)))))
def f_X7_openWays : List VV → Wd → Option (Int32 × Wd) := fn 4 B_X7_openWays_0
theorem mt_X7_openWays {g : GG} {l : Launch} (hG : GOK g) : Mt g l M_X7_openWays ijI f_X7_openWays := mt_of (Y := M_X7_openWays) hG rfl rfl rfl (sB_X7_openWays_0 hG)
