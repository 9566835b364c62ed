-- X10_count
def M_X10_count : MD := (yX10_count, cX10_count, 2, (some .int), { frames := 4, cells := 0, slots := 0, locals := 256 }, 0, 0)
theorem co_X10_count : CO M_X10_count 1 := ⟨kw_1165, kw_1, by decide +kernel, rfl, rfl⟩
def B_X10_count_200 : Den Int32 := (op_ci (-1) op_iret)
theorem sB_X10_count_200 {g : GG} {l : Launch} (hG : GOK g) : Snd g l M_X10_count (QM g M_X10_count ijI) 200 (B_X10_count_200) :=
  (snd_iconst (v := (-1)) dX10_count_200 rfl (snd_iret dX10_count_201 rfl))
def B_X10_count_192 : Den Int32 := (op_al 0 (op_gf 9 0 (op_gf 8 1 op_iret)))
theorem sB_X10_count_192 {g : GG} {l : Launch} (hG : GOK g) : Snd g l M_X10_count (QM g M_X10_count ijI) 192 (B_X10_count_192) :=
  (snd_aln (i := 0) dX10_count_192 rfl (snd_gf (k := 0) dX10_count_193 FO_9 (Nat.le_of_ble_eq_true rfl) kw_331 (snd_gfN (k := 1) dX10_count_196 FO_8 (Nat.le_of_ble_eq_true rfl) kn_41 (snd_iret dX10_count_199 rfl))))
def B_X10_count_184 : Den Int32 := (op_al 0 (op_gf 9 8 (op_gf 4 2 op_iret)))
theorem sB_X10_count_184 {g : GG} {l : Launch} (hG : GOK g) : Snd g l M_X10_count (QM g M_X10_count ijI) 184 (B_X10_count_184) :=
  (snd_aln (i := 0) dX10_count_184 rfl (snd_gf (k := 8) dX10_count_185 FO_9 (Nat.le_of_ble_eq_true rfl) kw_339 (snd_gfN (k := 2) dX10_count_188 FO_4 (Nat.le_of_ble_eq_true rfl) kn_299 (snd_iret dX10_count_191 rfl))))
def B_X10_count_176 : Den Int32 := (op_al 0 (op_gf 9 9 (op_gf 2 0 op_iret)))
theorem sB_X10_count_176 {g : GG} {l : Launch} (hG : GOK g) : Snd g l M_X10_count (QM g M_X10_count ijI) 176 (B_X10_count_176) :=
  (snd_aln (i := 0) dX10_count_176 rfl (snd_gf (k := 9) dX10_count_177 FO_9 (Nat.le_of_ble_eq_true rfl) kw_340 (snd_gfN (k := 0) dX10_count_180 FO_2 (Nat.le_of_ble_eq_true rfl) kn_286 (snd_iret dX10_count_183 rfl))))
def B_X10_count_168 : Den Int32 := (op_al 0 (op_gf 9 4 (op_gf 1 0 op_iret)))
theorem sB_X10_count_168 {g : GG} {l : Launch} (hG : GOK g) : Snd g l M_X10_count (QM g M_X10_count ijI) 168 (B_X10_count_168) :=
  (snd_aln (i := 0) dX10_count_168 rfl (snd_gf (k := 4) dX10_count_169 FO_9 (Nat.le_of_ble_eq_true rfl) kw_335 (snd_gfN (k := 0) dX10_count_172 FO_1 (Nat.le_of_ble_eq_true rfl) kn_206 (snd_iret dX10_count_175 rfl))))
def B_X10_count_157 : Den Int32 := (op_al 0 (op_gf 9 6 (op_gf 7 8 (op_call ijI f_X10_sum 1 op_iret))))
theorem sB_X10_count_157 {g : GG} {l : Launch} (hG : GOK g) : Snd g l M_X10_count (QM g M_X10_count ijI) 157 (B_X10_count_157) :=
  (snd_aln (i := 0) dX10_count_157 rfl (snd_gf (k := 6) dX10_count_158 FO_9 (Nat.le_of_ble_eq_true rfl) kw_337 (snd_gfN (k := 8) dX10_count_161 FO_7 (Nat.le_of_ble_eq_true rfl) kn_249 (snd_callS dX10_count_164 (mt_X10_sum hG) co_X10_sum ⟨⟨Nat.le_of_ble_eq_true rfl, Nat.le_of_ble_eq_true rfl⟩, Nat.le_of_ble_eq_true rfl, Nat.le_of_ble_eq_true rfl⟩ kw_1142 kw_1141 (snd_iret dX10_count_167 rfl)))))
def B_X10_count_146 : Den Int32 := (op_al 0 (op_gf 9 6 (op_gf 7 5 (op_call ijI f_X10_sum 1 op_iret))))
theorem sB_X10_count_146 {g : GG} {l : Launch} (hG : GOK g) : Snd g l M_X10_count (QM g M_X10_count ijI) 146 (B_X10_count_146) :=
  (snd_aln (i := 0) dX10_count_146 rfl (snd_gf (k := 6) dX10_count_147 FO_9 (Nat.le_of_ble_eq_true rfl) kw_337 (snd_gfN (k := 5) dX10_count_150 FO_7 (Nat.le_of_ble_eq_true rfl) kn_243 (snd_callS dX10_count_153 (mt_X10_sum hG) co_X10_sum ⟨⟨Nat.le_of_ble_eq_true rfl, Nat.le_of_ble_eq_true rfl⟩, Nat.le_of_ble_eq_true rfl, Nat.le_of_ble_eq_true rfl⟩ kw_1142 kw_1141 (snd_iret dX10_count_156 rfl)))))
def B_X10_count_135 : Den Int32 := (op_al 0 (op_gf 9 6 (op_gf 7 7 (op_call ijI f_X10_sum 1 op_iret))))
theorem sB_X10_count_135 {g : GG} {l : Launch} (hG : GOK g) : Snd g l M_X10_count (QM g M_X10_count ijI) 135 (B_X10_count_135) :=
  (snd_aln (i := 0) dX10_count_135 rfl (snd_gf (k := 6) dX10_count_136 FO_9 (Nat.le_of_ble_eq_true rfl) kw_337 (snd_gfN (k := 7) dX10_count_139 FO_7 (Nat.le_of_ble_eq_true rfl) kn_247 (snd_callS dX10_count_142 (mt_X10_sum hG) co_X10_sum ⟨⟨Nat.le_of_ble_eq_true rfl, Nat.le_of_ble_eq_true rfl⟩, Nat.le_of_ble_eq_true rfl, Nat.le_of_ble_eq_true rfl⟩ kw_1142 kw_1141 (snd_iret dX10_count_145 rfl)))))
def B_X10_count_127 : Den Int32 := (op_al 0 (op_gf 9 6 (op_gf 7 3 op_iret)))
theorem sB_X10_count_127 {g : GG} {l : Launch} (hG : GOK g) : Snd g l M_X10_count (QM g M_X10_count ijI) 127 (B_X10_count_127) :=
  (snd_aln (i := 0) dX10_count_127 rfl (snd_gf (k := 6) dX10_count_128 FO_9 (Nat.le_of_ble_eq_true rfl) kw_337 (snd_gfN (k := 3) dX10_count_131 FO_7 (Nat.le_of_ble_eq_true rfl) kn_239 (snd_iret dX10_count_134 rfl))))
def B_X10_count_119 : Den Int32 := (op_al 0 (op_gf 9 6 (op_gf 7 2 op_iret)))
theorem sB_X10_count_119 {g : GG} {l : Launch} (hG : GOK g) : Snd g l M_X10_count (QM g M_X10_count ijI) 119 (B_X10_count_119) :=
  (snd_aln (i := 0) dX10_count_119 rfl (snd_gf (k := 6) dX10_count_120 FO_9 (Nat.le_of_ble_eq_true rfl) kw_337 (snd_gfN (k := 2) dX10_count_123 FO_7 (Nat.le_of_ble_eq_true rfl) kn_237 (snd_iret dX10_count_126 rfl))))
def B_X10_count_104 : Den Int32 := (op_al 0 (op_gf 9 2 (op_al 0 (op_gf 9 6 (op_gf 7 0 (op_callV 0 ijI f_X0_rainAt 2 op_iret))))))
theorem sB_X10_count_104 {g : GG} {l : Launch} (hG : GOK g) : Snd g l M_X10_count (QM g M_X10_count ijI) 104 (B_X10_count_104) :=
  (snd_aln (i := 0) dX10_count_104 rfl (snd_gf (k := 2) dX10_count_105 FO_9 (Nat.le_of_ble_eq_true rfl) kw_333 (snd_aln (i := 0) dX10_count_108 rfl (snd_gf (k := 6) dX10_count_109 FO_9 (Nat.le_of_ble_eq_true rfl) kw_337 (snd_gfN (k := 0) dX10_count_112 FO_7 (Nat.le_of_ble_eq_true rfl) kn_233 (snd_callV dX10_count_115 (mt_X0_rainAt hG) co_X0_rainAt ⟨⟨Nat.le_of_ble_eq_true rfl, Nat.le_of_ble_eq_true rfl⟩, Nat.le_of_ble_eq_true rfl, Nat.le_of_ble_eq_true rfl⟩ FO_0 kw_755 kw_756 kw_1022 (snd_iret dX10_count_118 rfl)))))))
def B_X10_count_96 : Den Int32 := (op_al 0 (op_gf 9 6 (op_gf 7 0 op_iret)))
theorem sB_X10_count_96 {g : GG} {l : Launch} (hG : GOK g) : Snd g l M_X10_count (QM g M_X10_count ijI) 96 (B_X10_count_96) :=
  (snd_aln (i := 0) dX10_count_96 rfl (snd_gf (k := 6) dX10_count_97 FO_9 (Nat.le_of_ble_eq_true rfl) kw_337 (snd_gfN (k := 0) dX10_count_100 FO_7 (Nat.le_of_ble_eq_true rfl) kn_233 (snd_iret dX10_count_103 rfl))))
def B_X10_count_88 : Den Int32 := (op_al 0 (op_gf 9 2 (op_gf 0 8 op_iret)))
theorem sB_X10_count_88 {g : GG} {l : Launch} (hG : GOK g) : Snd g l M_X10_count (QM g M_X10_count ijI) 88 (B_X10_count_88) :=
  (snd_aln (i := 0) dX10_count_88 rfl (snd_gf (k := 2) dX10_count_89 FO_9 (Nat.le_of_ble_eq_true rfl) kw_333 (snd_gfN (k := 8) dX10_count_92 FO_0 (Nat.le_of_ble_eq_true rfl) kn_154 (snd_iret dX10_count_95 rfl))))
def B_X10_count_80 : Den Int32 := (op_al 0 (op_gf 9 2 (op_gf 0 3 op_iret)))
theorem sB_X10_count_80 {g : GG} {l : Launch} (hG : GOK g) : Snd g l M_X10_count (QM g M_X10_count ijI) 80 (B_X10_count_80) :=
  (snd_aln (i := 0) dX10_count_80 rfl (snd_gf (k := 2) dX10_count_81 FO_9 (Nat.le_of_ble_eq_true rfl) kw_333 (snd_gfN (k := 3) dX10_count_84 FO_0 (Nat.le_of_ble_eq_true rfl) kn_139 (snd_iret dX10_count_87 rfl))))
def B_X10_count_72 : Den Int32 := (op_al 0 (op_gf 9 2 (op_gf 0 0 op_iret)))
theorem sB_X10_count_72 {g : GG} {l : Launch} (hG : GOK g) : Snd g l M_X10_count (QM g M_X10_count ijI) 72 (B_X10_count_72) :=
  (snd_aln (i := 0) dX10_count_72 rfl (snd_gf (k := 2) dX10_count_73 FO_9 (Nat.le_of_ble_eq_true rfl) kw_333 (snd_gfN (k := 0) dX10_count_76 FO_0 (Nat.le_of_ble_eq_true rfl) kn_131 (snd_iret dX10_count_79 rfl))))
def B_X10_count_0 : Den Int32 := (op_il 1 (op_tsw 0 [(op_kill 1 (B_X10_count_72)), (op_kill 1 (B_X10_count_80)), (op_kill 1 (B_X10_count_88)), (op_kill 1 (B_X10_count_96)), (op_kill 1 (B_X10_count_104)), (op_kill 1 (B_X10_count_119)), (op_kill 1 (B_X10_count_127)), (op_kill 1 (B_X10_count_135)), (op_kill 1 (B_X10_count_146)), (op_kill 1 (B_X10_count_157)), (op_kill 1 (B_X10_count_168)), (op_kill 1 (B_X10_count_176)), (op_kill 1 (B_X10_count_184)), (op_kill 1 (B_X10_count_192))] (op_kill 1 (op_kill 0 (B_X10_count_200)))))
theorem sB_X10_count_0 {g : GG} {l : Launch} (hG : GOK g) : Snd g l M_X10_count (QM g M_X10_count ijI) 0 (B_X10_count_0) :=
  (snd_iln (i := 1) dX10_count_0 rfl (snd_tsw (lo' := 0) dX10_count_1 rfl rfl ⟨by decide, by decide, by decide⟩ rfl (snd_kill 1 (snd_kill 0 (sB_X10_count_200 hG))) (tk_arr (tk_cons (off := 71) (tgt := 72) rfl (snd_kill 1 (sB_X10_count_72 hG)) (tk_cons (off := 79) (tgt := 80) rfl (snd_kill 1 (sB_X10_count_80 hG)) (tk_cons (off := 87) (tgt := 88) rfl (snd_kill 1 (sB_X10_count_88 hG)) (tk_cons (off := 95) (tgt := 96) rfl (snd_kill 1 (sB_X10_count_96 hG)) (tk_cons (off := 103) (tgt := 104) rfl (snd_kill 1 (sB_X10_count_104 hG)) (tk_cons (off := 118) (tgt := 119) rfl (snd_kill 1 (sB_X10_count_119 hG)) (tk_cons (off := 126) (tgt := 127) rfl (snd_kill 1 (sB_X10_count_127 hG)) (tk_cons (off := 134) (tgt := 135) rfl (snd_kill 1 (sB_X10_count_135 hG)) (tk_cons (off := 145) (tgt := 146) rfl (snd_kill 1 (sB_X10_count_146 hG)) (tk_cons (off := 156) (tgt := 157) rfl (snd_kill 1 (sB_X10_count_157 hG)) (tk_cons (off := 167) (tgt := 168) rfl (snd_kill 1 (sB_X10_count_168 hG)) (tk_cons (off := 175) (tgt := 176) rfl (snd_kill 1 (sB_X10_count_176 hG)) (tk_cons (off := 183) (tgt := 184) rfl (snd_kill 1 (sB_X10_count_184 hG)) (tk_cons (off := 191) (tgt := 192) rfl (snd_kill 1 (sB_X10_count_192 hG)) tk_nil)))))))))))))))))
def f_X10_count : List VV → Wd → Option (Int32 × Wd) := fn 2 B_X10_count_0
theorem mt_X10_count {g : GG} {l : Launch} (hG : GOK g) : Mt g l M_X10_count ijI f_X10_count := mt_of (Y := M_X10_count) hG rfl rfl rfl (sB_X10_count_0 hG)
-- X10_gain
def M_X10_gain : MD := (yX10_gain, cX10_gain, 5, (some .int), { frames := 2, cells := 0, slots := 0, locals := 128 }, 0, 0)
theorem co_X10_gain : CO M_X10_gain 5 := ⟨kw_1243, kw_1, by decide +kernel, rfl, rfl⟩
def B_X10_gain_28 : Den Int32 := op_iret
theorem sB_X10_gain_28 {g : GG} {l : Launch} (hG : GOK g) : Snd g l M_X10_gain (QM g M_X10_gain ijI) 28 (B_X10_gain_28) :=
  (snd_iret dX10_gain_28 rfl)
def B_X10_gain_16 : Den Int32 := op_iret
theorem sB_X10_gain_16 {g : GG} {l : Launch} (hG : GOK g) : Snd g l M_X10_gain (QM g M_X10_gain ijI) 16 (B_X10_gain_16) :=
  (snd_iret dX10_gain_16 rfl)
def B_X10_gain_0 : Den Int32 := (op_il 0 (op_ci 1 (op_icne (op_il 1 (op_ci 1 (op_icne (op_ci 0 (op_kill 4 (op_kill 3 (op_kill 2 (op_kill 1 (op_kill 0 (B_X10_gain_28))))))) (op_il 4 (op_goto (op_kill 4 (op_kill 3 (op_kill 2 (op_kill 1 (op_kill 0 (B_X10_gain_28))))))))))) (op_il 1 (op_ci 1 (op_icne (op_il 3 (op_kill 4 (op_kill 3 (op_kill 2 (op_kill 1 (op_kill 0 (B_X10_gain_16))))))) (op_il 2 (op_ineg (op_goto (op_kill 4 (op_kill 3 (op_kill 2 (op_kill 1 (op_kill 0 (B_X10_gain_16)))))))))))))))
theorem sB_X10_gain_0 {g : GG} {l : Launch} (hG : GOK g) : Snd g l M_X10_gain (QM g M_X10_gain ijI) 0 (B_X10_gain_0) :=
  (snd_iln (i := 0) dX10_gain_0 rfl (snd_iconst (v := 1) dX10_gain_1 rfl (snd_icne dX10_gain_2 rfl (snd_iln (i := 1) dX10_gain_17 rfl (snd_iconst (v := 1) dX10_gain_18 rfl (snd_icne dX10_gain_19 rfl (snd_iconst (v := 0) dX10_gain_27 rfl (snd_kill 4 (snd_kill 3 (snd_kill 2 (snd_kill 1 (snd_kill 0 (sB_X10_gain_28 hG))))))) (snd_il dX10_gain_22 (snd_goto dX10_gain_24 rfl (snd_kill 4 (snd_kill 3 (snd_kill 2 (snd_kill 1 (snd_kill 0 (sB_X10_gain_28 hG))))))))))) (snd_iln (i := 1) dX10_gain_5 rfl (snd_iconst (v := 1) dX10_gain_6 rfl (snd_icne dX10_gain_7 rfl (snd_iln (i := 3) dX10_gain_15 rfl (snd_kill 4 (snd_kill 3 (snd_kill 2 (snd_kill 1 (snd_kill 0 (sB_X10_gain_16 hG))))))) (snd_iln (i := 2) dX10_gain_10 rfl (snd_ineg dX10_gain_11 (snd_goto dX10_gain_12 rfl (snd_kill 4 (snd_kill 3 (snd_kill 2 (snd_kill 1 (snd_kill 0 (sB_X10_gain_16 hG)))))))))))))))
def f_X10_gain : List VV → Wd → Option (Int32 × Wd) := fn 5 B_X10_gain_0
theorem mt_X10_gain {g : GG} {l : Launch} (hG : GOK g) : Mt g l M_X10_gain ijI f_X10_gain := mt_of (Y := M_X10_gain) hG rfl rfl rfl (sB_X10_gain_0 hG)
-- X10_isRest
def M_X10_isRest : MD := (yX10_isRest, cX10_isRest, 6, (some .boolean), { frames := 4, cells := 0, slots := 0, locals := 256 }, 0, 0)
theorem co_X10_isRest : CO M_X10_isRest 4 := ⟨kw_1240, kw_1, by decide +kernel, rfl, rfl⟩
def B_X10_isRest_65 : Den Int32 := op_zret
theorem sB_X10_isRest_65 {g : GG} {l : Launch} (hG : GOK g) : Snd g l M_X10_isRest (QM g M_X10_isRest ijI) 65 (B_X10_isRest_65) :=
  (snd_zret dX10_isRest_65 rfl)
def B_X10_isRest_64 : Den Int32 := (op_ci 0 (op_kill 5 (op_kill 4 (op_kill 3 (op_kill 2 (op_kill 1 (op_kill 0 (B_X10_isRest_65))))))))
theorem sB_X10_isRest_64 {g : GG} {l : Launch} (hG : GOK g) : Snd g l M_X10_isRest (QM g M_X10_isRest ijI) 64 (B_X10_isRest_64) :=
  (snd_iconst (v := 0) dX10_isRest_64 rfl (snd_kill 5 (snd_kill 4 (snd_kill 3 (snd_kill 2 (snd_kill 1 (snd_kill 0 (sB_X10_isRest_65 hG))))))))
def B_X10_isRest_0 : Den Int32 := (op_il 0 (op_ci 2 (op_idiv (op_is 4 (op_il 0 (op_ci 2 (op_irem (op_is 5 (op_il 4 (op_il 5 (op_il 1 (op_il 2 (op_il 3 (op_call ijI f_X10_gain 5 (op_ci 1 (op_il 4 (op_isub (op_il 5 (op_il 1 (op_il 2 (op_il 3 (op_call ijI f_X10_gain 5 (op_iclt (op_kill 5 (op_kill 4 (op_kill 3 (op_kill 2 (op_kill 1 (op_kill 0 (B_X10_isRest_64))))))) (op_il 5 (op_il 4 (op_il 1 (op_il 2 (op_il 3 (op_call ijI f_X10_gain 5 (op_ci 1 (op_il 5 (op_isub (op_il 4 (op_il 1 (op_il 2 (op_il 3 (op_call ijI f_X10_gain 5 (op_iclt (op_kill 5 (op_kill 4 (op_kill 3 (op_kill 2 (op_kill 1 (op_kill 0 (B_X10_isRest_64))))))) (op_ci 1 (op_goto (op_kill 5 (op_kill 4 (op_kill 3 (op_kill 2 (op_kill 1 (op_kill 0 (B_X10_isRest_65)))))))))))))))))))))))))))))))))))))))))))))))
theorem sB_X10_isRest_0 {g : GG} {l : Launch} (hG : GOK g) : Snd g l M_X10_isRest (QM g M_X10_isRest ijI) 0 (B_X10_isRest_0) :=
  (snd_iln (i := 0) dX10_isRest_0 rfl (snd_iconst (v := 2) dX10_isRest_1 rfl (snd_idiv dX10_isRest_2 (snd_is dX10_isRest_3 (Nat.le_of_ble_eq_true rfl) (snd_iln (i := 0) dX10_isRest_5 rfl (snd_iconst (v := 2) dX10_isRest_6 rfl (snd_irem dX10_isRest_7 (snd_is dX10_isRest_8 (Nat.le_of_ble_eq_true rfl) (snd_il dX10_isRest_10 (snd_il dX10_isRest_12 (snd_iln (i := 1) dX10_isRest_14 rfl (snd_iln (i := 2) dX10_isRest_15 rfl (snd_iln (i := 3) dX10_isRest_16 rfl (snd_callS dX10_isRest_17 (mt_X10_gain hG) co_X10_gain ⟨⟨Nat.le_of_ble_eq_true rfl, Nat.le_of_ble_eq_true rfl⟩, Nat.le_of_ble_eq_true rfl, Nat.le_of_ble_eq_true rfl⟩ kw_1242 kw_1241 (snd_iconst (v := 1) dX10_isRest_20 rfl (snd_il dX10_isRest_21 (snd_isub dX10_isRest_23 (snd_il dX10_isRest_24 (snd_iln (i := 1) dX10_isRest_26 rfl (snd_iln (i := 2) dX10_isRest_27 rfl (snd_iln (i := 3) dX10_isRest_28 rfl (snd_callS dX10_isRest_29 (mt_X10_gain hG) co_X10_gain ⟨⟨Nat.le_of_ble_eq_true rfl, Nat.le_of_ble_eq_true rfl⟩, Nat.le_of_ble_eq_true rfl, Nat.le_of_ble_eq_true rfl⟩ kw_1242 kw_1241 (snd_iclt dX10_isRest_32 rfl (snd_kill 5 (snd_kill 4 (snd_kill 3 (snd_kill 2 (snd_kill 1 (snd_kill 0 (sB_X10_isRest_64 hG))))))) (snd_il dX10_isRest_35 (snd_il dX10_isRest_37 (snd_iln (i := 1) dX10_isRest_39 rfl (snd_iln (i := 2) dX10_isRest_40 rfl (snd_iln (i := 3) dX10_isRest_41 rfl (snd_callS dX10_isRest_42 (mt_X10_gain hG) co_X10_gain ⟨⟨Nat.le_of_ble_eq_true rfl, Nat.le_of_ble_eq_true rfl⟩, Nat.le_of_ble_eq_true rfl, Nat.le_of_ble_eq_true rfl⟩ kw_1242 kw_1241 (snd_iconst (v := 1) dX10_isRest_45 rfl (snd_il dX10_isRest_46 (snd_isub dX10_isRest_48 (snd_il dX10_isRest_49 (snd_iln (i := 1) dX10_isRest_51 rfl (snd_iln (i := 2) dX10_isRest_52 rfl (snd_iln (i := 3) dX10_isRest_53 rfl (snd_callS dX10_isRest_54 (mt_X10_gain hG) co_X10_gain ⟨⟨Nat.le_of_ble_eq_true rfl, Nat.le_of_ble_eq_true rfl⟩, Nat.le_of_ble_eq_true rfl, Nat.le_of_ble_eq_true rfl⟩ kw_1242 kw_1241 (snd_iclt dX10_isRest_57 rfl (snd_kill 5 (snd_kill 4 (snd_kill 3 (snd_kill 2 (snd_kill 1 (snd_kill 0 (sB_X10_isRest_64 hG))))))) (snd_iconst (v := 1) dX10_isRest_60 rfl (snd_goto dX10_isRest_61 rfl (snd_kill 5 (snd_kill 4 (snd_kill 3 (snd_kill 2 (snd_kill 1 (snd_kill 0 (sB_X10_isRest_65 hG)))))))))))))))))))))))))))))))))))))))))))))))
def f_X10_isRest : List VV → Wd → Option (Int32 × Wd) := fn 6 B_X10_isRest_0
theorem mt_X10_isRest {g : GG} {l : Launch} (hG : GOK g) : Mt g l M_X10_isRest ijI f_X10_isRest := mt_of (Y := M_X10_isRest) hG rfl rfl rfl (sB_X10_isRest_0 hG)
-- X10_isDigit
def M_X10_isDigit : MD := (yX10_isDigit, cX10_isDigit, 1, (some .boolean), { frames := 2, cells := 0, slots := 0, locals := 128 }, 0, 0)
theorem co_X10_isDigit : CO M_X10_isDigit 1 := ⟨kw_1176, kw_1, by decide +kernel, rfl, rfl⟩
def B_X10_isDigit_15 : Den Int32 := op_zret
theorem sB_X10_isDigit_15 {g : GG} {l : Launch} (hG : GOK g) : Snd g l M_X10_isDigit (QM g M_X10_isDigit ijI) 15 (B_X10_isDigit_15) :=
  (snd_zret dX10_isDigit_15 rfl)
def B_X10_isDigit_14 : Den Int32 := (op_ci 0 (op_kill 0 (B_X10_isDigit_15)))
theorem sB_X10_isDigit_14 {g : GG} {l : Launch} (hG : GOK g) : Snd g l M_X10_isDigit (QM g M_X10_isDigit ijI) 14 (B_X10_isDigit_14) :=
  (snd_iconst (v := 0) dX10_isDigit_14 rfl (snd_kill 0 (sB_X10_isDigit_15 hG)))
def B_X10_isDigit_0 : Den Int32 := (op_il 0 (op_iflt (op_kill 0 (B_X10_isDigit_14)) (op_il 0 (op_ci 9 (op_icgt (op_kill 0 (B_X10_isDigit_14)) (op_ci 1 (op_goto (op_kill 0 (B_X10_isDigit_15)))))))))
theorem sB_X10_isDigit_0 {g : GG} {l : Launch} (hG : GOK g) : Snd g l M_X10_isDigit (QM g M_X10_isDigit ijI) 0 (B_X10_isDigit_0) :=
  (snd_iln (i := 0) dX10_isDigit_0 rfl (snd_iflt dX10_isDigit_1 rfl (snd_kill 0 (sB_X10_isDigit_14 hG)) (snd_iln (i := 0) dX10_isDigit_4 rfl (snd_bipush (v := 9) dX10_isDigit_5 rfl (snd_icgt dX10_isDigit_7 rfl (snd_kill 0 (sB_X10_isDigit_14 hG)) (snd_iconst (v := 1) dX10_isDigit_10 rfl (snd_goto dX10_isDigit_11 rfl (snd_kill 0 (sB_X10_isDigit_15 hG)))))))))
def f_X10_isDigit : List VV → Wd → Option (Int32 × Wd) := fn 1 B_X10_isDigit_0
theorem mt_X10_isDigit {g : GG} {l : Launch} (hG : GOK g) : Mt g l M_X10_isDigit ijI f_X10_isDigit := mt_of (Y := M_X10_isDigit) hG rfl rfl rfl (sB_X10_isDigit_0 hG)
