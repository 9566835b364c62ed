-- X11_count
def M_X11_count : MD := (yX11_count, cX11_count, 2, (some .int), { frames := 4, cells := 0, slots := 0, locals := 256 }, 0, 0)
theorem co_X11_count : CO M_X11_count 1 := ⟨kw_1893, kw_11, by decide +kernel, rfl, rfl⟩
def B_X11_count_172 : Den Int32 := (op_ci (-1) op_iret)
theorem sB_X11_count_172 {g : GG} {l : Launch} (hG : GOK g) : Snd g l M_X11_count (QM g M_X11_count ijI) 172 (B_X11_count_172) :=
  (snd_iconst (v := (-1)) dX11_count_172 rfl (snd_iret dX11_count_173 rfl))
def B_X11_count_167 : Den Int32 := (op_al 0 (op_gf 10 2 op_iret))
theorem sB_X11_count_167 {g : GG} {l : Launch} (hG : GOK g) : Snd g l M_X11_count (QM g M_X11_count ijI) 167 (B_X11_count_167) :=
  (snd_aln (i := 0) dX11_count_167 rfl (snd_gf (k := 2) dX11_count_168 FO_10 (Nat.le_of_ble_eq_true rfl) kw_1312 (snd_iret dX11_count_171 rfl)))
def B_X11_count_162 : Den Int32 := (op_al 0 (op_gf 10 25 op_iret))
theorem sB_X11_count_162 {g : GG} {l : Launch} (hG : GOK g) : Snd g l M_X11_count (QM g M_X11_count ijI) 162 (B_X11_count_162) :=
  (snd_aln (i := 0) dX11_count_162 rfl (snd_gf (k := 25) dX11_count_163 FO_10 (Nat.le_of_ble_eq_true rfl) kw_1335 (snd_iret dX11_count_166 rfl)))
def B_X11_count_154 : Den Int32 := (op_al 0 (op_gf 10 24 (op_ci 31 (op_aa 10 op_iret))))
theorem sB_X11_count_154 {g : GG} {l : Launch} (hG : GOK g) : Snd g l M_X11_count (QM g M_X11_count ijI) 154 (B_X11_count_154) :=
  (snd_aln (i := 0) dX11_count_154 rfl (snd_gf (k := 24) dX11_count_155 FO_10 (Nat.le_of_ble_eq_true rfl) kw_1334 (snd_bipush (v := 31) dX11_count_158 rfl (snd_ia dX11_count_160 (snd_iret dX11_count_161 rfl)))))
def B_X11_count_147 : Den Int32 := (op_al 0 (op_gf 10 21 (op_ci 0 (op_aa 10 op_iret))))
theorem sB_X11_count_147 {g : GG} {l : Launch} (hG : GOK g) : Snd g l M_X11_count (QM g M_X11_count ijI) 147 (B_X11_count_147) :=
  (snd_aln (i := 0) dX11_count_147 rfl (snd_gf (k := 21) dX11_count_148 FO_10 (Nat.le_of_ble_eq_true rfl) kw_1331 (snd_iconst (v := 0) dX11_count_151 rfl (snd_ia dX11_count_152 (snd_iret dX11_count_153 rfl)))))
def B_X11_count_136 : Den Int32 := (op_al 0 (op_ci 12 (op_al 0 (op_callV 10 ijI f_X11_places 1 (op_callV 10 ijI f_X11_sumOf 3 op_iret)))))
theorem sB_X11_count_136 {g : GG} {l : Launch} (hG : GOK g) : Snd g l M_X11_count (QM g M_X11_count ijI) 136 (B_X11_count_136) :=
  (snd_aln (i := 0) dX11_count_136 rfl (snd_bipush (v := 12) dX11_count_137 rfl (snd_aln (i := 0) dX11_count_139 rfl (snd_callV dX11_count_140 (mt_X11_places hG) co_X11_places ⟨⟨Nat.le_of_ble_eq_true rfl, Nat.le_of_ble_eq_true rfl⟩, Nat.le_of_ble_eq_true rfl, Nat.le_of_ble_eq_true rfl⟩ FO_10 kw_1308 ks_37 kw_1306 (snd_callV dX11_count_143 (mt_X11_sumOf hG) co_X11_sumOf ⟨⟨Nat.le_of_ble_eq_true rfl, Nat.le_of_ble_eq_true rfl⟩, Nat.le_of_ble_eq_true rfl, Nat.le_of_ble_eq_true rfl⟩ FO_10 kw_1884 ks_106 kw_1882 (snd_iret dX11_count_146 rfl))))))
def B_X11_count_125 : Den Int32 := (op_al 0 (op_ci 23 (op_al 0 (op_callV 10 ijI f_X11_divers 1 (op_callV 10 ijI f_X11_sumOf 3 op_iret)))))
theorem sB_X11_count_125 {g : GG} {l : Launch} (hG : GOK g) : Snd g l M_X11_count (QM g M_X11_count ijI) 125 (B_X11_count_125) :=
  (snd_aln (i := 0) dX11_count_125 rfl (snd_bipush (v := 23) dX11_count_126 rfl (snd_aln (i := 0) dX11_count_128 rfl (snd_callV dX11_count_129 (mt_X11_divers hG) co_X11_divers ⟨⟨Nat.le_of_ble_eq_true rfl, Nat.le_of_ble_eq_true rfl⟩, Nat.le_of_ble_eq_true rfl, Nat.le_of_ble_eq_true rfl⟩ FO_10 kw_1304 ks_36 kw_1302 (snd_callV dX11_count_132 (mt_X11_sumOf hG) co_X11_sumOf ⟨⟨Nat.le_of_ble_eq_true rfl, Nat.le_of_ble_eq_true rfl⟩, Nat.le_of_ble_eq_true rfl, Nat.le_of_ble_eq_true rfl⟩ FO_10 kw_1884 ks_106 kw_1882 (snd_iret dX11_count_135 rfl))))))
def B_X11_count_115 : Den Int32 := (op_al 0 (op_ci 4 (op_al 0 (op_callV 10 ijI f_X11_ways 1 (op_callV 10 ijI f_X11_sumOf 3 op_iret)))))
theorem sB_X11_count_115 {g : GG} {l : Launch} (hG : GOK g) : Snd g l M_X11_count (QM g M_X11_count ijI) 115 (B_X11_count_115) :=
  (snd_aln (i := 0) dX11_count_115 rfl (snd_iconst (v := 4) dX11_count_116 rfl (snd_aln (i := 0) dX11_count_117 rfl (snd_callV dX11_count_118 (mt_X11_ways hG) co_X11_ways ⟨⟨Nat.le_of_ble_eq_true rfl, Nat.le_of_ble_eq_true rfl⟩, Nat.le_of_ble_eq_true rfl, Nat.le_of_ble_eq_true rfl⟩ FO_10 kw_1554 ks_68 kw_1552 (snd_callV dX11_count_121 (mt_X11_sumOf hG) co_X11_sumOf ⟨⟨Nat.le_of_ble_eq_true rfl, Nat.le_of_ble_eq_true rfl⟩, Nat.le_of_ble_eq_true rfl, Nat.le_of_ble_eq_true rfl⟩ FO_10 kw_1884 ks_106 kw_1882 (snd_iret dX11_count_124 rfl))))))
def B_X11_count_108 : Den Int32 := (op_al 0 (op_gf 10 24 (op_ci 1 (op_aa 10 op_iret))))
theorem sB_X11_count_108 {g : GG} {l : Launch} (hG : GOK g) : Snd g l M_X11_count (QM g M_X11_count ijI) 108 (B_X11_count_108) :=
  (snd_aln (i := 0) dX11_count_108 rfl (snd_gf (k := 24) dX11_count_109 FO_10 (Nat.le_of_ble_eq_true rfl) kw_1334 (snd_iconst (v := 1) dX11_count_112 rfl (snd_ia dX11_count_113 (snd_iret dX11_count_114 rfl)))))
def B_X11_count_101 : Den Int32 := (op_al 0 (op_gf 10 24 (op_ci 2 (op_aa 10 op_iret))))
theorem sB_X11_count_101 {g : GG} {l : Launch} (hG : GOK g) : Snd g l M_X11_count (QM g M_X11_count ijI) 101 (B_X11_count_101) :=
  (snd_aln (i := 0) dX11_count_101 rfl (snd_gf (k := 24) dX11_count_102 FO_10 (Nat.le_of_ble_eq_true rfl) kw_1334 (snd_iconst (v := 2) dX11_count_105 rfl (snd_ia dX11_count_106 (snd_iret dX11_count_107 rfl)))))
def B_X11_count_90 : Den Int32 := (op_al 0 (op_al 0 (op_gf 10 24 (op_ci 0 (op_aa 10 (op_callV 10 ijI f_X11_rainOn 2 op_iret))))))
theorem sB_X11_count_90 {g : GG} {l : Launch} (hG : GOK g) : Snd g l M_X11_count (QM g M_X11_count ijI) 90 (B_X11_count_90) :=
  (snd_aln (i := 0) dX11_count_90 rfl (snd_aln (i := 0) dX11_count_91 rfl (snd_gf (k := 24) dX11_count_92 FO_10 (Nat.le_of_ble_eq_true rfl) kw_1334 (snd_iconst (v := 0) dX11_count_95 rfl (snd_ia dX11_count_96 (snd_callV dX11_count_97 (mt_X11_rainOn hG) co_X11_rainOn ⟨⟨Nat.le_of_ble_eq_true rfl, Nat.le_of_ble_eq_true rfl⟩, Nat.le_of_ble_eq_true rfl, Nat.le_of_ble_eq_true rfl⟩ FO_10 kw_1566 ks_71 kw_1564 (snd_iret dX11_count_100 rfl)))))))
def B_X11_count_83 : Den Int32 := (op_al 0 (op_gf 10 24 (op_ci 0 (op_aa 10 op_iret))))
theorem sB_X11_count_83 {g : GG} {l : Launch} (hG : GOK g) : Snd g l M_X11_count (QM g M_X11_count ijI) 83 (B_X11_count_83) :=
  (snd_aln (i := 0) dX11_count_83 rfl (snd_gf (k := 24) dX11_count_84 FO_10 (Nat.le_of_ble_eq_true rfl) kw_1334 (snd_iconst (v := 0) dX11_count_87 rfl (snd_ia dX11_count_88 (snd_iret dX11_count_89 rfl)))))
def B_X11_count_76 : Den Int32 := (op_al 0 (op_gf 10 10 (op_il 1 (op_aa 10 op_iret))))
theorem sB_X11_count_76 {g : GG} {l : Launch} (hG : GOK g) : Snd g l M_X11_count (QM g M_X11_count ijI) 76 (B_X11_count_76) :=
  (snd_aln (i := 0) dX11_count_76 rfl (snd_gf (k := 10) dX11_count_77 FO_10 (Nat.le_of_ble_eq_true rfl) kw_1320 (snd_iln (i := 1) dX11_count_80 rfl (snd_ia dX11_count_81 (snd_iret dX11_count_82 rfl)))))
def B_X11_count_0 : Den Int32 := (op_al 0 (op_ci 0 (op_pf 10 0 (op_il 1 (op_tsw 0 [(B_X11_count_76), (B_X11_count_76), (B_X11_count_76), (op_kill 1 (B_X11_count_83)), (op_kill 1 (B_X11_count_90)), (op_kill 1 (B_X11_count_101)), (op_kill 1 (B_X11_count_108)), (op_kill 1 (B_X11_count_115)), (op_kill 1 (B_X11_count_125)), (op_kill 1 (B_X11_count_136)), (op_kill 1 (B_X11_count_147)), (op_kill 1 (B_X11_count_154)), (op_kill 1 (B_X11_count_162)), (op_kill 1 (B_X11_count_167))] (op_kill 1 (op_kill 0 (B_X11_count_172))))))))
theorem sB_X11_count_0 {g : GG} {l : Launch} (hG : GOK g) : Snd g l M_X11_count (QM g M_X11_count ijI) 0 (B_X11_count_0) :=
  (snd_aln (i := 0) dX11_count_0 rfl (snd_iconst (v := 0) dX11_count_1 rfl (snd_pf (host := "") (k := 0) dX11_count_2 FO_10 tyX11_ok nmX11 (Nat.le_of_ble_eq_true rfl) (Or.inl kw_1310) rfl rfl rfl (snd_iln (i := 1) dX11_count_5 rfl (snd_tsw (lo' := 0) dX11_count_6 rfl rfl ⟨by decide, by decide, by decide⟩ rfl (snd_kill 1 (snd_kill 0 (sB_X11_count_172 hG))) (tk_arr (tk_cons (off := 70) (tgt := 76) rfl (sB_X11_count_76 hG) (tk_cons (off := 70) (tgt := 76) rfl (sB_X11_count_76 hG) (tk_cons (off := 70) (tgt := 76) rfl (sB_X11_count_76 hG) (tk_cons (off := 77) (tgt := 83) rfl (snd_kill 1 (sB_X11_count_83 hG)) (tk_cons (off := 84) (tgt := 90) rfl (snd_kill 1 (sB_X11_count_90 hG)) (tk_cons (off := 95) (tgt := 101) rfl (snd_kill 1 (sB_X11_count_101 hG)) (tk_cons (off := 102) (tgt := 108) rfl (snd_kill 1 (sB_X11_count_108 hG)) (tk_cons (off := 109) (tgt := 115) rfl (snd_kill 1 (sB_X11_count_115 hG)) (tk_cons (off := 119) (tgt := 125) rfl (snd_kill 1 (sB_X11_count_125 hG)) (tk_cons (off := 130) (tgt := 136) rfl (snd_kill 1 (sB_X11_count_136 hG)) (tk_cons (off := 141) (tgt := 147) rfl (snd_kill 1 (sB_X11_count_147 hG)) (tk_cons (off := 148) (tgt := 154) rfl (snd_kill 1 (sB_X11_count_154 hG)) (tk_cons (off := 156) (tgt := 162) rfl (snd_kill 1 (sB_X11_count_162 hG)) (tk_cons (off := 161) (tgt := 167) rfl (snd_kill 1 (sB_X11_count_167 hG)) tk_nil))))))))))))))))))))
def f_X11_count : List VV → Wd → Option (Int32 × Wd) := fn 2 B_X11_count_0
theorem mt_X11_count {g : GG} {l : Launch} (hG : GOK g) : Mt g l M_X11_count ijI f_X11_count := mt_of (Y := M_X11_count) hG rfl rfl rfl (sB_X11_count_0 hG)
