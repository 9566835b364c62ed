/-! ===== the reference's constructor, to its end ===== -/
def STb (gb : GB) (ex : Nat → Nat → Nat) (U : State) (H : Heap) : Prop :=
  va_K gb.2.1 cls12 (gtys (gas gb [])) U ∧ (∀ w ∈ lw_tbl, isNest w = true → va_Nw w U) ∧
  va_En RX9 "LDrownedCave$Word;" eNm [] (ex 21) (fun q => gb.1 ≤ q) U H ∧ va_Ef 28 RX9 "code" "J" (fun i => .long (eCd.getD i 0)) (ex 21) (fun q => gb.1 ≤ q) U H ∧
  va_Z RX9 "KNOWN" "[LDrownedCave$Word;" (.ref (ex 23 0)) (fun q => gb.1 ≤ q) U H ∧ va_T (.object RX9) (ex 23 0) 28 (fun i => .ref (ex 21 i)) (fun q => gb.1 ≤ q) U H ∧
  vk_R RX8 68 "()<=+-*;" (ex 24 0) U ∧ vk_S 1 [8] [[40, 41, 60, 61, 43, 45, 42, 59]] (fun _ => ex 24 0) (fun _ => ex 25 0) (fun q => gb.1 ≤ q) U H ∧
  va_Z "java/lang/String" "COMPACT_STRINGS" "Z" (.int 1) (fun q => gb.1 ≤ q) U H
theorem STb.st {gb : GB} {ex : Nat → Nat → Nat} {as os : List Nat} {n : Nat} {U : State} {H : Heap} (h : STb gb ex U H) (ha : ∀ a ∈ as ++ os, gb.1 ≤ a) (hn : gb.1 ≤ n) : ST (mkG gb as ex os) n U H := by
  have hAB : ∀ q, gS (mkG gb as ex os) n q → gb.1 ≤ q := fun q hq => hq.elim (ha q) (Nat.le_trans hn)
  obtain ⟨h1, h2, h3, h4, h5, h6, h7, h8, h9⟩ := h
  exact ⟨h1, h2, h3.narrow hAB, h4.narrow hAB, h5.narrow hAB, h6.narrow hAB, h7, h8.narrow hAB, h9.narrow hAB⟩
theorem STb.warm {gb : GB} {ex : Nat → Nat → Nat} {s U : State} {H H1 : Heap} (h : STb gb ex s H) (hW : s.WarmedH U.vm) (hk : ∀ a : Nat, a < H.size → ¬ gb.1 ≤ a → H1[a]? = H[a]?) : STb gb ex U H1 := by
  obtain ⟨h1, h2, h3, h4, h5, h6, h7, h8, h9⟩ := h
  refine ⟨va_K.moved hW.alike h1, fun w hw hn => ?_, (va_En.moved hW.alike h3).kept hk, (va_Ef.moved hW.alike h4).kept hk, (va_Z.moved hW.alike h5).kept hk, (va_T.moved hW.alike h6).kept hk, vk_R.warm hW h7, (vk_S.moved hW.alike h8).kept hk, (va_Z.moved hW.alike h9).kept hk⟩
  have := h2 w hw hn
  cases w with
  | fieldLinkNest a b c d e f => exact va_Nw.warmF hW this
  | methodLinkNest a b c d => exact va_Nw.warmM hW this
  | _ => simp [isNest] at hn
theorem STb.same {gb : GB} {ex : Nat → Nat → Nat} {u U : State} {H : Heap} (hv : U.vm = u.vm) (h : STb gb ex u H) : STb gb ex U H := by
  have hA : u.vm.Alike U.vm := by rw [hv]; exact Vm.Alike.refl _
  obtain ⟨h1, h2, h3, h4, h5, h6, h7, h8, h9⟩ := h
  refine ⟨va_K.moved hA h1, fun w hw hn => ?_, va_En.moved hA h3, va_Ef.moved hA h4, va_Z.moved hA h5, va_T.moved hA h6, vk_R.same hv h7, vk_S.moved hA h8, va_Z.moved hA h9⟩
  have := h2 w hw hn
  cases w with
  | fieldLinkNest a b c d e f => exact va_Nw.same rfl hv.symm this
  | methodLinkNest a b c d => exact va_Nw.same rfl hv.symm this
  | _ => simp [isNest] at hn
/-- the reference's object -/
def rfM : VV := .inr (.inr (some (10, 0)))
def Y_Mt : MD := (yX11_init, cX11_init, 1, none, M_X11_init.2.2.2.2.1, 18, 11167)
def D_Mt : Den Unit := op_al 0 (op_ci 0 (op_callV 10 ijU f_X11_standsAsAlways 2 (op_al 0 (op_callV 10 ijU f_X11_begins 1 op_ret))))

theorem s_Mt {g : GG} {l : Launch} (hG : GOK g) : Snd g l Y_Mt (QM g Y_Mt ijU) 346 D_Mt :=
  (snd_aln (i := 0) dX11_init_346 rfl (snd_iconst (v := 0) dX11_init_347 rfl (snd_callV dX11_init_348 (mt_X11_standsAsAlways hG) co_X11_standsAsAlways ⟨⟨Nat.le_of_ble_eq_true rfl, Nat.le_of_ble_eq_true rfl⟩, Nat.le_of_ble_eq_true rfl, Nat.le_of_ble_eq_true rfl⟩ FO_10 kw_1292 ks_33 kw_1290 (snd_aln (i := 0) dX11_init_351 rfl (snd_callV dX11_init_352 (mt_X11_begins hG) co_X11_begins ⟨⟨Nat.le_of_ble_eq_true rfl, Nat.le_of_ble_eq_true rfl⟩, Nat.le_of_ble_eq_true rfl, Nat.le_of_ble_eq_true rfl⟩ FO_10 kw_1296 ks_34 kw_1294 (snd_ret dX11_init_355 rfl))))))
def QcM (w1 : Wd) (gb : GB) (ex : Nat → Nat → Nat) (as0 : List Nat) : Array Value → State → Outcome → State → Prop := fun _ st oc t => oc = .returned none ∧ (∃ as1, (∀ a ∈ as1, st.heap.size ≤ a) ∧ (as0 ++ as1).length = 240 ∧ (as0 ++ as1).Nodup ∧ WH (mkG gb (as0 ++ as1) ex []) w1 t.heap) ∧ va_F (cA as0 st.heap.size) st t
def QS (w1 : Wd) (gb : GB) (ex : Nat → Nat → Nat) (as0 : List Nat) : CQt := fun args s below res t => (res = csF ∧ STb gb ex s s.heap ∧ (∀ a ∈ as0, gb.1 ≤ a) ∧ gb.1 ≤ s.heap.size) → MQ below (QcM w1 gb ex as0) args s 18 11167 (cA as0 s.heap.size) t
theorem W_mono {p : Program} {l : Launch} {e : Env} {R : Room} {s : State} {m : MethodId} {args : Array Value} {below : List Frame} {meth : Method} {c : Code} {H : Heap} {locs : List Loc} {cells slots : Nat} {Q Q' : State → Prop} {g : JFrame} (h : W p l e R s m args below meth c H locs cells slots Q g) (hQ : ∀ t, Q t → Q' t) : W p l e R s m args below meth c H locs cells slots Q' g := fun T hT X => by
  obtain ⟨t, a, b⟩ := h T hT X
  exact ⟨t, a, hQ t b⟩
theorem pos_M : fp nmT (10, 0) = 221 := by decide +kernel
theorem csn_stop {w1 : Wd} (hres : D_Mt [some rfM] [] w0 = some ((), w1)) {gb : GB} {ex : Nat → Nat → Nat} {l : Launch} : CSn gb l M_X11_init (QS w1 gb ex) 346 (cop_stop 221) := by
  intro p e s m args below meth c C lv st w res h as0 as1 hN hL hS H locs ls hW hA hl
  obtain ⟨hb, h2⟩ := cond_some h
  obtain ⟨e1, e2, b3, b4⟩ := of_decide_eq_true hb
  clear h hb
  subst e1
  subst e2
  cases h2
  by_cases hP : w.1 = csF ∧ STb gb ex s s.heap ∧ (∀ a ∈ as0, gb.1 ≤ a) ∧ gb.1 ≤ s.heap.size
  · obtain ⟨p1, p2, p3, p4⟩ := hP
    obtain ⟨n1, n2, n3⟩ := nm_1
    rw [p1] at hW
    have hl240 : (as0 ++ as1).length = 240 := by rw [hW.1, n2]
    have hnd := CH_nodup hW
    have hall : ∀ a ∈ (as0 ++ as1) ++ [], gb.1 ≤ a := fun a ha => by
      rw [List.append_nil] at ha
      exact (List.mem_append.mp ha).elim (p3 a) (fun z => Nat.le_trans p4 (hN a z))
    have hG : GOK (mkG gb (as0 ++ as1) ex []) := mk_ok hl240 (by rw [List.append_nil]; exact hnd) (fun a ha => by cases ha)
    have hWH : WH (mkG gb (as0 ++ as1) ex []) w0 H := WH_start hW
    have hC : Cx (mkG gb (as0 ++ as1) ex []) Y_Mt p s m args meth c := ⟨C.1, C.2.1, C.2.2.1, C.2.2.2.1, C.2.2.2.2.1, C.2.2.2.2.2.1, C.2.2.2.2.2.2.1, hG, p2.st hall p4⟩
    have hsub : ∀ q, cA as0 s.heap.size q → gS (mkG gb (as0 ++ as1) ex []) s.heap.size q := fun q hq => hq.elim (fun z => Or.inl (List.mem_append_left _ (List.mem_append_left _ z))) Or.inr
    have hl2 : lv_has ls 1 (plv (mkG gb (as0 ++ as1) ex []) 0 [some rfM]) := by
      have e1 : plv (mkG gb (as0 ++ as1) ex []) 0 [some rfM] = plv (gas gb (as0 ++ as1)) 0 [some (rf0 221)] := by
        show [(0, Value.ref ((mkG gb (as0 ++ as1) ex []).1 10 0))] = [(0, Value.ref ((as0 ++ as1).getD 221 0))]
        rw [mk_at (by decide), pos_M]
      rw [e1]
      exact hl
    have key := s_Mt (l := l) hG p e s m args below meth c hC [some rfM] [] w0 ((), w1) hres (fun v hv => by
      rcases List.mem_singleton.mp hv with q
      cases q
      show 0 < cntV 10
      decide) (fun v hv => by cases hv) H locs ls hWH ⟨hA.1, fun q q1 q2 => hA.2.1 q q1 (fun z => q2 (hsub q z)), fun x hx => hsub _ (hA.2.2 x hx)⟩ hl2
    rw [b3, b4]
    refine W_mono key (fun t ht _ => ?_)
    obtain ⟨o, t1, t2, ⟨t3, t4, t5, t6⟩, L, t7, t8⟩ := ht
    have hback : ∀ q, gS (mkG gb (as0 ++ as1) ex []) s.heap.size q → cA as0 s.heap.size q := fun q hq => hq.elim (fun z => (List.mem_append.mp z).elim (fun z => (List.mem_append.mp z).elim Or.inl (fun z => Or.inr (hN _ z))) (fun z => by cases z)) Or.inr
    exact ⟨o, t1, t2, ⟨t3, ⟨as1, hN, hl240, hnd, t5⟩, t6.1, fun q q1 q2 => t6.2 q q1 (fun z => q2 (hback q z))⟩, L, t7, fun q hq => hback _ (t8 q hq)⟩
  · intro T hT X
    exact ⟨T.setTop _, Steps.refl _, fun hq => absurd hq hP⟩
def CPreM (gb : GB) (ex : Nat → Nat → Nat) (sz : Nat) (as0 : List Nat) : Array Value → State → Prop := va_Pc [.ref (as0.getD 221 0)] (fun U => U.heap.size = sz ∧ CH gb as0 (csD ++ [ob0 10]) U.heap ∧ STb gb ex U U.heap ∧ (∀ C ∈ aoL, va_AO C U) ∧ gb.1 ≤ sz)
theorem mt_X11_init {w1 : Wd} (hres : D_Mt [some rfM] [] w0 = some ((), w1)) {gb : GB} {l : Launch} (ex : Nat → Nat → Nat) (sz : Nat) {as0 : List Nat} (h0 : ∀ a ∈ as0, gb.1 ≤ a) (h222 : as0.length = 222) : Met l yX11_init (wsU M_X11_init) M_X11_init.2.2.2.2.1 (CPreM gb ex sz as0) (QcM w1 gb ex as0) 18 11167 (cA as0 sz) := by
  refine Met.ofW (cc := cX11_init) (maxL := 1) (ret := none) rfl rfl ?_
  intro p e s m args below meth c s₁ B hml hv
  obtain ⟨rfl, hsz, hW, hST, hao, hb0⟩ := hv
  subst hsz
  have hts : ∀ w ∈ gw, w.before _ s = true := fun w hw => atoms_spec (ws := wsU M_X11_init) B.pre w (List.mem_cons_of_mem _ hw)
  have C : CxC gb M_X11_init p s m (#[.ref (as0.getD 221 0)]) meth c := ⟨B.exec, B.bytes, B.returns, hml, findClass_of_methodNamed B.named, hts, B.notSynchronized, (name_of_methodNamed B.named B.method).1, hST.1, hST.2.1, hao⟩
  have hl := lv_entry [.ref (as0.getD 221 0)] (n := 1) (Nat.le_of_ble_eq_true rfl)
  obtain ⟨hle, hD⟩ := cond_some ev_M
  have key := scB_X11_init (l := l) (csn_stop hres (ex := ex)) p e s m _ below meth c C (entL 1 [rf0 221]) [] (csD ++ [ob0 10], 0, 0) csF hD as0 [] (fun a ha => by cases ha) (fun v hv => by
    rcases List.mem_singleton.mp hv with q
    cases q
    show 221 < (as0 ++ []).length
    rw [List.append_nil, h222]
    decide) (fun v hv => by cases hv) s.heap [] _ (by rw [List.append_nil]; exact hW) va_S.rf (by rw [List.append_nil]; exact hl)
  rw [lg_entry_eq]
  exact W_mono key (fun t ht => ht ⟨rfl, hST, h0, hb0⟩)
