/-! ===== the class's own throw, and its rests ===== -/
def NSE : String := "java/util/NoSuchElementException"
def nseN : List String := ["java/lang/RuntimeException", "java/lang/Exception"]
def atR : List Cond := vx_at0 RX10 340 NSE nseN
def atB : List Cond := [.declares (Bundle.init0 "java/lang/RuntimeException"), .declares (Bundle.init0 "java/lang/Exception"), .declares (Bundle.init0 Bundle.tN), .castable NSE NSE]
theorem at_1 : atR.all (fun w => decide (w ∈ lw_tbl)) = true := by decide +kernel
theorem at_4 : (Cond.classLink RX10 338 NSE :: Cond.initialized NSE :: atR).all vx_ot = true := by decide +kernel
theorem at_5 : ([Cond.classLink RX10 338 NSE, Cond.initialized NSE] : List Cond).all (fun w => decide (w ∈ lw_tbl) && goodWord w) = true := by decide +kernel
theorem at_6 : (atR.filter (fun w => !goodWord w)).all (fun w => decide (w ∈ atB)) = true := by decide +kernel
theorem at_7 : atB.all (fun w => decide (w ∈ lw_tbl) && w.onTables) = true := by decide +kernel
def TX (A : Nat → Prop) (U : State) (H : Heap) : Prop := (∀ w ∈ atB, va_Nw w U) ∧ vx_Zq Bundle.tN "UNASSIGNED_STACK" Bundle.steD A U H ∧ vx_Zq Bundle.tN "SUPPRESSED_SENTINEL" Bundle.listD A U H
theorem atB_cases {w : Cond} (h : w ∈ atB) : (∃ x, w = .declares x) ∨ ∃ a b, w = .castable a b := by
  simp only [atB, List.mem_cons, List.not_mem_nil, or_false] at h
  rcases h with rfl | rfl | rfl | rfl
  · exact Or.inl ⟨_, rfl⟩
  · exact Or.inl ⟨_, rfl⟩
  · exact Or.inl ⟨_, rfl⟩
  · exact Or.inr ⟨_, _, rfl⟩
theorem TX.warm {g : GG} {n n' : Nat} {s U : State} {H H1 : Heap} (h : TX (gS g n) s H) (hW : s.WarmedH U.vm) (hk : ∀ a : Nat, a < H.size → ¬ gS g n a → H1[a]? = H[a]?) (hn : n ≤ n') : TX (gS g n') U H1 := by
  have hAB : ∀ q, gS g n' q → gS g n q := fun q hq => hq.elim Or.inl (fun z => Or.inr (Nat.le_trans hn z))
  obtain ⟨h1, h2, h3⟩ := h
  refine ⟨fun w hw => ?_, ((vx_Zq.moved hW.alike h2).kept hk).narrow hAB, ((vx_Zq.moved hW.alike h3).kept hk).narrow hAB⟩
  have q := h1 w hw
  rcases atB_cases hw with ⟨x, rfl⟩ | ⟨a, b, rfl⟩
  · exact va_Nw.warmD hW q
  · exact va_Nw.warmC hW q
theorem TX.same {A : Nat → Prop} {u U : State} {H : Heap} (hv : U.vm = u.vm) (h : TX A u H) : TX A U H := by
  have hA : u.vm.Alike U.vm := by rw [hv]; exact Vm.Alike.refl _
  obtain ⟨h1, h2, h3⟩ := h
  refine ⟨fun w hw => ?_, vx_Zq.moved hA h2, vx_Zq.moved hA h3⟩
  have q := h1 w hw
  rcases atB_cases hw with ⟨x, rfl⟩ | ⟨a, b, rfl⟩
  · exact va_Nw.same rfl hv.symm q
  · exact va_Nw.same rfl hv.symm q
def op_thr : Den (Option Int32) := fun _ st w => match st with
  | [] => some (none, w)
  | _ => none
def op_xret : Den (Option Int32) := fun _ st w => match st with
  | [.inl x] => some (some x, w)
  | _ => none
def QXc (g : GG) (o : Option Int32) (w' : Wd) : Array Value → State → Outcome → State → Prop := fun a st oc t => ∃ x, o = some x ∧ Qres g (some (.inl x)) w' a st oc t
def QXx (g : GG) (o : Option Int32) (w' : Wd) : String → State → State → Prop := fun E st t => o = none ∧ E = NSE ∧ WH g w' t.heap ∧ va_F (gS g st.heap.size) st t
def PXR (g : GG) (args : Array Value) (s : State) (below : List Frame) : Prop := TX (gS g s.heap.size) s s.heap ∧ ∃ m, s.methodNamed? yX10_rests = some m ∧ s.frames = .invoking m args :: below
def QX (g : GG) : Array Value → State → List Frame → Option Int32 × Wd → State → Prop := fun args s below res t => PXR g args s below → vx_MQ below (QXc g res.1 res.2) (QXx g res.1 res.2) args s 1 6 (gS g s.heap.size) t
def M_X10_rests : MD := (yX10_rests, cX10_rests, 7, some .int, { frames := 30, cells := 1, slots := 6, locals := 1920 }, 0, 0)
section THR
variable {g : GG} {l : Launch}
theorem snd_xret {pc : Nat} (hd : decode cX10_rests pc = .ok (.ireturn, 1)) : Snd g l M_X10_rests (QX g) pc op_xret := by
  intro p e s m args below meth c C lv st w res h hL hS H locs ls hW hA hl
  match st, h with
  | [.inl x], h =>
    cases h
    refine W_mono (W.widen (Nat.zero_le 1) (Nat.zero_le 6) (vx_ret (XC := QXx g (some x) w) (W.iret (Qc := QXc g (some x) w) (v := x) (free := gS g s.heap.size) C.1 C.2.1 C.2.2.1 (fun t ht _ => ⟨x, rfl, rfl, fun v hv => by cases hv; trivial, by rw [ht]; exact hW, hA.F ht⟩) hA.2.2 hd C.2.2.2.2.2.2.1))) (fun t ht _ => ht)
theorem atR_ok {args : Array Value} {s : State} (h1 : ∀ w ∈ gw, w.before args s = true) (h2 : ∀ w ∈ atB, va_Nw w s) : ∀ w ∈ atR, w.before args s = true := by
  refine vx_hat (B := atB) (fun w hw => ?_) (fun w hw => of_decide_eq_true (List.all_eq_true.mp at_6 w hw)) (fun w hw => ?_)
  · obtain ⟨a, b⟩ := List.mem_filter.mp hw
    exact h1 w (List.mem_filter.mpr ⟨of_decide_eq_true (List.all_eq_true.mp at_1 w a), b⟩)
  · rcases atB_cases hw with ⟨x, rfl⟩ | ⟨a, b, rfl⟩
    · exact va_Nw.use rfl (h2 _ hw)
    · exact va_Nw.use rfl (h2 _ hw)
theorem snd_thr {pc : Nat} (hst : l.stackTraces = false) (d0 : decode cX10_rests pc = .ok (.new 338, 3)) (d3 : decode cX10_rests (pc + 3) = .ok (.dup, 1)) (d4 : decode cX10_rests (pc + 4) = .ok (.invokespecial 340, 3)) (d7 : decode cX10_rests (pc + 7) = .ok (.athrow, 1)) : Snd g l M_X10_rests (QX g) pc op_thr := by
  intro p e s m args below meth c C lv st w res h hL hS H locs ls hW hA hl
  match st, h with
  | [], h =>
    cases h
    intro T hT X
    by_cases hP : PXR g args s below
    · obtain ⟨hTX, m', hm, hf⟩ := hP
      have hmm : m = m' := by
        have := X.frames.symm.trans hf
        injection this with a b
        injection a
      subst hmm
      have hts := C.2.2.2.2.2.1
      have hout : ∀ x ∈ c.exceptionTable.toList, covers x (pc + 7) = false := by
        obtain ⟨meth9, c9, h1, h2, -, -, -, -, h7, -⟩ := Cond.code_spec hm (hts _ kw_1173)
        cases Option.some.inj (h1.symm.trans X.method)
        cases Option.some.inj (h2.symm.trans X.code)
        intro x hx
        rw [Array.isEmpty_iff.mp h7] at hx
        cases hx
      have h5 : ∀ w ∈ ([Cond.classLink RX10 338 NSE, Cond.initialized NSE] : List Cond), w ∈ gw := gwAll at_5
      have key := vx_throw0 (p := p) (l := l) (e := e) (R := M_X10_rests.2.2.2.2.1) (s := s) (m := m) (args := args) (below := below) (meth := meth) (c := c) (H := H) (locs := locs) (cells := 0) (slots := 0) (ls := ls) (rest := []) (Qc := QXc g none w) (XC := QXx g none w) (free := gS g s.heap.size) (own := RX10) (cls := NSE) (names := nseN) (ik := 338) (ic := 340) (mc := 1) (ms := 6) (A := gS g s.heap.size) C.1 C.2.1 hst C.2.2.2.2.1 (by decide +kernel) (by decide +kernel) (hts _ (h5 _ List.mem_cons_self)) (hts _ (h5 _ (List.mem_cons_of_mem _ List.mem_cons_self))) (atR_ok hts hTX.1) (fun w hw => List.all_eq_true.mp at_4 w hw) hTX.2.1 hTX.2.2 hA (hl.1.trans C.2.2.2.1.symm) d0 d3 d4 d7 hout (by decide) (by decide) (by decide) (by decide) C.2.2.2.2.2.2.1 (fun t _ hz hq => ⟨rfl, rfl, ⟨hW.1, hW.2.kept fun k x hx => hq x.1 ((hW.2 k x hx).lt)⟩, Nat.le_trans hA.1 hz, fun q h1 h2 => by rw [hq q (Nat.lt_of_lt_of_le h1 hA.1)]; exact hA.2.1 q h1 h2⟩) hA.2.2 (by decide) (by decide)
      obtain ⟨t, a, b⟩ := key T hT X
      exact ⟨t, a, fun _ => b⟩
    · exact ⟨T.setTop _, Steps.refl _, fun hq => absurd hq hP⟩
def RB77 : Den (Option Int32) := op_il 4 (op_ci (-1) (op_iceq (op_il 5 op_xret) op_thr))
def RB71 (K : Den (Option Int32)) : Den (Option Int32) := op_inc 6 1 (op_goto K)
def RS41 (K : Den (Option Int32)) : Den (Option Int32) := op_il 6 (op_ci 4 (op_icge RB77 (op_il 6 (op_il 1 (op_il 2 (op_il 3 (op_call ijI f_X10_isRest 4 (op_ifeq (RB71 K) (op_il 5 (op_il 4 (op_icne (op_inc 5 1 (RB71 K)) (op_il 6 op_xret))))))))))))
def RL41 : Nat → Den (Option Int32)
  | 0 => fun _ _ _ => none
  | n + 1 => RS41 (RL41 n)
def RB0 (K : Den (Option Int32)) : Den (Option Int32) := op_il 1 (op_call ijI f_X10_isDigit 1 (op_ifeq op_thr (op_il 2 (op_call ijI f_X10_isDigit 1 (op_ifeq op_thr (op_il 3 (op_call ijI f_X10_isDigit 1 (op_ifeq op_thr (op_il 4 (op_ci (-1) (op_icge (op_ci 0 (op_is 5 (op_ci 0 (op_is 6 K)))) op_thr)))))))))))
theorem sRB77 (hst : l.stackTraces = false) : Snd g l M_X10_rests (QX g) 77 RB77 := snd_il dX10_rests_77 (snd_iconst (v := -1) dX10_rests_79 rfl (snd_iceq dX10_rests_80 rfl (snd_il dX10_rests_91 (snd_xret dX10_rests_93)) (snd_thr hst dX10_rests_83 dX10_rests_86 dX10_rests_87 dX10_rests_90)))
theorem sRB71 {K : Den (Option Int32)} (hK : Snd g l M_X10_rests (QX g) 41 K) : Snd g l M_X10_rests (QX g) 71 (RB71 K) := snd_inc (v := 1) dX10_rests_71 rfl (Nat.le_of_ble_eq_true rfl) (snd_goto dX10_rests_74 rfl hK)
theorem sRS41 (hG : GOK g) (hst : l.stackTraces = false) {K : Den (Option Int32)} (hK : Snd g l M_X10_rests (QX g) 41 K) : Snd g l M_X10_rests (QX g) 41 (RS41 K) := snd_il dX10_rests_41 (snd_iconst (v := 4) dX10_rests_43 rfl (snd_icge dX10_rests_44 rfl (sRB77 hst) (snd_il dX10_rests_47 (snd_iln (i := 1) dX10_rests_49 rfl (snd_iln (i := 2) dX10_rests_50 rfl (snd_iln (i := 3) dX10_rests_51 rfl (snd_callS dX10_rests_52 (mt_X10_isRest hG) co_X10_isRest ⟨⟨Nat.le_of_ble_eq_true rfl, Nat.le_of_ble_eq_true rfl⟩, Nat.le_of_ble_eq_true rfl, Nat.le_of_ble_eq_true rfl⟩ kw_1239 kw_1238 (snd_ifeq dX10_rests_55 rfl (sRB71 hK) (snd_il dX10_rests_58 (snd_il dX10_rests_60 (snd_icne dX10_rests_62 rfl (snd_inc (v := 1) dX10_rests_68 rfl (Nat.le_of_ble_eq_true rfl) (sRB71 hK)) (snd_il dX10_rests_65 (snd_xret dX10_rests_67)))))))))))))
theorem sRL41 (hG : GOK g) (hst : l.stackTraces = false) : ∀ n, Snd g l M_X10_rests (QX g) 41 (RL41 n)
  | 0 => snd_none
  | n + 1 => sRS41 hG hst (sRL41 hG hst n)
theorem sRB0 (hG : GOK g) (hst : l.stackTraces = false) {K : Den (Option Int32)} (hK : Snd g l M_X10_rests (QX g) 41 K) : Snd g l M_X10_rests (QX g) 0 (RB0 K) :=
  snd_iln (i := 1) dX10_rests_0 rfl (snd_callS dX10_rests_1 (mt_X10_isDigit hG) co_X10_isDigit ⟨⟨Nat.le_of_ble_eq_true rfl, Nat.le_of_ble_eq_true rfl⟩, Nat.le_of_ble_eq_true rfl, Nat.le_of_ble_eq_true rfl⟩ kw_1175 kw_1174 (snd_ifeq dX10_rests_4 rfl (snd_thr hst dX10_rests_27 dX10_rests_30 dX10_rests_31 dX10_rests_34) (snd_iln (i := 2) dX10_rests_7 rfl (snd_callS dX10_rests_8 (mt_X10_isDigit hG) co_X10_isDigit ⟨⟨Nat.le_of_ble_eq_true rfl, Nat.le_of_ble_eq_true rfl⟩, Nat.le_of_ble_eq_true rfl, Nat.le_of_ble_eq_true rfl⟩ kw_1175 kw_1174 (snd_ifeq dX10_rests_11 rfl (snd_thr hst dX10_rests_27 dX10_rests_30 dX10_rests_31 dX10_rests_34) (snd_iln (i := 3) dX10_rests_14 rfl (snd_callS dX10_rests_15 (mt_X10_isDigit hG) co_X10_isDigit ⟨⟨Nat.le_of_ble_eq_true rfl, Nat.le_of_ble_eq_true rfl⟩, Nat.le_of_ble_eq_true rfl, Nat.le_of_ble_eq_true rfl⟩ kw_1175 kw_1174 (snd_ifeq dX10_rests_18 rfl (snd_thr hst dX10_rests_27 dX10_rests_30 dX10_rests_31 dX10_rests_34) (snd_il dX10_rests_21 (snd_iconst (v := -1) dX10_rests_23 rfl (snd_icge dX10_rests_24 rfl (snd_iconst (v := 0) dX10_rests_35 rfl (snd_is dX10_rests_36 (Nat.le_of_ble_eq_true rfl) (snd_iconst (v := 0) dX10_rests_38 rfl (snd_is dX10_rests_39 (Nat.le_of_ble_eq_true rfl) hK)))) (snd_thr hst dX10_rests_27 dX10_rests_30 dX10_rests_31 dX10_rests_34))))))))))))
def f_X10_rests : List VV → Wd → Option (Option Int32 × Wd) := fn 7 (RB0 (RL41 FU))
def PreX (g : GG) (sz : Nat) (as : List VV) (w : Wd) : Array Value → State → Prop := va_Pc (as.map (phys g)) (fun U => U.heap.size = sz ∧ WH g w U.heap ∧ ST g sz U U.heap ∧ TX (gS g sz) U U.heap)
theorem mt_X10_rests (hG : GOK g) (hst : l.stackTraces = false) {sz : Nat} {as : List VV} {w : Wd} {res : Option Int32 × Wd} (hf : f_X10_rests as w = some res) (hok : okS as) : vx_Met l yX10_rests (wsU M_X10_rests) M_X10_rests.2.2.2.2.1 (PreX g sz as w) (QXc g res.1 res.2) (QXx g res.1 res.2) 1 6 (gS g sz) := by
  obtain ⟨hle, hD⟩ := cond_some hf
  refine vx_ofW (cc := cX10_rests) (maxL := 7) (ret := some .int) rfl rfl ?_
  intro p e s m args below meth c s₁ B hml htab hv
  obtain ⟨rfl, hsz, hW, hST, hTX⟩ := hv
  subst hsz
  have hts : ∀ w ∈ gw, w.before _ s = true := fun w hw => atoms_spec (ws := wsU M_X10_rests) B.pre w (List.mem_cons_of_mem _ hw)
  have C : Cx g M_X10_rests p s m ((as.map (phys g)).toArray) meth c := ⟨B.exec, B.bytes, B.returns, hml, findClass_of_methodNamed B.named, hts, B.notSynchronized, hG, hST⟩
  have hl := lv_entry (as.map (phys g)) (n := 7) (by rw [slv_eq]; exact Nat.le_of_ble_eq_true hle)
  rw [lg_entry_eq]
  have hl2 := lv_has_mono (l' := plv g 0 (entL 7 as)) hl (fun q hq => by
    obtain ⟨k, v, hk, rfl⟩ := (plv_mem _ 0).mp hq
    exact entl_get as k 0 v (lget_app _ _ _ _ hk))
  have key := sRB0 hG hst (sRL41 hG hst FU) p e s m _ below meth c C (entL 7 as) [] w res hD (okL_of fun k v hk => hok v (lget_entl_ok as k v (lget_app _ _ _ _ hk))) (fun v hv => by cases hv) s.heap [] _ hW va_S.rf hl2
  exact W_mono key (fun t ht => ht ⟨hTX, m, B.named, (Stand.of_body B).frames⟩)
end THR
