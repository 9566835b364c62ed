/-! ===== the law's own row of one long; the law's rests, which catches ===== -/
def HO (g : GG) : Prop := g.1 26 0 ∈ g.2.2.1 ∧ g.2.1 (g.1 26 0) = (26, 0)
section OUT
variable {ρ : Type}
def op_osj (K : Den ρ) : Den ρ := fun lv st w => (pJ st).bind fun v => (pI v.2).bind fun x => (pO x.2).bind fun q => cond (Nat.beq q.1.1 26) (cond (ib x.1 1) (K lv q.2 (sJ w 26 0 x.1.toNatClampNeg v.1)) none) none
def op_ola (K : Den ρ) : Den ρ := fun lv st w => (pI st).bind fun x => (pO x.2).bind fun q => cond (Nat.beq q.1.1 26) (cond (ib x.1 1) (K lv (.inr (.inl (w.2.1 26 0 x.1.toNatClampNeg)) :: q.2) w) none) none
variable {g : GG} {l : Launch} {Y : MD} {Q : Array Value → State → List Frame → ρ × Wd → State → Prop} {pc : Nat} {D : Den ρ}
theorem cell_out {w : Wd} : cellOf g w 26 0 = .inl (g.2.2.2.2 1, 1, .inr (.inl (w.2.1 26 0))) := rfl
theorem one26 {i : Nat} (h : okV (.inr (.inr (some (26, i))))) : i = 0 := by
  have h1 : i < 1 := h
  omega
theorem snd_osj (hO : HO g) (hd : decode Y.2.1 pc = .ok (.lastore, 1)) (kk : Snd g l Y Q (pc + 1) D) : Snd g l Y Q pc (op_osj D) := by
  intro p e s m args below meth c0 C lv st w res h hL hS H locs ls hW hA hl
  obtain ⟨⟨v, r0⟩, h0, ha⟩ := Option.bind_eq_some_iff.mp h
  obtain ⟨⟨x, r⟩, h1, ha⟩ := Option.bind_eq_some_iff.mp ha
  obtain ⟨⟨⟨κ, i⟩, r2⟩, h2, ha⟩ := Option.bind_eq_some_iff.mp ha
  have e0 := pJ_eq h0
  have e1 : r0 = .inl x :: r := pI_eq h1
  have e2 : r = .inr (.inr (some (κ, i))) :: r2 := pO_eq h2
  subst e2
  subst e1
  subst e0
  obtain ⟨hκ, hb1⟩ := beq_some ha
  obtain ⟨hi, hb⟩ := cond_some hb1
  clear hb1 ha
  dsimp only at hκ hb hi
  subst hκ
  have hi0 := one26 (okS_tail (okS_tail hS) _ List.mem_cons_self)
  subst hi0
  obtain ⟨kq, hkq⟩ := wls_getL w hO
  have hset : (wls g w).set kq (g.1 26 0, .inl (g.2.2.2.2 1, 1, .inr (.inl (vp_updL (w.2.1 26 0) x.toNatClampNeg v)))) = wls g (sJ w 26 0 x.toNatClampNeg v) := wls_setL C.2.2.2.2.2.2.2.1 hO hkq (by rw [cell_out, sJ_row]) (fun f' i' hn => cell_sJ_a (Or.inr rfl) hn)
  rw [cell_out] at hkq
  exact va_last C.1 C.2.1 C.2.2.2.2.2.2.2.2.1 hW.2 (wls_Ds C.2.2.2.2.2.2.2.1 w) hA kq 1 hkq (gtys_at (by decide)) (ib_in hi) hd (fun H1 locs1 hP1 _ hS1 => kk p e s m args below meth c0 C lv r2 _ res hb hL (okS_tail (okS_tail (okS_tail hS))) H1 locs1 ls ⟨okW_sJ hW.1 _ _ _ _, by rw [← hset]; exact hP1⟩ hS1 hl)
theorem snd_ola (hO : HO g) (hd : decode Y.2.1 pc = .ok (.laload, 1)) (kk : Snd g l Y Q (pc + 1) D) : Snd g l Y Q pc (op_ola D) := by
  intro p e s m args below meth c0 C lv st w res h hL hS H locs ls hW hA hl
  obtain ⟨⟨x, r⟩, h1, ha⟩ := Option.bind_eq_some_iff.mp h
  obtain ⟨⟨⟨κ, i⟩, r2⟩, h2, ha⟩ := Option.bind_eq_some_iff.mp ha
  have e1 := pI_eq h1
  have e2 : r = .inr (.inr (some (κ, i))) :: r2 := pO_eq h2
  subst e2
  subst e1
  obtain ⟨hκ, hb1⟩ := beq_some ha
  obtain ⟨hi, hb⟩ := cond_some hb1
  clear hb1 ha
  dsimp only at hκ hb hi
  subst hκ
  have hi0 := one26 (okS_tail hS _ List.mem_cons_self)
  subst hi0
  obtain ⟨kq, hkq⟩ := wls_getL w hO
  rw [cell_out] at hkq
  exact va_lald C.1 C.2.1 C.2.2.2.2.2.2.2.2.1 hW.2 kq 1 hkq (gtys_at (by decide)) (ib_in hi) hd (kk p e s m args below meth c0 C lv (.inr (.inl (w.2.1 26 0 x.toNatClampNeg)) :: r2) w res hb hL (okS_J (okS_tail (okS_tail hS))) H locs ls hW hA hl)
end OUT
def roomH : Room := { frames := 31, cells := 1, slots := 6, locals := 1984 }
def M_L_rests : MD := (yL_rests, cL_rests, 7, some .int, roomH, 0, 0)
def M_L_rests1 : MD := (yL_rests, cL_rests, 7, some .int, roomH, 1, 6)
def hhL : List (Nat × Nat × Nat × Nat) := [(0, 14, 17, 13)]
def wsH : List Cond := .codeWith yL_rests cL_rests 7 (some .int) hhL :: gw
def xcK (K : Den Int32) (lv : Lv) (r : List VV) (q : Option Int32 × Wd) : Option (Int32 × Wd) := match q.1 with
  | some x => K lv (.inl x :: r) q.2
  | none => some (1, q.2)
def op_xrests (K : Den Int32) : Den Int32 := fun lv st w => match st with
  | .inl d :: .inl c :: .inl b :: .inl a :: .inr (.inr (some q)) :: r => cond (Nat.beq q.1 9 && Nat.ble (stw r) 8) ((f_X10_rests [.inr (.inr (some q)), .inl a, .inl b, .inl c, .inl d] w).bind fun z => xcK K lv r z) none
  | _ => none
def PXH (g : GG) (args : Array Value) (s : State) (below : List Frame) : Prop := TX (gS g s.heap.size) s s.heap ∧ ∃ m, s.methodNamed? yL_rests = some m ∧ s.frames = .invoking m args :: below
def QH (g : GG) : Array Value → State → List Frame → Int32 × Wd → State → Prop := fun args s below res t => PXH g args s below → MQ below (Qres g (some (.inl res.1)) res.2) args s 1 6 (gS g s.heap.size) t
section HELP
variable {g : GG} {l : Launch}
theorem preX_blind (sz : Nat) (as : List VV) (w : Wd) : FrameBlind (PreX g sz as w) := fun a U fr mk q => ⟨q.1, q.2.1, q.2.2.1, ST.same (u := U) rfl q.2.2.2.1, TX.same (u := U) rfl q.2.2.2.2⟩
theorem preX_at {s U : State} {H : Heap} {locs : List Loc} {as : List VV} {w : Wd} (hST : ST g s.heap.size s s.heap) (hTX : TX (gS g s.heap.size) s s.heap) (hW : WH g w H) (hA : va_S (gS g s.heap.size) s.heap H locs) (hU : U.heap = H) (hwm : s.WarmedH U.vm) : PreX g H.size as w (as.map (phys g)).toArray U := ⟨rfl, by rw [hU], by rw [hU]; exact hW, by rw [hU]; exact hST.warm hwm hA.2.1 hA.1, by rw [hU]; exact hTX.warm hwm hA.2.1 hA.1⟩
theorem goodR : GoodIn gw (wsU M_X10_rests) := fun w hw => by
  rcases List.mem_cons.mp hw with rfl | hw
  · exact ⟨kw_1173, gw_good kw_1173⟩
  · exact ⟨hw, gw_good hw⟩
theorem sub_gS {s : State} {H : Heap} {locs : List Loc} (hA : va_S (gS g s.heap.size) s.heap H locs) : ∀ q, gS g H.size q → gS g s.heap.size q := fun q hq => hq.elim Or.inl (fun z => Or.inr (Nat.le_trans hA.1 z))
theorem after_S {s : State} {H H1 : Heap} {locs L : List Loc} (hA : va_S (gS g s.heap.size) s.heap H locs) (hz : H.size ≤ H1.size) (hk : ∀ q : Nat, q < H.size → ¬ gS g H.size q → H1[q]? = H[q]?) (hL : ∀ q ∈ L, gS g H.size q.base) : va_S (gS g s.heap.size) s.heap H1 (locs ++ L) :=
  ⟨Nat.le_trans hA.1 hz, fun q h1 h2 => by rw [hk q (Nat.lt_of_lt_of_le h1 hA.1) (fun z => h2 (sub_gS hA q z))]; exact hA.2.1 q h1 h2, fun q hq => by
      rcases List.mem_append.mp hq with h | h
      · exact hA.2.2 q h
      · exact sub_gS hA _ (hL q h)⟩
theorem snd_xrests (hG : GOK g) (hst : l.stackTraces = false) {K : Den Int32} (kk : Snd g l M_L_rests1 (QH g) 12 K) : Snd g l M_L_rests (QH g) 9 (op_xrests K) := by
  intro p e s m args below meth c C lv st w res h hL hS H locs ls hW hA hl
  match st, h, hS with
  | .inl d :: .inl c3 :: .inl b :: .inl a :: .inr (.inr (some (κ, i))) :: r, h, hS =>
    obtain ⟨hb, h⟩ := cond_some h
    obtain ⟨b1, b2⟩ := (Bool.and_eq_true _ _).mp hb
    have hκ : κ = 9 := Nat.eq_of_beq_eq_true b1
    subst hκ
    obtain ⟨⟨o, w'⟩, h1, h⟩ := Option.bind_eq_some_iff.mp h
    have hSr : okS r := okS_tail (okS_tail (okS_tail (okS_tail (okS_tail hS))))
    have hi : i < cntV 9 := okS_tail (okS_tail (okS_tail (okS_tail hS))) _ List.mem_cons_self
    by_cases hP : PXH g args s below
    · have hP' := hP
      obtain ⟨hTX, m', hm, hf⟩ := hP
      have hts := C.2.2.2.2.2.1
      have hmet := mt_X10_rests (g := g) (l := l) (sz := H.size) hG hst h1 (okS_cons hi (okS_I (okS_I (okS_I (okS_I (fun v hv => by cases hv))))))
      have cb := callB_of (R := roomH) (rm := M_X10_rests.2.2.2.2.1) (mc := 1) (ms := 6) 4 hts goodR rfl rfl rfl (hts _ kw_1) (hts _ kw_1170) (by decide +kernel) ⟨Nat.le_of_ble_eq_true rfl, Nat.le_of_ble_eq_true rfl⟩
      have run := vx_runV (H := H) (locs := locs) (cells := 0) (slots := 0) (below := below) (meth := meth) (e := e) (b := g.1 9 i) (As := [.int a, .int b, .int c3, .int d]) (rest := r.map (phys g)) (g := F0 m 9 ls ((.inl d :: .inl c3 :: .inl b :: .inl a :: .inr (.inr (some (9, i))) :: r : List VV).map (phys g))) ⟨C.1, C.2.1, C.2.2.2.1, C.2.2.2.2.1, hts⟩ hmet ⟨cb, hts _ kw_1171, hts _ kw_1172⟩ ⟨preX_blind _ _ _, recv_obj C.2.2.2.2.2.2.2.1 C.2.2.2.2.2.2.2.2.1 FO_9 hW hi, fun U hU hwm => preX_at C.2.2.2.2.2.2.2.2 hTX hW hA hU hwm⟩ rfl rfl hl.1 rfl (lv_room (by rw [stw_eq]; exact Nat.le_of_ble_eq_true b2)) dL_rests_9 ⟨Nat.le_of_ble_eq_true rfl, Nat.le_of_ble_eq_true rfl⟩
      intro T hT X
      rcases run T hT X with ⟨v, st₀, t, T', L, h0, X', hL', e1, e2, ⟨x, ho, hv, hok, hW1, hz, hk⟩, stp⟩ | ⟨q, st₀, t, T', L, E, ce, h0, X', hL', e1, e2, ⟨ho, hE, hW1, hz, hk⟩, hce, hcv, hcl, stp⟩
      · cases hv
        have ho : o = some x := ho
        subst ho
        rw [h0] at hz hk
        have hA1 : va_S (gS g s.heap.size) s.heap T'.heap (locs ++ L) := after_S hA (by rw [e1]; exact hz) (fun q q1 q2 => by rw [e1]; exact hk q q1 q2) hL'
        obtain ⟨t2, a1, b1⟩ := kk p e s m args below meth c C lv (.inl x :: r) w' res h hL (okS_I hSr) T'.heap (locs ++ L) ls (by rw [e1]; exact hW1) hA1 hl T' rfl X'
        exact ⟨t2, stp t2 a1, b1⟩
      · have ho : o = none := ho
        subst ho
        subst hE
        cases h
        rw [h0] at hz hk
        have hA1 : va_S (gS g s.heap.size) s.heap T'.heap (locs ++ L) := after_S hA (by rw [e1]; exact hz) (fun q q1 q2 => by rw [e1]; exact hk q q1 q2) hL'
        have hmm : m = m' := by
          have := X.frames.symm.trans hf
          injection this with a b
          injection a
        subst hmm
        have htab : c.exceptionTable.toList = [] ++ (⟨0, 14, 17, 13⟩ : ExceptionTableEntry) :: [] := by
          obtain ⟨m9, meth9, c9, hn9, q1, q2, -, -, q6, -⟩ := Cond.codeWith_spec (hts _ kw_1168)
          cases Option.some.inj (hn9.symm.trans hm)
          cases Option.some.inj (q1.symm.trans X.method)
          cases Option.some.inj (q2.symm.trans X.code)
          rw [← table_eq c.exceptionTable.toList, q6]
          rfl
        have hcast : (Cond.castable NSE NSE).before args s = true := va_Nw.use rfl (hTX.1 _ (by simp [atB]))
        have hWH : WH g w' T'.heap := by rw [e1]; exact hW1
        have key : vx_W p l e roomH s m args below meth c T'.heap (locs ++ L) (0 + 1) (0 + 6) (QH g args s below (1, w')) (F0 m 9 ls (r.map (phys g))) q := by
          refine vx_catch (own := RL) (name := NSE) (E := NSE) (ce := ce) C.2.2.2.2.1 [] ⟨0, 14, 17, 13⟩ [] htab (fun z hz => by cases hz) rfl (by decide) (hts _ kw_1169) hcast (by rw [e1]; exact hce) hcv hcl ?_
          refine lv_astore (i := 6) C.1 C.2.1 dL_rests_17 hl (by decide) rfl (fun ls' hl' => ?_)
          refine lv_iconst (v := 1) C.1 C.2.1 dL_rests_19 (by decide) ?_
          exact W_mono (W.iret (Qc := Qres g (some (.inl 1)) w') (v := 1) (free := gS g s.heap.size) C.1 C.2.1 C.2.2.1 (fun t ht _ => ⟨rfl, fun v hv => by cases hv; trivial, by rw [ht]; exact hWH, hA1.F ht⟩) hA1.2.2 dL_rests_20 C.2.2.2.2.2.2.1) (fun t ht _ => ht)
        obtain ⟨t2, a1, b1⟩ := key T' rfl X'
        exact ⟨t2, stp.trans a1, b1⟩
    · intro T hT X
      exact ⟨T.setTop _, Steps.refl _, fun hq => absurd hq hP⟩
def HB12 : Den Int32 := op_i2l (op_osj (op_goto (op_ci 0 op_iret)))
def HB0 : Den Int32 := op_al 5 (op_ci 0 (op_al 0 (op_il 1 (op_il 2 (op_il 3 (op_il 4 (op_xrests HB12)))))))
theorem snd_hret : Snd g l M_L_rests1 (QH g) 22 op_iret := fun p e s m args below meth c C lv st w res h hL hS H locs ls hW hA hl => W_mono (snd_iret (Y := M_L_rests1) dL_rests_22 rfl p e s m args below meth c C lv st w res h hL hS H locs ls hW hA hl) (fun t ht _ => ht)
theorem sHB12 (hO : HO g) : Snd g l M_L_rests1 (QH g) 12 HB12 := snd_i2l dL_rests_12 (snd_osj hO dL_rests_13 (snd_goto dL_rests_14 rfl (snd_iconst (v := 0) dL_rests_21 rfl snd_hret)))
theorem sHB0 (hG : GOK g) (hO : HO g) (hst : l.stackTraces = false) : Snd g l M_L_rests (QH g) 0 HB0 := snd_al dL_rests_0 (snd_iconst (v := 0) dL_rests_2 rfl (snd_aln (i := 0) dL_rests_3 rfl (snd_iln (i := 1) dL_rests_4 rfl (snd_iln (i := 2) dL_rests_5 rfl (snd_iln (i := 3) dL_rests_6 rfl (snd_il dL_rests_7 (snd_xrests hG hst (sHB12 hO))))))))
def f_L_rests : List VV → Wd → Option (Int32 × Wd) := fn 7 HB0
theorem mt_L_rests (hG : GOK g) (hO : HO g) (hst : l.stackTraces = false) {sz : Nat} {as : List VV} {w : Wd} {res : Int32 × Wd} (hf : f_L_rests as w = some res) (hok : okS as) : Met l yL_rests wsH roomH (PreX g sz as w) (Qres g (some (.inl res.1)) res.2) 1 6 (gS g sz) := by
  obtain ⟨hle, hD⟩ := cond_some hf
  refine va_MetW (cc := cL_rests) (maxL := 7) (ret := some .int) (hh := hhL) rfl rfl ?_
  intro p e s m args below meth c s₁ B hml hv
  obtain ⟨rfl, hsz, hW, hST, hTX⟩ := hv
  subst hsz
  have hts : ∀ w ∈ gw, w.before _ s = true := fun w hw => atoms_spec (ws := wsH) B.pre w (List.mem_cons_of_mem _ hw)
  have C : Cx g M_L_rests p s m ((as.map (phys g)).toArray) meth c := ⟨B.exec, B.bytes, B.returns, hml, findClass_of_methodNamed B.named, hts, B.notSynchronized, hG, hST⟩
  have hl := lv_entry (as.map (phys g)) (n := 7) (by rw [slv_eq]; exact Nat.le_of_ble_eq_true hle)
  rw [lg_entry_eq]
  have hl2 := lv_has_mono (l' := plv g 0 (entL 7 as)) hl (fun q hq => by
    obtain ⟨k, v, hk, rfl⟩ := (plv_mem _ 0).mp hq
    exact entl_get as k 0 v (lget_app _ _ _ _ hk))
  have key := sHB0 hG hO hst p e s m _ below meth c C (entL 7 as) [] w res hD (okL_of fun k v hk => hok v (lget_entl_ok as k v (lget_app _ _ _ _ hk))) (fun v hv => by cases hv) s.heap [] _ hW va_S.rf hl2
  exact W_mono key (fun t ht => ht ⟨hTX, m, B.named, (Stand.of_body B).frames⟩)
end HELP
