/-! ===== that constructors' operations are sound ===== -/
def CQ (gb : GB) (as0 : List Nat) (cs' : List CE) : Array Value → State → Outcome → State → Prop := fun _ st oc t => oc = .returned none ∧ (∃ as1, (∀ a ∈ as1, st.heap.size ≤ a) ∧ CH gb (as0 ++ as1) cs' t.heap) ∧ va_F (cA as0 st.heap.size) st t
def QC (gb : GB) (Y : MD) (as0 : List Nat) : CQt := fun args s below res => MQ below (CQ gb as0 res) args s Y.2.2.2.2.1.cells Y.2.2.2.2.1.slots (cA as0 s.heap.size)
def CPre (gb : GB) (sz : Nat) (as0 : List Nat) (as : List VV) (cs : List CE) : Array Value → State → Prop := va_Pc (as.map (phys (gas gb as0))) (fun U => U.heap.size = sz ∧ CH gb as0 cs U.heap ∧ va_K gb.2.1 cls12 (gtys (gas gb [])) U ∧ (∀ w ∈ lw_tbl, isNest w = true → va_Nw w U) ∧ (∀ C ∈ aoL, va_AO C U))
def CMt (gb : GB) (l : Launch) (Y : MD) (f : List VV → List CE → Option (List CE)) : Prop :=
  ∀ (sz : Nat) (as0 : List Nat) (as : List VV) (cs res : List CE), f as cs = some res → okNS as0.length as → Met l Y.1 (wsU Y) Y.2.2.2.2.1 (CPre gb sz as0 as cs) (CQ gb as0 res) Y.2.2.2.2.1.cells Y.2.2.2.2.1.slots (cA as0 sz)
section CSND
variable {gb : GB} {l : Launch} {Y Z : MD} {Q : List Nat → CQt} {pc : Nat} {D : CD}
theorem csn_iconst {n : Int} {v : Int32} (hd : decode Y.2.1 pc = .ok (.iconst n, 1)) (hv : Int32.ofInt n = v) (k : CSn gb l Y Q (pc + 1) D) : CSn gb l Y Q pc (cop_ci v D) := by
  intro p e s m args below meth c C lv st w res h as0 as1 hN hL hS H locs ls hW hA hl
  exact lv_iconst C.1 C.2.1 hd hv (k p e s m args below meth c C lv (.inl v :: st) w res h as0 as1 hN hL (okNS_cons trivial hS) H locs ls hW hA hl)
theorem csn_bipush {n : Int} {v : Int32} (hd : decode Y.2.1 pc = .ok (.bipush n, 2)) (hv : (Int8.ofInt n).toInt32 = v) (k : CSn gb l Y Q (pc + 2) D) : CSn gb l Y Q pc (cop_ci v D) := by
  intro p e s m args below meth c C lv st w res h as0 as1 hN hL hS H locs ls hW hA hl
  exact lv_bipush C.1 C.2.1 hd hv (k p e s m args below meth c C lv (.inl v :: st) w res h as0 as1 hN hL (okNS_cons trivial hS) H locs ls hW hA hl)
theorem csn_sipush {n : Int} {v : Int32} (hd : decode Y.2.1 pc = .ok (.sipush n, 3)) (hv : (Int16.ofInt n).toInt32 = v) (k : CSn gb l Y Q (pc + 3) D) : CSn gb l Y Q pc (cop_ci v D) := by
  intro p e s m args below meth c C lv st w res h as0 as1 hN hL hS H locs ls hW hA hl
  exact lv_sipush C.1 C.2.1 hd hv (k p e s m args below meth c C lv (.inl v :: st) w res h as0 as1 hN hL (okNS_cons trivial hS) H locs ls hW hA hl)
theorem csn_ldc2 {index : Nat} {v : Int64} (hd : decode Y.2.1 pc = .ok (.ldc2_w index, 3)) (hw : Cond.constantLong Y.1.cls index v ∈ gw) (k : CSn gb l Y Q (pc + 3) D) : CSn gb l Y Q pc (cop_cl v D) := by
  intro p e s m args below meth c C lv st w res h as0 as1 hN hL hS H locs ls hW hA hl
  exact lv_ldc2 C.1 C.2.1 C.2.2.2.2.1 (C.2.2.2.2.2.1 _ hw) hd (k p e s m args below meth c C lv (.inr (.inl v) :: st) w res h as0 as1 hN hL (okNS_cons trivial hS) H locs ls hW hA hl)
theorem csn_iln {j : Fin 4} {i : Nat} (hd : decode Y.2.1 pc = .ok (.iload_n j, 1)) (hi : (j : Nat) = i) (k : CSn gb l Y Q (pc + 1) D) : CSn gb l Y Q pc (cop_il i D) := by
  intro p e s m args below meth c C lv st w res h as0 as1 hN hL hS H locs ls hW hA hl
  obtain ⟨x, h1, h2⟩ := Option.bind_eq_some_iff.mp h
  exact lv_iload_n C.1 C.2.1 hd hi (lv_has_get hl (lgI_eq h1)) (k p e s m args below meth c C lv (.inl x :: st) w res h2 as0 as1 hN hL (okNS_cons trivial hS) H locs ls hW hA hl)
theorem csn_aln {j : Fin 4} {i : Nat} (hd : decode Y.2.1 pc = .ok (.aload_n j, 1)) (hi : (j : Nat) = i) (k : CSn gb l Y Q (pc + 1) D) : CSn gb l Y Q pc (cop_al i D) := by
  intro p e s m args below meth c C lv st w res h as0 as1 hN hL hS H locs ls hW hA hl
  obtain ⟨x, h1, h2⟩ := Option.bind_eq_some_iff.mp h
  have h3 := lv_has_get hl (lgR_eq h1)
  have h4 := okNL_get hL (lgR_eq h1)
  cases x with
  | none => exact lv_aload_nN C.1 C.2.1 hd hi h3 (k p e s m args below meth c C lv (.inr (.inr none) :: st) w res h2 as0 as1 hN hL (okNS_cons h4 hS) H locs ls hW hA hl)
  | some q => exact lv_aload_n C.1 C.2.1 hd hi h3 (k p e s m args below meth c C lv (.inr (.inr (some q)) :: st) w res h2 as0 as1 hN hL (okNS_cons h4 hS) H locs ls hW hA hl)
theorem csn_isn {j : Fin 4} {i : Nat} (hd : decode Y.2.1 pc = .ok (.istore_n j, 1)) (hi : (j : Nat) = i) (hn : i < Y.2.2.1) (k : CSn gb l Y Q (pc + 1) D) : CSn gb l Y Q pc (cop_is i D) := by
  intro p e s m args below meth c C lv st w res h as0 as1 hN hL hS H locs ls hW hA hl
  obtain ⟨⟨x, r⟩, h1, h2⟩ := Option.bind_eq_some_iff.mp h
  have e1 := pI_eq h1
  subst e1
  exact lv_istore_n C.1 C.2.1 hd hi hl hn rfl (fun ls' hl' => k p e s m args below meth c C (ls1 lv i (.inl x)) r w res h2 as0 as1 hN (okNL_ls1 hL i trivial) (okNS_tail hS) H locs ls' hW hA (lv_has_mono hl' plv_ls1))
theorem csn_inc {i : Nat} {n : Int} {v : Int32} (hd : decode Y.2.1 pc = .ok (.iinc i n, 3)) (hv : Int32.ofInt n = v) (hn : i < Y.2.2.1) (k : CSn gb l Y Q (pc + 3) D) : CSn gb l Y Q pc (cop_inc i v D) := by
  intro p e s m args below meth c C lv st w res h as0 as1 hN hL hS H locs ls hW hA hl
  obtain ⟨x, h1, h2⟩ := Option.bind_eq_some_iff.mp h
  subst hv
  obtain ⟨j, hj⟩ := List.getElem?_of_mem ((plv_mem (g := gas gb (as0 ++ as1)) lv 0).mpr ⟨i, .inl x, lgI_eq h1, by rw [Nat.zero_add]⟩)
  exact lv_iinc C.1 C.2.1 hd hl hj rfl hn rfl (fun ls' hl' => k p e s m args below meth c C (ls1 lv i (.inl (x + Int32.ofInt n))) st w res h2 as0 as1 hN (okNL_ls1 hL i trivial) hS H locs ls' hW hA (lv_has_mono hl' plv_ls1))
theorem csn_dup (hd : decode Y.2.1 pc = .ok (.dup, 1)) (k : CSn gb l Y Q (pc + 1) D) : CSn gb l Y Q pc (cop_dup D) := by
  intro p e s m args below meth c C lv st w res h as0 as1 hN hL hS H locs ls hW hA hl
  obtain ⟨⟨x, r⟩, h1, h2⟩ := Option.bind_eq_some_iff.mp h
  obtain ⟨rfl, hc⟩ := pV_eq h1
  exact lv_dup C.1 C.2.1 hd (hc _) (k p e s m args below meth c C lv (x :: x :: r) w res h2 as0 as1 hN hL (okNS_cons (hS _ List.mem_cons_self) hS) H locs ls hW hA hl)
theorem csn_goto {off : Int} {tgt : Nat} (hd : decode Y.2.1 pc = .ok (.goto off, 3)) (ht : (pc : Int) + off = (tgt : Int)) (k : CSn gb l Y Q tgt D) : CSn gb l Y Q pc D := by
  intro p e s m args below meth c C lv st w res h as0 as1 hN hL hS H locs ls hW hA hl
  exact lv_goto C.1 C.2.1 hd ht (k p e s m args below meth c C lv st w res h as0 as1 hN hL hS H locs ls hW hA hl)
theorem csn_none : CSn gb l Y Q pc (fun _ _ _ => none) := by
  intro p e s m args below meth c C lv st w res h
  cases h
theorem csn_icge {off : Int} {tgt : Nat} {T E : CD} (hd : decode Y.2.1 pc = .ok (.if_icmp .ge off, 3)) (ht : (pc : Int) + off = (tgt : Int)) (kt : CSn gb l Y Q tgt T) (kf : CSn gb l Y Q (pc + 3) E) : CSn gb l Y Q pc (cop_icge T E) := by
  intro p e s m args below meth c C lv st w res h as0 as1 hN hL hS H locs ls hW hA hl
  obtain ⟨⟨y, r⟩, h1, ha⟩ := Option.bind_eq_some_iff.mp h
  obtain ⟨⟨x, r2⟩, h2, hb⟩ := Option.bind_eq_some_iff.mp ha
  have e1 := pI_eq h1
  have e2 : r = .inl x :: r2 := pI_eq h2
  subst e2
  subst e1
  dsimp only at hb
  exact lv_icmp_ge C.1 C.2.1 hd ht (fun hc => kt p e s m args below meth c C lv r2 w res (by rw [if_pos hc] at hb; exact hb) as0 as1 hN hL (okNS_tail (okNS_tail hS)) H locs ls hW hA hl) (fun hc => kf p e s m args below meth c C lv r2 w res (by rw [if_neg hc] at hb; exact hb) as0 as1 hN hL (okNS_tail (okNS_tail hS)) H locs ls hW hA hl)
theorem csn_icgt {off : Int} {tgt : Nat} {T E : CD} (hd : decode Y.2.1 pc = .ok (.if_icmp .gt off, 3)) (ht : (pc : Int) + off = (tgt : Int)) (kt : CSn gb l Y Q tgt T) (kf : CSn gb l Y Q (pc + 3) E) : CSn gb l Y Q pc (cop_icgt T E) := by
  intro p e s m args below meth c C lv st w res h as0 as1 hN hL hS H locs ls hW hA hl
  obtain ⟨⟨y, r⟩, h1, ha⟩ := Option.bind_eq_some_iff.mp h
  obtain ⟨⟨x, r2⟩, h2, hb⟩ := Option.bind_eq_some_iff.mp ha
  have e1 := pI_eq h1
  have e2 : r = .inl x :: r2 := pI_eq h2
  subst e2
  subst e1
  dsimp only at hb
  exact lv_icmp_gt C.1 C.2.1 hd ht (fun hc => kt p e s m args below meth c C lv r2 w res (by rw [if_pos hc] at hb; exact hb) as0 as1 hN hL (okNS_tail (okNS_tail hS)) H locs ls hW hA hl) (fun hc => kf p e s m args below meth c C lv r2 w res (by rw [if_neg hc] at hb; exact hb) as0 as1 hN hL (okNS_tail (okNS_tail hS)) H locs ls hW hA hl)
/-- a cell comes -/
theorem CH_push {as : List Nat} {cs : List CE} {H H1 : Heap} {q : Nat} {c : CE} (h : CH gb as cs H) (hq : H.size = q) (ho : ∀ x, x < H.size → H1[x]? = H[x]?) (hc : okC (cs.length + 1) c) (hat : va_at gb.2.1 cls12 (q, ceE gb (as ++ [q]) c) H1) : CH gb (as ++ [q]) (cs ++ [c]) H1 := by
  obtain ⟨h1, h2, h3, h4⟩ := h
  refine ⟨by simp [h1], fun x hx => ?_, ?_, ?_⟩
  · rw [List.length_append, List.length_singleton]
    rcases List.mem_append.mp hx with hx | hx
    · exact okC_mono (Nat.le_succ _) (h2 x hx)
    · rw [List.mem_singleton.mp hx]; exact hc
  · rw [wz_app h1 h2 hc]
    refine (h3.kept fun k x hx => ho x.1 ((h3 k x hx).lt)).app (fun k x hx => ?_)
    have hz : k < 1 := (List.getElem?_eq_some_iff.mp hx).1
    rw [show k = 0 by omega] at hx
    cases hx
    exact hat
  · rw [wz_app h1 h2 hc]
    exact h4.push h3 hq.symm trivial
/-- a cell is written -/
theorem CH_set {as : List Nat} {cs : List CE} {H H1 : Heap} {k : Nat} {c c' : CE} (h : CH gb as cs H) (hk : cs[k]? = some c) (hc : okC cs.length c') (hP : va_P gb.2.1 cls12 ((wz gb as cs).set k (as.getD k 0, ceE gb as c')) H1) {A : Nat → Prop} (hD : va_D A ((wz gb as cs).set k (as.getD k 0, ceE gb as c'))) : CH gb as (cs.set k c') H1 := by
  rw [wz_set hk] at hP hD
  refine ⟨by rw [List.length_set]; exact h.1, fun x hx => ?_, hP, ⟨hD.1, fun _ _ _ => trivial⟩⟩
  rw [List.length_set]
  rcases List.mem_or_eq_of_mem_set hx with hx | hx
  · exact h.2.1 x hx
  · rw [hx]; exact hc
theorem dfl_at : ∀ c, c < 11 → ∀ k, k < NS.getD c 0 → ((FT.getD c []).map dfl)[k]? = some (dfl (ftag c k)) := by
  intro c hc k hk
  have h1 : ∀ c, c < 11 → (FT.getD c []).length = NS.getD c 0 := by decide +kernel
  have h2 : k < (FT.getD c []).length := by rw [h1 c hc]; exact hk
  rw [List.getElem?_map]
  unfold ftag
  have h3 : (FT.getD c [])[k]? = some (FT.getD c [])[k] := List.getElem?_eq_getElem h2
  have h4 : (FT.getD c []).getD k 99 = (FT.getD c [])[k] := by
    rw [List.getD_eq_getElem?_getD, h3]
    rfl
  rw [h3, h4]
  rfl
theorem csn_new {index ci N : Nat} {R0 : String} {T : u_T} {ty0 : Nat → FieldType} (hd : decode Y.2.1 pc = .ok (.new index, 3)) (hF : FOK ci R0 T N) (hty : ∀ k, k < N → parseFieldDescriptor (T k).2.2.1 = some (ty0 k)) (hdf : ∀ k, k < N → defaultValue (ty0 k) = phys (gas gb []) (dfl (ftag ci k))) (hcl : Cond.classLink Y.1.cls index R0 ∈ gw) (hin : Cond.instantiable R0 N ∈ gw) (hini : Cond.initialized R0 ∈ gw) (k : CSn gb l Y Q (pc + 3) D) : CSn gb l Y Q pc (cop_new Y ci D) := by
  intro p e s m args below meth c C lv st w res h as0 as1 hN hL hS H locs ls hW hA hl
  obtain ⟨hb, h⟩ := cond_some h
  obtain ⟨b1, b2⟩ := (Bool.and_eq_true _ _).mp hb
  have hts := C.2.2.2.2.2.1
  obtain ⟨hc11, hc, hNs, hlay⟩ := hF
  have hKn := C.2.2.2.2.2.2.2.2.1.1 ci _ hc
  rw [hNs] at b2 h
  have hlen := hW.1
  refine W.newcK C.1 C.2.1 C.2.2.2.2.1 (hts _ hcl) (hts _ hin) (hts _ hini) rfl hd (Nat.le_of_ble_eq_true b1) (Nat.le_of_ble_eq_true b2) hKn.2.1 rfl fun H1 kC hkC e1 z1 o1 => ?_
  have hN2 : ∀ a ∈ as1 ++ [H.size], s.heap.size ≤ a := fun a ha => (List.mem_append.mp ha).elim (hN a) (fun z => by rw [List.mem_singleton.mp z]; exact hA.1)
  have hnew : CH gb (as0 ++ as1 ++ [H.size]) (w.1 ++ [.inl (ci, (FT.getD ci []).map dfl)]) H1 := by
    refine CH_push hW rfl o1 ?_ ?_
    · intro v hv
      obtain ⟨t, -, rfl⟩ := List.mem_map.mp hv
      unfold dfl
      split <;> trivial
    · refine ⟨_, hc, (u_born ty0 hts hlay hKn hkC e1 hty).to fun j hj => ?_⟩
      rw [hdf j hj]
      have h3 := dfl_at ci hc11 j (by rw [hNs]; exact hj)
      have h4 : vp_V (((FT.getD ci []).map dfl).map (phys (gas gb (as0 ++ as1 ++ [H.size])))) j = phys (gas gb (as0 ++ as1 ++ [H.size])) (dfl (ftag ci j)) := by
        unfold vp_V
        rw [List.getD_eq_getElem?_getD, List.getElem?_map, h3]
        rfl
      refine Eq.trans ?_ h4.symm
      rcases (show dfl (ftag ci j) = .inl 0 ∨ dfl (ftag ci j) = .inr (.inl 0) ∨ dfl (ftag ci j) = .inr (.inr none) by unfold dfl; split <;> simp) with q | q | q <;> rw [q] <;> rfl
  have hl2 : lv_has ls Y.2.2.1 (plv (gas gb (as0 ++ (as1 ++ [H.size]))) 0 lv) := by rw [← List.append_assoc, plv_ext hL]; exact hl
  have key := k p e s m args below meth c C lv (.inr (.inr (some (0, w.1.length))) :: st) _ res h as0 (as1 ++ [H.size]) hN2 (okNL_mono (by simp) hL) (okNS_cons (by show w.1.length < _; rw [← hlen]; simp) (okNS_mono (by simp) hS)) H1 locs ls (by rw [← List.append_assoc]; exact hnew) ⟨Nat.le_trans hA.1 (by omega), fun x h1 h2 => (o1 x (Nat.lt_of_lt_of_le h1 hA.1)).trans (hA.2.1 x h1 h2), hA.2.2⟩ hl2
  rw [List.map_cons, ← List.append_assoc, map_phys_ext hS] at key
  have e9 : phys (gas gb (as0 ++ as1 ++ [H.size])) (.inr (.inr (some (0, w.1.length)))) = .ref H.size := by
    show Value.ref ((as0 ++ as1 ++ [H.size]).getD w.1.length 0) = _
    rw [← hlen]
    simp [List.getD]
  rw [e9] at key
  exact key
theorem csn_na {atype : ArrayType} {j : Nat} (hd : decode Y.2.1 pc = .ok (.newarray atype, 2)) (hj : j < 4) (hty : newarray.typeOf atype = tyE j) (hw : Cond.arrayClass (newarray.typeOf atype) ∈ gw) (hcb : componentBytes (newarray.typeOf atype) ≤ 8) (k : CSn gb l Y Q (pc + 2) D) : CSn gb l Y Q pc (cop_na Y j D) := by
  intro p e s m args below meth c C lv st w res h as0 as1 hN hL hS H locs ls hW hA hl
  obtain ⟨⟨n, r⟩, h1, ha⟩ := Option.bind_eq_some_iff.mp h
  have e1 := pI_eq h1
  subst e1
  obtain ⟨hb, h⟩ := cond_some ha
  dsimp only at hb h
  obtain ⟨b1, b4⟩ := (Bool.and_eq_true _ _).mp hb
  obtain ⟨b1, b3⟩ := (Bool.and_eq_true _ _).mp b1
  obtain ⟨b1, b2⟩ := (Bool.and_eq_true _ _).mp b1
  have hts := C.2.2.2.2.2.1
  have hlen := hW.1
  have hS := okNS_tail hS
  have hn4 := Nat.le_of_ble_eq_true b4
  refine va_newaK C.1 C.2.1 (hts _ hw) rfl hd rfl (of_decide_eq_true b3) rfl (by have := Nat.mul_le_mul hn4 hcb; dsimp only; omega) (Nat.le_of_ble_eq_true b1) (Nat.le_of_ble_eq_true b2) rfl fun H1 cA q1 z1 o1 hAr hNm => ?_
  have hN2 : ∀ a ∈ as1 ++ [H.size], s.heap.size ≤ a := fun a ha => (List.mem_append.mp ha).elim (hN a) (fun z => by rw [List.mem_singleton.mp z]; exact hA.1)
  have hcy : cA = gb.2.2 j := by
    have h5 := (C.2.2.2.2.2.2.2.2.1.2 j _ (gtys_at (g := gas gb []) (by omega))).2
    rw [hty] at hNm
    have h6 : s.vm.findClass ("[" ++ (tyE j).toString) = some (gb.2.2 j) := by
      have h7 : j = 0 ∨ j = 1 ∨ j = 2 ∨ j = 3 := by omega
      rcases h7 with rfl | rfl | rfl | rfl <;> exact h5
    rw [hNm] at h6
    exact Option.some.inj h6
  have hnew : CH gb (as0 ++ as1 ++ [H.size]) (w.1 ++ [.inr (j, n.toNatClampNeg, [])]) H1 := by
    refine CH_push hW rfl o1 (fun q hq => by cases hq) ?_
    rw [hty, hcy] at q1
    have h7 : j = 0 ∨ j = 1 ∨ j = 2 ∨ j = 3 := by omega
    rcases h7 with rfl | rfl | rfl | rfl <;> exact q1
  have hl2 : lv_has ls Y.2.2.1 (plv (gas gb (as0 ++ (as1 ++ [H.size]))) 0 lv) := by rw [← List.append_assoc, plv_ext hL]; exact hl
  have key := k p e s m args below meth c C lv (.inr (.inr (some (0, w.1.length))) :: r) _ res h as0 (as1 ++ [H.size]) hN2 (okNL_mono (by simp) hL) (okNS_cons (by show w.1.length < _; rw [← hlen]; simp) (okNS_mono (by simp) hS)) H1 locs ls (by rw [← List.append_assoc]; exact hnew) ⟨Nat.le_trans hA.1 (by omega), fun x h1 h2 => (o1 x (Nat.lt_of_lt_of_le h1 hA.1)).trans (hA.2.1 x h1 h2), hA.2.2⟩ hl2
  rw [List.map_cons, ← List.append_assoc, map_phys_ext hS] at key
  have e9 : phys (gas gb (as0 ++ as1 ++ [H.size])) (.inr (.inr (some (0, w.1.length)))) = .ref H.size := by
    show Value.ref ((as0 ++ as1 ++ [H.size]).getD w.1.length 0) = _
    rw [← hlen]
    simp [List.getD]
  rw [e9] at key
  exact key
theorem csn_nq {index j : Nat} {R0 : String} (hd : decode Y.2.1 pc = .ok (.anewarray index, 3)) (hj : 4 ≤ j ∧ j < 8) (hty : tyE j = .object R0) (hcl : Cond.classLink Y.1.cls index R0 ∈ gw) (hov : R0 ∈ aoL) (k : CSn gb l Y Q (pc + 3) D) : CSn gb l Y Q pc (cop_na Y j D) := by
  intro p e s m args below meth c C lv st w res h as0 as1 hN hL hS H locs ls hW hA hl
  obtain ⟨⟨n, r⟩, h1, ha⟩ := Option.bind_eq_some_iff.mp h
  have e1 := pI_eq h1
  subst e1
  obtain ⟨hb, h⟩ := cond_some ha
  dsimp only at hb h
  obtain ⟨b1, b4⟩ := (Bool.and_eq_true _ _).mp hb
  obtain ⟨b1, b3⟩ := (Bool.and_eq_true _ _).mp b1
  obtain ⟨b1, b2⟩ := (Bool.and_eq_true _ _).mp b1
  have hts := C.2.2.2.2.2.1
  have hlen := hW.1
  have hS := okNS_tail hS
  have hn4 := Nat.le_of_ble_eq_true b4
  refine W.anew C.1 C.2.1 C.2.2.2.2.1 (hts _ hcl) (va_AO.use (C.2.2.2.2.2.2.2.2.2.2 _ hov)) rfl hd rfl (of_decide_eq_true b3) (by dsimp only; omega) (Nat.le_of_ble_eq_true b1) (Nat.le_of_ble_eq_true b2) fun cA kA comp f1 f2 f3 f4 => ?_
  generalize hH1 : H.push ({ cls := cA, slots := Array.replicate n.toNatClampNeg .null, vm := .none } : Cell) = H1
  have z1 : H1.size = H.size + 1 := by rw [← hH1, Array.size_push]
  have q1 : H1[H.size]? = some (arrV cA n.toNatClampNeg (fun _ => .null)) := by rw [← hH1, Array.getElem?_push_size, ← arrV_new]
  have o1 : ∀ q : Nat, q < H.size → H1[q]? = H[q]? := fun q hq => by rw [← hH1, Array.getElem?_push, if_neg (Nat.ne_of_lt hq)]
  have hN2 : ∀ a ∈ as1 ++ [H.size], s.heap.size ≤ a := fun a ha => (List.mem_append.mp ha).elim (hN a) (fun z => by rw [List.mem_singleton.mp z]; exact hA.1)
  have hcy : cA = gb.2.2 j := by
    have h5 := (C.2.2.2.2.2.2.2.2.1.2 j _ (gtys_at (g := gas gb []) (by omega))).2
    rw [hty] at h5
    obtain ⟨kA', comp', -, -, -, h6⟩ := h5
    rw [f1] at h6
    exact Option.some.inj h6
  have hnew : CH gb (as0 ++ as1 ++ [H.size]) (w.1 ++ [.inr (j, n.toNatClampNeg, [])]) H1 := by
    refine CH_push hW rfl o1 (fun q hq => by cases hq) ?_
    rw [hcy] at q1
    have h7 : j = 4 ∨ j = 5 ∨ j = 6 ∨ j = 7 := by omega
    rcases h7 with rfl | rfl | rfl | rfl <;> exact q1
  have hl2 : lv_has ls Y.2.2.1 (plv (gas gb (as0 ++ (as1 ++ [H.size]))) 0 lv) := by rw [← List.append_assoc, plv_ext hL]; exact hl
  have key := k p e s m args below meth c C lv (.inr (.inr (some (0, w.1.length))) :: r) _ res h as0 (as1 ++ [H.size]) hN2 (okNL_mono (by simp) hL) (okNS_cons (by show w.1.length < _; rw [← hlen]; simp) (okNS_mono (by simp) hS)) H1 locs ls (by rw [← List.append_assoc]; exact hnew) ⟨Nat.le_trans hA.1 (by omega), fun x h1 h2 => (o1 x (Nat.lt_of_lt_of_le h1 hA.1)).trans (hA.2.1 x h1 h2), hA.2.2⟩ hl2
  rw [List.map_cons, ← List.append_assoc, map_phys_ext hS] at key
  have e9 : phys (gas gb (as0 ++ as1 ++ [H.size])) (.inr (.inr (some (0, w.1.length)))) = .ref H.size := by
    show Value.ref ((as0 ++ as1 ++ [H.size]).getD w.1.length 0) = _
    rw [← hlen]
    simp [List.getD]
  rw [e9] at key
  exact key
end CSND
