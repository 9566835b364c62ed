/-! ===== the law from its entry ===== -/
theorem pos_D : fp nmT (9, 0) = 0 := by decide +kernel
theorem len_D : csD.length = 221 := by decide +kernel
def adL : List Cond := [.instantiable RX10 15, .instantiable RX11 29, .initialized RX10, .initialized RX11]
theorem ad_ok : ∀ w ∈ adL, w ∈ gw := gwAll (by decide +kernel)
theorem cpreM_blind {gb : GB} {ex : Nat → Nat → Nat} (sz : Nat) (as0 : List Nat) : FrameBlind (CPreM gb ex sz as0) := fun a U fr mk q => ⟨q.1, q.2.1, q.2.2.1, STb.same (u := U) rfl q.2.2.2.1, fun C hC => va_AO.moved (Vm.Alike.refl U.vm) (q.2.2.2.2.1 C hC), q.2.2.2.2.2⟩
theorem getD_mid {a : List Nat} {x : Nat} {r : List Nat} : ((a ++ [x]) ++ r).getD a.length 0 = x := by
  rw [List.getD_eq_getElem?_getD, List.getElem?_append_left (by simp), List.getElem?_append_right (Nat.le_refl _)]
  simp
theorem CH_nil {gb : GB} {H : Heap} : CH gb [] [] H := ⟨rfl, (fun c h => absurd h List.not_mem_nil), (fun k q h => by simp [wz] at h), (fun i j p q h => by simp [wz] at h), (fun k q h => by simp [wz] at h)⟩
theorem whole_start {p : Program} {e : Env} {s : State} {m : MethodId} {below : List Frame} {meth : Method} {c : Code} (l : Launch) (hflags : l.flags = flags0) {b L : Nat} {xs : Nat → Int32} (hL : L ≤ 448) (C0 : lw_At p s m meth c b L xs) : W p l e room_1 s m #[Value.ref b] below meth c s.heap [] 0 0 (lw_Z below #[Value.ref b] s) (entryFrame m ([Value.ref b] : List Value).toArray 7) := by
  obtain ⟨hx, hb, hr, hml, hown, hts, hX, hbl, hlocks, hgv⟩ := id C0
  have hst : l.stackTraces = false := by
    unfold Launch.stackTraces
    rw [hflags]
    simp [flags0]
  have hgw : ∀ w ∈ gw, w.before #[Value.ref b] s = true := fun w hw => hts w (List.mem_filter.mp hw).1
  obtain ⟨gb, ad, aK, aS, aV, hg0, hSTb, hao, hTX⟩ := start_ok hts hgv
  obtain ⟨w1, hres, hINV⟩ := base
  have hK := (hSTb b 0).1
  have hNe := (hSTb b 0).2.1
  have hl := lv_entry ([.ref b]) (n := 7) (Nat.le_of_ble_eq_true rfl)
  rw [lg_entry_eq]
  generalize (lg_sl ([.ref b]) ++ List.replicate (7 - (lg_sl ([.ref b])).length) Slot.unset).toArray = ls at hl ⊢
  have hl : lv_has ls 7 [(0, .ref b)] := hl
  -- the class's object
  refine W_newC (gb := gb) (own := RL) (as := []) (cs := []) hx hb hown hgw hK dL_law_0 FO_9 tyX10_ok (dvp dv_9) kw_26 (ad_ok _ (List.mem_of_getElem? (i := 0) rfl)) (ad_ok _ (List.mem_of_getElem? (i := 2) rfl)) CH_nil (Nat.le_of_ble_eq_true rfl) (Nat.le_of_ble_eq_true rfl) (fun H1 hC1 z1 o1 => ?_)
  have hS1 := S_new (va_S.rf (H0 := s.heap)) z1 o1
  refine lv_dup hx hb dL_law_3 rfl ?_
  have hM1 := mt_X10_init (gb := gb) (l := l) H1.size [s.heap.size] [rf0 0] [ob0 9] csD ev_D (fun v hv => by
    rcases List.mem_singleton.mp hv with q
    subst q
    show 0 < 1
    decide)
  refine W_run (va_runI (As := []) (rest := [.ref s.heap.size]) ⟨hx, hb, hml, hown, hgw⟩ hM1 ⟨callB_of (R := room_1) (rm := M_X10_init.2.2.2.2.1) (mc := 220) (ms := 4617) 0 hgw (goodC co_X10_init) rfl rfl rfl (hgw _ kw_1) (hgw _ kw_28) (by decide +kernel) ⟨Nat.le_of_ble_eq_true rfl, Nat.le_of_ble_eq_true rfl⟩, rfl, hgw _ kw_29⟩ ⟨cpre_blind _ _ _ _, fun U hU hwm => ⟨rfl, by rw [hU], by rw [hU]; exact hC1, va_K.moved hwm.alike hK, nest_warm hwm hNe, fun C hC => va_AO.moved hwm.alike (hao C hC)⟩⟩ rfl rfl hl.1 rfl (lv_room (Nat.le_of_ble_eq_true rfl)) dL_law_4 ⟨Nat.le_of_ble_eq_true rfl, Nat.le_of_ble_eq_true rfl⟩) (fun v t0 t2 L2 q0 qL qQ => ?_)
  obtain ⟨hv, ⟨as1, hN1, hC2⟩, hF2⟩ := qQ
  cases hv
  rw [q0] at hN1
  have ha1 : ∀ a ∈ [s.heap.size] ++ as1, s.heap.size ≤ a := fun a ha => (List.mem_append.mp ha).elim (fun z => by rw [List.mem_singleton.mp z]; exact Nat.le_refl _) (fun z => Nat.le_trans hS1.1 (hN1 a z))
  have hS2 := (S_run (as := [s.heap.size]) hS1 q0 (fun a ha => ha1 a (List.mem_append_left _ ha)) hF2 qL).2
  have hlen1 : ([s.heap.size] ++ as1).length = 221 := by rw [hC2.1, len_D]
  generalize t2.heap = H2 at hC2 hS2 ⊢
  refine lv_astore_n (lv' := [(1, .ref s.heap.size), (0, .ref b)]) hx hb dL_law_7 rfl hl (by decide) rfl (fun ls hl => ?_)
  -- the reference's object
  refine W_newC (gb := gb) (own := RL) hx hb hown hgw hK dL_law_8 FO_10 tyX11_ok (dvp dv_10) kw_1257 (ad_ok _ (List.mem_of_getElem? (i := 1) rfl)) (ad_ok _ (List.mem_of_getElem? (i := 3) rfl)) hC2 (Nat.le_of_ble_eq_true rfl) (Nat.le_of_ble_eq_true rfl) (fun H3 hC3 z3 o3 => ?_)
  have hS3 := S_new hS2 z3 o3
  have ha3 : ∀ a ∈ [s.heap.size] ++ as1 ++ [H2.size], s.heap.size ≤ a := fun a ha => (List.mem_append.mp ha).elim (ha1 a) (fun z => by rw [List.mem_singleton.mp z]; exact hS2.1)
  have e221 : ([s.heap.size] ++ as1 ++ [H2.size]).getD 221 0 = H2.size := by
    have := getD_mid (a := [s.heap.size] ++ as1) (x := H2.size) (r := [])
    rw [hlen1, List.append_nil] at this
    exact this
  refine lv_dup hx hb dL_law_11 rfl ?_
  have hM3 := mt_X11_init hres (gb := gb) (l := l) (exF ad aK aS aV b 0) H3.size (as0 := [s.heap.size] ++ as1 ++ [H2.size]) (fun a ha => by rw [hg0]; exact ha3 a ha) (by rw [List.length_append, hlen1]; rfl)
  refine W_run (va_runI (b := H2.size) (As := []) (rest := [.ref H2.size]) ⟨hx, hb, hml, hown, hgw⟩ hM3 ⟨callB_of (R := room_1) (rm := M_X11_init.2.2.2.2.1) (mc := 18) (ms := 11167) 0 hgw (goodC co_X11_init) rfl rfl rfl (hgw _ kw_11) (hgw _ kw_1258) (by decide +kernel) ⟨Nat.le_of_ble_eq_true rfl, Nat.le_of_ble_eq_true rfl⟩, rfl, hgw _ kw_1259⟩ ⟨cpreM_blind _ _, fun U hU hwm => ⟨by rw [e221], by rw [hU], by rw [hU]; exact hC3, by rw [hU]; exact STb.warm (hSTb b 0) hwm (fun a h1 h2 => hS3.2.1 a h1 (fun z => h2 (by rw [hg0]; exact z))), fun C hC => va_AO.moved hwm.alike (hao C hC), by rw [hg0]; exact hS3.1⟩⟩ rfl rfl hl.1 rfl (lv_room (Nat.le_of_ble_eq_true rfl)) dL_law_12 ⟨Nat.le_of_ble_eq_true rfl, Nat.le_of_ble_eq_true rfl⟩) (fun v t0 t4 L4 q0 qL qQ => ?_)
  obtain ⟨hv, ⟨as2, hN2, hlen, hnd, hW4⟩, hF4⟩ := qQ
  cases hv
  rw [q0] at hN2
  have hS4 := (S_run hS3 q0 ha3 hF4 qL).2
  have ha4 : ∀ a ∈ [s.heap.size] ++ as1 ++ [H2.size] ++ as2, s.heap.size ≤ a := fun a ha => (List.mem_append.mp ha).elim (ha3 a) (fun z => Nat.le_trans hS3.1 (hN2 a z))
  generalize t4.heap = H4 at hW4 hS4 ⊢
  refine lv_astore_n (lv' := [(2, .ref H2.size), (1, .ref s.heap.size), (0, .ref b)]) hx hb dL_law_15 rfl hl (by decide) rfl (fun ls hl => ?_)
  -- the law's own row
  refine lv_iconst (v := 1) hx hb dL_law_16 (by decide) ?_
  refine va_newaK (atype := .long) (N := 1) hx hb (hgw _ kw_126) rfl dL_law_17 rfl (by decide) rfl (by decide) (Nat.le_of_ble_eq_true rfl) (Nat.le_of_ble_eq_true rfl) rfl (fun H5 cA q1 z5 o5 hAr hNm => ?_)
  have hcA : cA = gb.2.2 1 := by
    have h5 : s.vm.findClass ("[" ++ (FieldType.long).toString) = some (gb.2.2 1) := (hK.2 1 _ (gtys_at (g := gas gb []) (by decide))).2
    exact Option.some.inj (hNm.symm.trans h5)
  rw [hcA] at q1
  have hS5 := S_new hS4 z5 o5
  have hW5 := WH_out hW4 rfl o5 q1
  have hno : ∀ a ∈ [s.heap.size] ++ as1 ++ [H2.size] ++ as2, a < H4.size := fun a ha => wls_lt hW4 (List.mem_append_left _ ha)
  have hnd5 : (([s.heap.size] ++ as1 ++ [H2.size] ++ as2) ++ [H4.size]).Nodup := List.nodup_append.mpr ⟨hnd, List.pairwise_singleton _ _, fun a ha x hx e => by
    rw [List.mem_singleton.mp hx] at e
    have := hno a ha
    omega⟩
  have eD : ([s.heap.size] ++ as1 ++ [H2.size] ++ as2).getD 0 0 = s.heap.size := rfl
  have eM : ([s.heap.size] ++ as1 ++ [H2.size] ++ as2).getD 221 0 = H2.size := by
    have := getD_mid (a := [s.heap.size] ++ as1) (x := H2.size) (r := as2)
    rw [hlen1] at this
    exact this
  generalize [s.heap.size] ++ as1 ++ [H2.size] ++ as2 = as at *
  have hG : GOK (mkG gb as (exF ad aK aS aV b H4.size) [H4.size]) := mk_ok hlen hnd5 (fun a ha => List.mem_singleton.mp ha)
  have hO : HO (mkG gb as (exF ad aK aS aV b H4.size) [H4.size]) := ⟨List.mem_append_right _ (List.mem_singleton.mpr rfl), if_pos (List.mem_singleton.mpr rfl)⟩
  have hall : ∀ a ∈ as ++ [H4.size], s.heap.size ≤ a := fun a ha => (List.mem_append.mp ha).elim (ha4 a) (fun z => by rw [List.mem_singleton.mp z]; exact hS4.1)
  refine lv_astore_n (lv' := [(3, .ref H4.size), (2, .ref H2.size), (1, .ref s.heap.size), (0, .ref b)]) hx hb dL_law_19 rfl hl (by decide) rfl (fun ls hl => ?_)
  refine lv_iconst (v := 0) hx hb dL_law_20 (by decide) ?_
  refine lv_istore (lv' := [(4, .int 0), (3, .ref H4.size), (2, .ref H2.size), (1, .ref s.heap.size), (0, .ref b)]) hx hb dL_law_21 hl (by decide) rfl (fun ls hl => ?_)
  obtain ⟨w', hrun⟩ := law_runs (xs := xs) hL 66 0 _ (hINV.out 0) (Nat.zero_le L) (by omega)
  have hl5 : lv_has ls 7 (plv (mkG gb as (exF ad aK aS aV b H4.size) [H4.size]) 0 (lvL 0)) := by
    have e1 : (mkG gb as (exF ad aK aS aV b H4.size) [H4.size]).1 9 0 = s.heap.size := by rw [mk_at (by decide), pos_D]; exact eD
    have e2 : (mkG gb as (exF ad aK aS aV b H4.size) [H4.size]).1 10 0 = H2.size := by rw [mk_at (by decide), pos_M]; exact eM
    have e3 : plv (mkG gb as (exF ad aK aS aV b H4.size) [H4.size]) 0 (lvL 0) = [(0, .ref b), (1, .ref ((mkG gb as (exF ad aK aS aV b H4.size) [H4.size]).1 9 0)), (2, .ref ((mkG gb as (exF ad aK aS aV b H4.size) [H4.size]).1 10 0)), (3, .ref H4.size), (4, .int 0)] := rfl
    rw [e3, e1, e2]
    exact lv_sub hl [4, 3, 2, 1, 0] rfl
  have key := sLW (b := b) (L := L) (xs := xs) hG hO hst 66 0 (by decide) p e s m #[Value.ref b] below meth c ⟨hx, hb, hr, hml, hown, hgw, hlocks, hG, STb.st (hSTb b H4.size) (fun a ha => by rw [hg0]; exact hall a ha) (by rw [hg0]; exact Nat.le_refl _)⟩ (lvL 0) [] _ _ hrun (fun v hv => by
    simp only [lvL, List.mem_cons, Option.some.injEq, List.not_mem_nil, or_false, reduceCtorEq] at hv
    rcases hv with rfl | rfl | rfl | rfl | rfl
    · show 0 < 1; decide
    · show 0 < cntV 9; decide
    · show 0 < cntV 10; decide
    · show 0 < 1; decide
    · trivial) (fun v hv => by cases hv) H5 _ ls hW5 ⟨hS5.1, fun q h1 h2 => hS5.2.1 q h1 (fun z => h2 (Or.inr z)), fun x hx => Or.inr (hS5.2.2 x hx)⟩ hl5
  refine W.widen (k := 241 + 0) (n := 15829 + 6 * 0) (Nat.le_of_ble_eq_true rfl) (Nat.le_of_ble_eq_true rfl) (W_mono key (fun t ht => ht ⟨rfl, hX, hbl, rfl, hall, hTX.narrow fun q hq => hq.elim (hall q) id⟩))
