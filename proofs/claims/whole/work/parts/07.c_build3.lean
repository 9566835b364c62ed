section CSND2
variable {gb : GB} {l : Launch} {Y Z : MD} {Q : List Nat → CQt} {pc : Nat} {D : CD}
theorem ref_fits {g : GG} {ty : FieldType} (h : (∃ n, ty = .object n) ∨ ∃ t, ty = .array t) (x : Option (Nat × Nat)) : narrow ty (phys g (.inr (.inr x))) = phys g (.inr (.inr x)) ∧ fits ty (phys g (.inr (.inr x))) = true := by
  rcases h with ⟨n, rfl⟩ | ⟨t, rfl⟩ <;> cases x <;> exact ⟨rfl, rfl⟩
theorem phys_some {as : List Nat} {q : Nat × Nat} : phys (gas gb as) (.inr (.inr (some q))) = .ref (as.getD q.2 0) := rfl
theorem csn_pf {index ci k N : Nat} {R0 : String} {T : u_T} {ty0 : Nat → FieldType} (hd : decode Y.2.1 pc = .ok (.putfield index, 3)) (hF : FOK ci R0 T N) (hty : ∀ k, k < N → parseFieldDescriptor (T k).2.2.1 = some (ty0 k)) (hnm : ∀ a, a < N → ∀ b, b < N → a ≠ b → (T a).2.1 ≠ (T b).2.1) (hk : k < N) (hw : Cond.fieldLink Y.1.cls index (T k).1 (T k).2.1 (T k).2.2.1 ∈ gw) (hdecl : (T k).1 = Y.1.cls) (hrt : (∃ n, ty0 k = .object n) ∨ ∃ t, ty0 k = .array t) (kk : CSn gb l Y Q (pc + 3) D) : CSn gb l Y Q pc (cop_pf ci k D) := by
  intro p e s m args below meth c C lv st w res h as0 as1 hN hL hS H locs ls hW hA hl
  obtain ⟨⟨v, r⟩, h1, ha⟩ := Option.bind_eq_some_iff.mp h
  obtain ⟨⟨⟨κ, i⟩, r2⟩, h2, hb⟩ := Option.bind_eq_some_iff.mp ha
  have e1 := pR_eq h1
  have e2 : r = .inr (.inr (some (κ, i))) :: r2 := pO_eq h2
  subst e2
  subst e1
  dsimp only at hb
  split at hb
  · rename_i c1 fs hcs
    obtain ⟨hg, hb2⟩ := cond_some hb
    obtain ⟨g1, g2⟩ := (Bool.and_eq_true _ _).mp hg
    have hc1 := Nat.eq_of_beq_eq_true g1
    subst hc1
    have hkl : k < fs.length := Nat.le_of_ble_eq_true g2
    obtain ⟨hc11, hc, hNs, hin⟩ := hF
    have hts := C.2.2.2.2.2.1
    have hwz := wz_get (gb := gb) (as := as0 ++ as1) hcs
    have hnf := ref_fits (g := gas gb (as0 ++ as1)) hrt v
    have hset : ceE gb (as0 ++ as1) (.inl (c1, fs.set k (.inr (.inr v)))) = .inr (c1, (fs.map (phys (gas gb (as0 ++ as1)))).set k (phys (gas gb (as0 ++ as1)) (.inr (.inr v)))) := by
      simp only [ceE]
      rw [List.map_set]
    have hokc : okC w.1.length (.inl (c1, fs.set k (.inr (.inr v)))) := by
      intro x hx
      rcases List.mem_or_eq_of_mem_set hx with hx | hx
      · exact hW.2.1 _ (List.mem_of_getElem? hcs) x hx
      · rw [hx, ← hW.1]; exact hS _ List.mem_cons_self
    have fin : ∀ (H1 : Heap) (locs1 : List Loc), va_P gb.2.1 cls12 ((wz gb (as0 ++ as1) w.1).set i ((as0 ++ as1).getD i 0, .inr (c1, (fs.map (phys (gas gb (as0 ++ as1)))).set k (phys (gas gb (as0 ++ as1)) (.inr (.inr v)))))) H1 → va_D (cA as0 s.heap.size) ((wz gb (as0 ++ as1) w.1).set i ((as0 ++ as1).getD i 0, .inr (c1, (fs.map (phys (gas gb (as0 ++ as1)))).set k (phys (gas gb (as0 ++ as1)) (.inr (.inr v)))))) → va_S (cA as0 s.heap.size) s.heap H1 locs1 → W p l e Y.2.2.2.2.1 s m args below meth c H1 locs1 w.2.1 w.2.2 (Q as0 args s below res) (F0 m (pc + 3) ls (r2.map (phys (gas gb (as0 ++ as1))))) := fun H1 locs1 hP1 hD1 hS1 => by
      rw [← hset] at hP1 hD1
      exact kk p e s m args below meth c C lv r2 _ res hb2 as0 as1 hN hL (okNS_tail (okNS_tail hS)) H1 locs1 ls (CH_set hW hcs hokc hP1 hD1) hS1 hl
    cases hfin : (T k).2.2.2 with
    | true => exact va_putF (D := gb.2.1) (ci := c1) (C := R0) (T := T) (N := N) C.1 C.2.1 hts hin ty0 hty hnm C.2.2.2.2.1 C.2.2.2.2.2.2.2.2.1 hW.2.2.1 (cA_D hW hN) hA i hwz hc k hk (hts _ hw) (fun _ h9 => h9) hfin C.2.2.2.2.2.2.2.1 hdecl (hty k hk) hnf.1 hnf.2 (by rw [List.length_map]; exact hkl) hd fin
    | false => exact va_put (D := gb.2.1) (ci := c1) (C := R0) (T := T) (N := N) C.1 C.2.1 hts hin ty0 hty hnm C.2.2.2.2.1 C.2.2.2.2.2.2.2.2.1 hW.2.2.1 (cA_D hW hN) hA i hwz hc k hk (hts _ hw) (fun _ h9 => h9) hfin (hty k hk) hnf.1 hnf.2 (by rw [List.length_map]; exact hkl) hd fin
  · cases hb
theorem csn_gf {index ci k N : Nat} {R0 : String} {T : u_T} (hd : decode Y.2.1 pc = .ok (.getfield index, 3)) (hF : FOK ci R0 T N) (hk : k < N) (hw : Cond.fieldLink Y.1.cls index (T k).1 (T k).2.1 (T k).2.2.1 ∈ gw) (kk : CSn gb l Y Q (pc + 3) D) : CSn gb l Y Q pc (cop_gf ci k D) := by
  intro p e s m args below meth c C lv st w res h as0 as1 hN hL hS H locs ls hW hA hl
  obtain ⟨⟨⟨κ, i⟩, r⟩, h1, hb⟩ := Option.bind_eq_some_iff.mp h
  have e1 := pO_eq h1
  subst e1
  dsimp only at hb
  split at hb
  · rename_i c1 fs hcs
    obtain ⟨hg, hb2⟩ := cond_some hb
    have hc1 := Nat.eq_of_beq_eq_true hg
    subst hc1
    obtain ⟨v, hv, hb3⟩ := Option.bind_eq_some_iff.mp hb2
    obtain ⟨hc11, hc, hNs, hin⟩ := hF
    have hts := C.2.2.2.2.2.1
    have hwz := wz_get (gb := gb) (as := as0 ++ as1) hcs
    have hokv : okN (as0 ++ as1).length v := by
      rw [hW.1]
      exact hW.2.1 _ (List.mem_of_getElem? hcs) v (List.mem_of_getElem? hv)
    exact va_get (D := gb.2.1) (ci := c1) (C := R0) (T := T) (N := N) (v := phys (gas gb (as0 ++ as1)) v) C.1 C.2.1 hts hin C.2.2.2.2.1 C.2.2.2.2.2.2.2.2.1 hW.2.2.1 i hwz hc k hk (hts _ hw) (fun _ h9 => h9) (by rw [List.getElem?_map, hv]; rfl) hd (kk p e s m args below meth c C lv (v :: r) w res hb3 as0 as1 hN hL (okNS_cons hokv (okNS_tail hS)) H locs ls hW hA hl)
  · cases hb
theorem iAt_cons {u : List (Nat × VV)} {k : Nat} {x : Int32} : iAt ((k, .inl x) :: u) = upd (iAt u) k x := by
  funext j
  simp [iAt, upd]
theorem jAt_cons {u : List (Nat × VV)} {k : Nat} {x : Int64} : jAt ((k, .inr (.inl x)) :: u) = vp_updL (jAt u) k x := by
  funext j
  simp [jAt, vp_updL]
theorem csn_si (hd : decode Y.2.1 pc = .ok (.iastore, 1)) (kk : CSn gb l Y Q (pc + 1) D) : CSn gb l Y Q pc (cop_si D) := by
  intro p e s m args below meth c C lv st w res h as0 as1 hN hL hS H locs ls hW hA hl
  obtain ⟨⟨v, r0⟩, h0, ha⟩ := Option.bind_eq_some_iff.mp h
  obtain ⟨⟨x, r⟩, h1, ha⟩ := Option.bind_eq_some_iff.mp ha
  obtain ⟨⟨⟨κ, i⟩, r2⟩, h2, hb⟩ := Option.bind_eq_some_iff.mp ha
  have e0 := pI_eq h0
  have e1 : r0 = .inl x :: r := pI_eq h1
  have e2 : r = .inr (.inr (some (κ, i))) :: r2 := pO_eq h2
  subst e2
  subst e1
  subst e0
  dsimp only at hb
  split at hb
  · rename_i n u hcs
    obtain ⟨hi, hb⟩ := cond_some hb
    have hwz := wz_get (gb := gb) (as := as0 ++ as1) hcs
    refine va_iast C.1 C.2.1 C.2.2.2.2.2.2.2.2.1 hW.2.2.1 (cA_D hW hN) hA i 0 hwz (gtys_at (g := gas gb []) (by decide)) (ib_in hi) hd (fun H1 locs1 hP1 hD1 hS1 => ?_)
    have hset : ceE gb (as0 ++ as1) (.inr (0, n, (x.toNatClampNeg, .inl v) :: u)) = .inl (gb.2.2 0, n, .inl (upd (iAt u) x.toNatClampNeg v)) := by simp only [ceE]; rw [iAt_cons]
    rw [← hset] at hP1 hD1
    refine kk p e s m args below meth c C lv r2 _ res hb as0 as1 hN hL (okNS_tail (okNS_tail (okNS_tail hS))) H1 locs1 ls (CH_set hW hcs ?_ hP1 hD1) hS1 hl
    intro q hq
    rcases List.mem_cons.mp hq with rfl | hq
    · trivial
    · exact hW.2.1 _ (List.mem_of_getElem? hcs) q hq
  · cases hb
theorem csn_sj (hd : decode Y.2.1 pc = .ok (.lastore, 1)) (kk : CSn gb l Y Q (pc + 1) D) : CSn gb l Y Q pc (cop_sj D) := by
  intro p e s m args below meth c C lv st w res h as0 as1 hN hL hS H locs ls hW hA hl
  obtain ⟨⟨v, r0⟩, h0, ha⟩ := Option.bind_eq_some_iff.mp h
  obtain ⟨⟨x, r⟩, h1, ha⟩ := Option.bind_eq_some_iff.mp ha
  obtain ⟨⟨⟨κ, i⟩, r2⟩, h2, hb⟩ := Option.bind_eq_some_iff.mp ha
  have e0 := pJ_eq h0
  have e1 : r0 = .inl x :: r := pI_eq h1
  have e2 : r = .inr (.inr (some (κ, i))) :: r2 := pO_eq h2
  subst e2
  subst e1
  subst e0
  dsimp only at hb
  split at hb
  · rename_i n u hcs
    obtain ⟨hi, hb⟩ := cond_some hb
    have hwz := wz_get (gb := gb) (as := as0 ++ as1) hcs
    refine va_last C.1 C.2.1 C.2.2.2.2.2.2.2.2.1 hW.2.2.1 (cA_D hW hN) hA i 1 hwz (gtys_at (g := gas gb []) (by decide)) (ib_in hi) hd (fun H1 locs1 hP1 hD1 hS1 => ?_)
    have hset : ceE gb (as0 ++ as1) (.inr (1, n, (x.toNatClampNeg, .inr (.inl v)) :: u)) = .inl (gb.2.2 1, n, .inr (.inl (vp_updL (jAt u) x.toNatClampNeg v))) := by simp only [ceE]; rw [jAt_cons]
    rw [← hset] at hP1 hD1
    refine kk p e s m args below meth c C lv r2 _ res hb as0 as1 hN hL (okNS_tail (okNS_tail (okNS_tail hS))) H1 locs1 ls (CH_set hW hcs ?_ hP1 hD1) hS1 hl
    intro q hq
    rcases List.mem_cons.mp hq with rfl | hq
    · trivial
    · exact hW.2.1 _ (List.mem_of_getElem? hcs) q hq
  · cases hb
theorem csn_sq {j ci N : Nat} {R0 : String} {T : u_T} (hd : decode Y.2.1 pc = .ok (.aastore, 1)) (hF : FOK ci R0 T N) (hj : 4 ≤ j ∧ j < 8) (hty : tyE j = .object R0) (kk : CSn gb l Y Q (pc + 1) D) : CSn gb l Y Q pc (cop_sq j ci D) := by
  intro p e s m args below meth c C lv st w res h as0 as1 hN hL hS H locs ls hW hA hl
  obtain ⟨⟨⟨a, b⟩, r0⟩, h0, ha⟩ := Option.bind_eq_some_iff.mp h
  obtain ⟨⟨x, r⟩, h1, ha⟩ := Option.bind_eq_some_iff.mp ha
  obtain ⟨⟨⟨κ, i⟩, r2⟩, h2, hb⟩ := Option.bind_eq_some_iff.mp ha
  have e0 := pO_eq h0
  have e1 : r0 = .inl x :: r := pI_eq h1
  have e2 : r = .inr (.inr (some (κ, i))) :: r2 := pO_eq h2
  subst e2
  subst e1
  subst e0
  dsimp only at hb
  split at hb
  · rename_i c1 fs j1 n u hcb hcs
    obtain ⟨hg, hb2⟩ := cond_some hb
    obtain ⟨hi, hb3⟩ := cond_some hb2
    obtain ⟨g1, g2⟩ := (Bool.and_eq_true _ _).mp hg
    have hc1 := Nat.eq_of_beq_eq_true g1
    have hj1 := Nat.eq_of_beq_eq_true g2
    subst hc1
    subst hj1
    obtain ⟨hc11, hc, hNs, hin⟩ := hF
    have hwz := wz_get (gb := gb) (as := as0 ++ as1) hcs
    have hwb := wz_get (gb := gb) (as := as0 ++ as1) hcb
    have hsh : ∀ u', ceE gb (as0 ++ as1) (.inr (j1, n, u')) = .inl (gb.2.2 j1, n, .inr (.inr (.inr (.inr fun k => (rAt u' k).map fun q => (as0 ++ as1).getD q.2 0)))) := by
      intro u'
      have h7 : j1 = 4 ∨ j1 = 5 ∨ j1 = 6 ∨ j1 = 7 := by omega
      rcases h7 with rfl | rfl | rfl | rfl <;> rfl
    rw [hsh] at hwz
    refine va_astq (r := (R0, T, N)) C.1 C.2.1 C.2.2.2.2.2.2.2.2.1 hW.2.2.1 (cA_D hW hN) hA i j1 b c1 hwz (by rw [gtys_at (g := gas gb []) hj.2, hty]; rfl) hwb hc (ib_in hi) hd (fun H1 locs1 hP1 hD1 hS1 => ?_)
    have hset : ceE gb (as0 ++ as1) (.inr (j1, n, (x.toNatClampNeg, .inr (.inr (some (a, b)))) :: u)) = .inl (gb.2.2 j1, n, .inr (.inr (.inr (.inr (va_up (fun k => (rAt u k).map fun q => (as0 ++ as1).getD q.2 0) x.toNatClampNeg (some ((as0 ++ as1).getD b 0))))))) := by
      rw [hsh]
      refine congrArg (fun z => (Sum.inl (gb.2.2 j1, n, .inr (.inr (.inr (.inr z)))) : va_E)) ?_
      funext k
      by_cases hk : k = x.toNatClampNeg
      · simp [rAt, va_up, hk]
      · simp [rAt, va_up, hk]
    rw [← hset] at hP1 hD1
    refine kk p e s m args below meth c C lv r2 _ res hb3 as0 as1 hN hL (okNS_tail (okNS_tail (okNS_tail hS))) H1 locs1 ls (CH_set hW hcs ?_ hP1 hD1) hS1 hl
    intro q hq
    rcases List.mem_cons.mp hq with rfl | hq
    · rw [← hW.1]; exact hS _ List.mem_cons_self
    · exact hW.2.1 _ (List.mem_of_getElem? hcs) q hq
  · cases hb
theorem csn_obj {index : Nat} (hd : decode Y.2.1 pc = .ok (.invokespecial index, 3)) (h1 : Cond.methodLink Y.1.cls index objectInit ∈ gw) (h2 : Cond.instanceMethod objectInit ∈ gw) (h3 : Cond.code objectInit ⟨#[0xb1]⟩ 1 none ∈ gw) (hR : 1 ≤ Y.2.2.2.2.1.frames ∧ 20 ≤ Y.2.2.2.2.1.locals) (kk : CSn gb l Y Q (pc + 3) D) : CSn gb l Y Q pc (cop_obj D) := by
  intro p e s m args below meth c C lv st w res h as0 as1 hN hL hS H locs ls hW hA hl
  obtain ⟨⟨⟨κ, i⟩, r⟩, q1, hb⟩ := Option.bind_eq_some_iff.mp h
  have e1 := pO_eq q1
  subst e1
  obtain ⟨hg, hb⟩ := cond_some hb
  dsimp only at hg hb
  have hts := C.2.2.2.2.2.1
  have hg2 := Nat.le_of_ble_eq_true hg
  refine W.objInit C.1 C.2.1 C.2.2.2.2.1 (hts _ h1) (hts _ h2) (hts _ h3) rfl (by rw [C.2.2.2.1]; exact hl.1) rfl hd hR.1 ?_ (W.eq (g2 := F0 m (pc + 3) ls (r.map (phys (gas gb (as0 ++ as1))))) rfl (kk p e s m args below meth c C lv r w res hb as0 as1 hN hL (okNS_tail hS) H locs ls hW hA hl))
  have := lv_room (m := m) (pc := pc) (ls := ls) (rest := ((.inr (.inr (some ((κ, i), r).1)) : VV) :: r).map (phys (gas gb (as0 ++ as1)))) (st := r.map (phys (gas gb (as0 ++ as1)))) (by rw [stw_eq]; exact hg2)
  exact Nat.le_trans (Nat.add_le_add_right this 12) hR.2
theorem csn_ret (hd : decode Y.2.1 pc = .ok (.return_, 1)) : CSn gb l Y (QC gb Y) pc (cop_ret Y) := by
  intro p e s m args below meth c C lv st w res h as0 as1 hN hL hS H locs ls hW hA hl
  match st, h with
  | [], h =>
    obtain ⟨hg, h⟩ := cond_some h
    cases h
    obtain ⟨g1, g2⟩ := (Bool.and_eq_true _ _).mp hg
    refine W.widen (Nat.le_of_ble_eq_true g1) (Nat.le_of_ble_eq_true g2) ?_
    exact W.vret C.1 C.2.1 C.2.2.1 (fun t ht _ => ⟨rfl, ⟨as1, hN, by rw [ht]; exact hW⟩, hA.F ht⟩) hA.2.2 hd C.2.2.2.2.2.2.1
theorem cmt_of (hy : plainName Y.1.cls = true) (hn : Y.1.name = "<init>") (hr : Y.2.2.2.1 = none) (h : CSn gb l Y (QC gb Y) 0 D) : CMt gb l Y (cfn Y.2.2.1 D) := by
  intro sz as0 as cs res hf hok
  obtain ⟨hle, hD⟩ := cond_some hf
  refine Met.ofW (cc := Y.2.1) (maxL := Y.2.2.1) (ret := Y.2.2.2.1) hy rfl ?_
  intro p e s m args below meth c s₁ B hml hv
  obtain ⟨rfl, hsz, hW, hK, hNw, hao⟩ := hv
  subst hsz
  have hts : ∀ w ∈ gw, w.before _ s = true := fun w hw => atoms_spec (ws := wsU Y) B.pre w (List.mem_cons_of_mem _ hw)
  have C : CxC gb Y p s m ((as.map (phys (gas gb as0))).toArray) meth c := ⟨B.exec, B.bytes, by rw [B.returns, hr], hml, findClass_of_methodNamed B.named, hts, B.notSynchronized, by rw [(name_of_methodNamed B.named B.method).1, hn], hK, hNw, hao⟩
  have hl := lv_entry (as.map (phys (gas gb as0))) (n := Y.2.2.1) (by rw [slv_eq]; exact Nat.le_of_ble_eq_true hle)
  rw [lg_entry_eq]
  have hl2 := lv_has_mono (l' := plv (gas gb as0) 0 (entL Y.2.2.1 as)) hl (fun q hq => by
    obtain ⟨k, v, hk, rfl⟩ := (plv_mem _ 0).mp hq
    exact entl_get as k 0 v (lget_app _ _ _ _ hk))
  have key := h p e s m _ below meth c C (entL Y.2.2.1 as) [] (cs, 0, 0) res hD as0 [] (fun a ha => by cases ha) (fun v hv => by
    obtain ⟨k, hk⟩ := lget_of_mem hv
    rw [List.append_nil]
    exact hok v (lget_entl_ok as k v (lget_app _ _ _ _ hk))) (fun v hv => by cases hv) s.heap [] _ (by rw [List.append_nil]; exact hW) va_S.rf (by rw [List.append_nil]; exact hl2)
  exact key
theorem cpre_blind (sz : Nat) (as0 : List Nat) (as : List VV) (cs : List CE) : FrameBlind (CPre gb sz as0 as cs) := fun a U fr mk q => ⟨q.1, q.2.1, q.2.2.1, va_K.moved (Vm.Alike.refl U.vm) q.2.2.2.1, fun w hw hn => by
  have := q.2.2.2.2.1 w hw hn
  cases w with
  | fieldLinkNest a b c d e f => exact va_Nw.same rfl rfl this
  | methodLinkNest a b c d => exact va_Nw.same rfl rfl this
  | _ => simp [isNest] at hn, fun C hC => va_AO.moved (Vm.Alike.refl U.vm) (q.2.2.2.2.2 C hC)⟩
/-- what a constructor's tables give -/
def COC (Z : MD) (n : Nat) : Prop := Cond.code Z.1 Z.2.1 Z.2.2.1 none ∈ gw ∧ Z.2.2.2.1 = none ∧ Cond.initialized Z.1.cls ∈ gw ∧ (Z.1.cls ≠ "java/lang/invoke/MethodHandle" ∧ Z.1.cls ≠ "java/lang/invoke/VarHandle" ∧ (parseMethodDescriptor Z.1.desc).map (fun d => d.parameters.length) = some n) ∧ Z.1.name = "<init>" ∧ Cond.instanceMethod Z.1 ∈ gw
def ROC (Y Z : MD) : Prop := Z.2.2.2.2.1.frames + 1 ≤ Y.2.2.2.2.1.frames ∧ 8 + (Z.2.2.1 + 11) + Z.2.2.2.2.1.locals ≤ Y.2.2.2.2.1.locals
theorem csn_call {f : List VV → List CE → Option (List CE)} {n index : Nat} {host : String} (hd : decode Y.2.1 pc = .ok (.invokespecial index, 3)) (hM : CMt gb l Z f) (hC : COC Z n) (hR : ROC Y Z) (hw : Cond.methodLink Y.1.cls index Z.1 ∈ gw ∨ Cond.methodLinkNest Y.1.cls index Z.1 host ∈ lw_tbl) (kk : CSn gb l Y Q (pc + 3) D) : CSn gb l Y Q pc (cop_call Y Z f (n + 1) D) := by
  intro p e s m args below meth c C lv st w res h as0 as1 hN hL hS H locs ls hW hA hl
  obtain ⟨hb, h⟩ := cond_some h
  obtain ⟨hv, h⟩ := cond_some h
  obtain ⟨cs', h1, h⟩ := Option.bind_eq_some_iff.mp h
  obtain ⟨b1, b4⟩ := (Bool.and_eq_true _ _).mp hb
  obtain ⟨b1, b3⟩ := (Bool.and_eq_true _ _).mp b1
  obtain ⟨b1, b2⟩ := (Bool.and_eq_true _ _).mp b1
  have hlen : n + 1 ≤ st.length := Nat.le_of_ble_eq_true b1
  have hts := C.2.2.2.2.2.1
  have hoka : okNS (as0 ++ as1).length (st.take (n + 1)).reverse := fun v hv => hS v (List.mem_of_mem_take (List.mem_reverse.mp hv))
  have hmet := hM H.size (as0 ++ as1) _ _ _ h1 hoka
  obtain ⟨q, ra, hra⟩ : ∃ q ra, (st.take (n + 1)).reverse = .inr (.inr (some q)) :: ra := by
    split at hv
    · exact ⟨_, _, ‹_›⟩
    · cases hv
  have hlr : ra.length = n := by
    have := congrArg List.length hra
    simp [Nat.min_eq_left hlen] at this
    omega
  rw [hra] at hmet hoka
  obtain ⟨k1, k2, k3, k4, k5, k6⟩ := hC
  have hgood : GoodIn gw (wsU Z) := fun w hw => by
    rcases List.mem_cons.mp hw with rfl | hw
    · rw [k2]; exact ⟨k1, gw_good k1⟩
    · exact ⟨hw, gw_good hw⟩
  have hpre : PreS s H (CPre gb H.size (as0 ++ as1) (.inr (.inr (some q)) :: ra) w.1) (.ref ((as0 ++ as1).getD q.2 0) :: ra.map (phys (gas gb (as0 ++ as1)))) := ⟨cpre_blind _ _ _ _, fun U hU hwm => ⟨rfl, by rw [hU], by rw [hU]; exact hW, va_K.moved hwm.alike C.2.2.2.2.2.2.2.2.1, fun w hw hn => by
    have := C.2.2.2.2.2.2.2.2.2.1 w hw hn
    cases w with
    | fieldLinkNest a b c d e f => exact va_Nw.warmF hwm this
    | methodLinkNest a b c d => exact va_Nw.warmM hwm this
    | _ => simp [isNest] at hn, fun C9 hC9 => va_AO.moved hwm.alike (C.2.2.2.2.2.2.2.2.2.2 C9 hC9)⟩⟩
  have hwz : wsU Z = Cond.code Z.1 Z.2.1 Z.2.2.1 none :: gw := by unfold wsU; rw [k2]
  have run : va_Run p l e Y.2.2.2.2.1 s m args below meth c H locs w.2.1 w.2.2 Z.2.2.2.2.1.cells Z.2.2.2.2.1.slots (F0 m pc ls (st.map (phys (gas gb (as0 ++ as1))))) ((st.drop (n + 1)).map (phys (gas gb (as0 ++ as1)))) (CQ gb (as0 ++ as1) cs' (.ref ((as0 ++ as1).getD q.2 0) :: ra.map (phys (gas gb (as0 ++ as1)))).toArray) (cA (as0 ++ as1) H.size) := by
    rcases hw with hw | hw
    · have cb := callB_of (R := Y.2.2.2.2.1) (rm := Z.2.2.2.2.1) (mc := Z.2.2.2.2.1.cells) (ms := Z.2.2.2.2.1.slots) n hts hgood hwz rfl rfl (hts _ k3) (hts _ hw) k4 hR
      exact va_runI (As := ra.map (phys (gas gb (as0 ++ as1)))) (rest := (st.drop (n + 1)).map (phys (gas gb (as0 ++ as1)))) ⟨C.1, C.2.1, C.2.2.2.1, C.2.2.2.2.1, hts⟩ hmet ⟨cb, k5, hts _ k6⟩ hpre rfl (by simp [hlr]) hl.1 (drop_splitV hra) (lv_room (by rw [stw_eq]; exact Nat.le_of_ble_eq_true b2)) hd ⟨Nat.le_of_ble_eq_true b3, Nat.le_of_ble_eq_true b4⟩
    · have cb := va_cnB (R := Y.2.2.2.2.1) (rm := Z.2.2.2.2.1) (mc := Z.2.2.2.2.1.cells) (ms := Z.2.2.2.2.1.slots) n hts hgood hwz rfl rfl (C.2.2.2.2.2.2.2.2.2.1 _ hw rfl) (hts _ k3) k4 hR
      exact va_runIN (As := ra.map (phys (gas gb (as0 ++ as1)))) (rest := (st.drop (n + 1)).map (phys (gas gb (as0 ++ as1)))) ⟨C.1, C.2.1, C.2.2.2.1, C.2.2.2.2.1, hts⟩ hmet ⟨cb, k5, hts _ k6⟩ hpre rfl (by simp [hlr]) hl.1 (drop_splitV hra) (lv_room (by rw [stw_eq]; exact Nat.le_of_ble_eq_true b2)) hd ⟨Nat.le_of_ble_eq_true b3, Nat.le_of_ble_eq_true b4⟩
  intro T hT X
  obtain ⟨v, st₀, t, T', L, z0, X', zL, ze1, ze2, ⟨zv, ⟨as2, zN, zCH⟩, zz, zk⟩, zst⟩ := run T hT X
  cases zv
  rw [z0] at zz zk zN
  have hup : ∀ q, cA (as0 ++ as1) H.size q → cA as0 s.heap.size q := fun q hq => hq.elim (fun z => (List.mem_append.mp z).elim Or.inl (fun z => Or.inr (hN _ z))) (fun z => Or.inr (Nat.le_trans hA.1 z))
  have hN2 : ∀ a ∈ as1 ++ as2, s.heap.size ≤ a := fun a ha => (List.mem_append.mp ha).elim (hN a) (fun z => Nat.le_trans hA.1 (zN a z))
  have hSd : okNS (as0 ++ as1).length (st.drop (n + 1)) := fun v hv => hS v (List.mem_of_mem_drop hv)
  have key := kk p e s m args below meth c C lv (st.drop (n + 1)) (cs', w.2.1 + Z.2.2.2.2.1.cells, w.2.2 + Z.2.2.2.2.1.slots) res h as0 (as1 ++ as2) hN2 (okNL_mono (by simp only [List.length_append]; omega) hL) (okNS_mono (by simp only [List.length_append]; omega) hSd) T'.heap (locs ++ L) ls (by rw [ze1, ← List.append_assoc]; exact zCH) ⟨Nat.le_trans hA.1 (by rw [ze1]; exact zz), fun x y1 y2 => by rw [ze1, zk x (Nat.lt_of_lt_of_le y1 hA.1) (fun z => y2 (hup x z))]; exact hA.2.1 x y1 y2, fun x hx => by
    rcases List.mem_append.mp hx with hx | hx
    · exact hA.2.2 x hx
    · exact hup _ (zL x hx)⟩ (by rw [← List.append_assoc, plv_ext hL]; exact hl)
  rw [← List.append_assoc, map_phys_ext hSd] at key
  obtain ⟨t2, a1, b1⟩ := key T' rfl X'
  exact ⟨t2, zst t2 a1, b1⟩
end CSND2
