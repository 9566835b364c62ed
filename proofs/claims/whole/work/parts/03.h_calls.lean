/-! ===== returns, contracts, calls ===== -/
abbrev IJ (σ : Type) : Type := σ → Option VV
def ijI : IJ Int32 := fun x => some (.inl x)
def ijJ : IJ Int64 := fun x => some (.inr (.inl x))
def ijU : IJ Unit := fun _ => none
def ijR : IJ (Option (Nat × Nat)) := fun x => some (.inr (.inr x))
def Qres (g : GG) (o : Option VV) (w' : Wd) : Array Value → State → Outcome → State → Prop := fun _ st oc t => oc = .returned (o.map (phys g)) ∧ (∀ v, o = some v → okV v) ∧ WH g w' t.heap ∧ va_F (gS g st.heap.size) st t
def QM {ρ : Type} (g : GG) (Y : MD) (ij : IJ ρ) : Array Value → State → List Frame → ρ × Wd → State → Prop := fun args s below res => MQ below (Qres g (ij res.1) res.2) args s Y.2.2.2.2.2.1 Y.2.2.2.2.2.2 (gS g s.heap.size)
def op_ret : Den Unit := fun _ st w => match st with
  | [] => some ((), w)
  | _ => none
def op_iret : Den Int32 := fun _ st w => match st with
  | [.inl x] => some (x, w)
  | _ => none
def op_zret : Den Int32 := fun _ st w => match st with
  | [.inl x] => if x = 0 ∨ x = 1 then some (x, w) else none
  | _ => none
def op_jret : Den Int64 := fun _ st w => match st with
  | [.inr (.inl x)] => some (x, w)
  | _ => none
def op_rret : Den (Option (Nat × Nat)) := fun _ st w => match st with
  | [.inr (.inr x)] => some (x, w)
  | _ => none
/-- the words that every method gets: its own code, and all of the tables that stay -/
def wsU (Y : MD) : List Cond := .code Y.1 Y.2.1 Y.2.2.1 Y.2.2.2.1 :: gw
def slv (as : List VV) : Nat := (as.map fun v => cond (isLg (some v)) 2 1).sum
def entl : List VV → Lv
  | [] => []
  | v :: r => cond (isLg (some v)) (some v :: none :: entl r) (some v :: entl r)
def entL (n : Nat) (as : List VV) : Lv := entl as ++ List.replicate (n - slv as) none
/-- the function of a method, out of the denotation of its code -/
def fn {ρ : Type} (n : Nat) (D : Den ρ) : List VV → Wd → Option (ρ × Wd) := fun as w => cond (Nat.ble (slv as) n) (D (entL n as) [] w) none
def Pre (g : GG) (sz : Nat) (as : List VV) (w : Wd) : Array Value → State → Prop := va_Pc (as.map (phys g)) (fun U => U.heap.size = sz ∧ WH g w U.heap ∧ ST g sz U U.heap)
def Mt {ρ : Type} (g : GG) (l : Launch) (Y : MD) (ij : IJ ρ) (f : List VV → Wd → Option (ρ × Wd)) : Prop :=
  ∀ (sz : Nat) (as : List VV) (w : Wd) (res : ρ × Wd), f as w = some res → okS as → Met l Y.1 (wsU Y) Y.2.2.2.2.1 (Pre g sz as w) (Qres g (ij res.1) res.2) 0 0 (gS g sz)
section RET
variable {g : GG} {l : Launch} {Y : MD} {pc : Nat}
theorem snd_ret (hd : decode Y.2.1 pc = .ok (.return_, 1)) (hr : Y.2.2.2.1 = none) : Snd g l Y (QM g Y ijU) pc op_ret := by
  intro p e s m args below meth c C lv st w res h hL hS H locs ls hW hA hl
  match st, h with
  | [], h =>
    cases h
    exact W.vret C.1 C.2.1 (C.2.2.1.trans hr) (fun t ht _ => ⟨rfl, fun v hv => (by cases hv), by rw [ht]; exact hW, hA.F ht⟩) hA.2.2 hd C.2.2.2.2.2.2.1
theorem snd_iret (hd : decode Y.2.1 pc = .ok (.ireturn, 1)) (hr : Y.2.2.2.1 = some .int) : Snd g l Y (QM g Y ijI) pc op_iret := by
  intro p e s m args below meth c C lv st w res h hL hS H locs ls hW hA hl
  match st, h with
  | [.inl x], h =>
    cases h
    exact W.iret (v := x) C.1 C.2.1 (C.2.2.1.trans hr) (fun t ht _ => ⟨rfl, fun v hv => by cases hv; trivial, by rw [ht]; exact hW, hA.F ht⟩) hA.2.2 hd C.2.2.2.2.2.2.1
theorem snd_zret (hd : decode Y.2.1 pc = .ok (.ireturn, 1)) (hr : Y.2.2.2.1 = some .boolean) : Snd g l Y (QM g Y ijI) pc op_zret := by
  intro p e s m args below meth c C lv st w res h hL hS H locs ls hW hA hl
  match st, h with
  | [.inl x], h =>
    have h1 : (if x = 0 ∨ x = 1 then some (x, w) else none) = some res := h
    by_cases hx : x = 0 ∨ x = 1
    · rw [if_pos hx] at h1
      cases h1
      exact W.zret (v := x) C.1 C.2.1 (C.2.2.1.trans hr) (by rcases hx with rfl | rfl <;> rfl) (fun t ht _ => ⟨rfl, fun v hv => by cases hv; trivial, by rw [ht]; exact hW, hA.F ht⟩) hA.2.2 hd C.2.2.2.2.2.2.1
    · rw [if_neg hx] at h1
      cases h1
theorem snd_jret (hd : decode Y.2.1 pc = .ok (.lreturn, 1)) (hr : Y.2.2.2.1 = some .long) : Snd g l Y (QM g Y ijJ) pc op_jret := by
  intro p e s m args below meth c C lv st w res h hL hS H locs ls hW hA hl
  match st, h with
  | [.inr (.inl x)], h =>
    cases h
    exact W.lret (v := x) C.1 C.2.1 (C.2.2.1.trans hr) (fun t ht _ => ⟨rfl, fun v hv => by cases hv; trivial, by rw [ht]; exact hW, hA.F ht⟩) hA.2.2 hd C.2.2.2.2.2.2.1
theorem snd_rret {tn : String} (hd : decode Y.2.1 pc = .ok (.areturn, 1)) (hr : Y.2.2.2.1 = some (.object tn)) : Snd g l Y (QM g Y ijR) pc op_rret := by
  intro p e s m args below meth c C lv st w res h hL hS H locs ls hW hA hl
  match st, h, hS with
  | [.inr (.inr x)], h, hS =>
    cases h
    refine W.aret (v := phys g (.inr (.inr x))) C.1 C.2.1 (C.2.2.1.trans hr) (Or.inl ⟨tn, rfl⟩) ?_ (fun t ht _ => ⟨rfl, fun v hv => by cases hv; exact hS _ List.mem_cons_self, by rw [ht]; exact hW, hA.F ht⟩) hA.2.2 hd C.2.2.2.2.2.2.1
    match x with
    | none => exact Or.inl rfl
    | some q => exact Or.inr ⟨_, rfl⟩
end RET
theorem entl_get {g : GG} : ∀ (as : List VV) (k i : Nat) (v : VV), lget (entl as) k = some v → (i + k, phys g v) ∈ lv_args i (as.map (phys g))
  | [], k, i, v, h => by simp [entl, lget] at h
  | a :: r, k, i, v, h => by
    rw [List.map_cons, lv_args]
    cases ha : isLg (some a) with
    | true =>
      simp only [entl, ha, cond_true] at h
      rw [if_pos (vcat_phys.mpr ha)]
      match k, h with
      | 0, h => simp only [lget, Option.some.injEq] at h; subst h; exact List.mem_cons_self
      | 1, h => simp [lget] at h
      | k + 2, h =>
        have := entl_get (g := g) r k (i + 2) v h
        exact List.mem_cons_of_mem _ (by rw [show i + (k + 2) = i + 2 + k by omega]; exact this)
    | false =>
      simp only [entl, ha, cond_false] at h
      rw [if_neg (fun q => by rw [vcat_phys.mp q] at ha; cases ha)]
      match k, h with
      | 0, h => simp only [lget, Option.some.injEq] at h; subst h; exact List.mem_cons_self
      | k + 1, h =>
        have := entl_get (g := g) r k (i + 1) v h
        exact List.mem_cons_of_mem _ (by rw [show i + (k + 1) = i + 1 + k by omega]; exact this)
theorem lget_app : ∀ (a : Lv) (n k : Nat) (v : VV), lget (a ++ List.replicate n none) k = some v → lget a k = some v
  | [], n, k, v, h => by
    exfalso
    rw [List.nil_append] at h
    induction n generalizing k with
    | zero => simp [lget] at h
    | succ n ih =>
      rw [List.replicate_succ] at h
      match k, h with
      | 0, h => simp [lget] at h
      | k + 1, h => exact ih k h
  | x :: a, n, 0, v, h => h
  | x :: a, n, k + 1, v, h => lget_app a n k v h
theorem slv_eq {g : GG} (as : List VV) : (lg_sl (as.map (phys g))).length = slv as := by
  induction as with
  | nil => rfl
  | cons a r ih =>
    have h1 : (lg_sl ((a :: r).map (phys g))).length = (if (phys g a).category = 2 then 2 else 1) + (lg_sl (r.map (phys g))).length := by
      simp only [lg_sl, List.map_cons, List.flatMap_cons, List.length_append]
      split <;> rfl
    rw [h1, ih]
    have h2 : slv (a :: r) = cond (isLg (some a)) 2 1 + slv r := by simp [slv]
    rw [h2]
    cases ha : isLg (some a) with
    | true => rw [if_pos (vcat_phys.mpr ha)]; rfl
    | false => rw [if_neg (fun q => by rw [vcat_phys.mp q] at ha; cases ha)]; rfl
theorem lget_entl_ok : ∀ (as : List VV) (k : Nat) (v : VV), lget (entl as) k = some v → v ∈ as
  | [], k, v, h => by simp [entl, lget] at h
  | a :: r, k, v, h => by
    cases ha : isLg (some a) with
    | true =>
      simp only [entl, ha, cond_true] at h
      match k, h with
      | 0, h => simp only [lget, Option.some.injEq] at h; subst h; exact List.mem_cons_self
      | 1, h => simp [lget] at h
      | k + 2, h => exact List.mem_cons_of_mem _ (lget_entl_ok r k v h)
    | false =>
      simp only [entl, ha, cond_false] at h
      match k, h with
      | 0, h => simp only [lget, Option.some.injEq] at h; subst h; exact List.mem_cons_self
      | k + 1, h => exact List.mem_cons_of_mem _ (lget_entl_ok r k v h)
/-- the contract of a method, out of the soundness of its code -/
theorem mt_of {ρ : Type} {g : GG} {l : Launch} {Y : MD} {ij : IJ ρ} {D : Den ρ} (hG : GOK g) (hy : plainName Y.1.cls = true) (hc : Y.2.2.2.2.2.1 = 0) (hs : Y.2.2.2.2.2.2 = 0) (h : Snd g l Y (QM g Y ij) 0 D) : Mt g l Y ij (fn Y.2.2.1 D) := by
  intro sz as w res hf hok
  obtain ⟨hle, hD⟩ := cond_some hf
  refine Met.ofW (cc := Y.2.1) (maxL := Y.2.2.1) (ret := Y.2.2.2.1) hy rfl ?_
  intro p e s m args below meth c s₁ B hml hv
  obtain ⟨rfl, hsz, hW, hST⟩ := hv
  subst hsz
  have hts : ∀ w ∈ gw, w.before _ s = true := fun w hw => atoms_spec (ws := wsU Y) B.pre w (List.mem_cons_of_mem _ hw)
  have C : Cx g Y p s m ((as.map (phys g)).toArray) meth c := ⟨B.exec, B.bytes, B.returns, hml, findClass_of_methodNamed B.named, hts, B.notSynchronized, hG, hST⟩
  have hl := lv_entry (as.map (phys g)) (n := Y.2.2.1) (by rw [slv_eq]; exact Nat.le_of_ble_eq_true hle)
  rw [lg_entry_eq]
  have hl2 := lv_has_mono (l' := plv g 0 (entL Y.2.2.1 as)) hl (fun q hq => by
    obtain ⟨k, v, hk, rfl⟩ := (plv_mem _ 0).mp hq
    exact entl_get as k 0 v (lget_app _ _ _ _ hk))
  have key := h p e s m _ below meth c C (entL Y.2.2.1 as) [] w res hD (okL_of fun k v hk => hok v (lget_entl_ok as k v (lget_app _ _ _ _ hk))) (fun v hv => by cases hv) s.heap [] _ hW va_S.rf hl2
  rw [hc, hs] at key
  unfold QM at key
  rw [hc, hs] at key
  exact key
section CALL
variable {ρ σ : Type} {g : GG} {l : Launch} {Y Z : MD} {Q : Array Value → State → List Frame → ρ × Wd → State → Prop} {pc : Nat} {D : Den ρ}
def stw (st : List VV) : Nat := (st.map fun v => cond (isLg (some v)) 2 1).sum
/-- a call of n arguments -/
def op_call (ij : IJ σ) (f : List VV → Wd → Option (σ × Wd)) (n : Nat) (K : Den ρ) : Den ρ := fun lv st w => cond (Nat.ble n st.length && Nat.ble (stw (st.drop n)) 8) ((f (st.take n).reverse w).bind fun q => K lv ((ij q.1).toList ++ st.drop n) q.2) none
/-- a call on an object of class c -/
def op_callV (c : Nat) (ij : IJ σ) (f : List VV → Wd → Option (σ × Wd)) (n : Nat) (K : Den ρ) : Den ρ := fun lv st w => cond (match (st.take n).reverse with
  | .inr (.inr (some q)) :: _ => Nat.beq q.1 c
  | _ => false) (op_call ij f n K lv st w) none
theorem stw_eq (st : List VV) : ((st.map (phys g)).map fun v => v.category).sum = stw st := by
  induction st with
  | nil => rfl
  | cons a r ih =>
    have h2 : stw (a :: r) = cond (isLg (some a)) 2 1 + stw r := by simp [stw]
    rw [h2, List.map_cons, List.map_cons, List.sum_cons, ih]
    cases ha : isLg (some a) with
    | true => rw [vcat_phys.mpr ha]; rfl
    | false =>
      rcases lv_cat (phys g a) with q | q
      · rw [q]; rfl
      · rw [vcat_phys.mp q] at ha; cases ha
theorem pre_blind (sz : Nat) (as : List VV) (w : Wd) : FrameBlind (Pre g sz as w) := fun a U fr mk q => ⟨q.1, q.2.1, q.2.2.1, ST.same (u := U) rfl q.2.2.2⟩
theorem pre_at {s U : State} {H : Heap} {locs : List Loc} {as : List VV} {w : Wd} (hST : ST g s.heap.size s s.heap) (hW : WH g w H) (hA : va_S (gS g s.heap.size) s.heap H locs) (hU : U.heap = H) (hwm : s.WarmedH U.vm) : Pre g H.size as w (as.map (phys g)).toArray U := ⟨rfl, by rw [hU], by rw [hU]; exact hW, by rw [hU]; exact hST.warm hwm hA.2.1 hA.1⟩
/-- what a callee's tables give -/
def CO (Z : MD) (n : Nat) : Prop := Cond.code Z.1 Z.2.1 Z.2.2.1 Z.2.2.2.1 ∈ gw ∧ Cond.initialized Z.1.cls ∈ gw ∧ (Z.1.cls ≠ "java/lang/invoke/MethodHandle" ∧ Z.1.cls ≠ "java/lang/invoke/VarHandle" ∧ (parseMethodDescriptor Z.1.desc).map (fun d => d.parameters.length) = some n) ∧ Z.2.2.2.2.1.cells = 0 ∧ Z.2.2.2.2.1.slots = 0
def RO (Y Z : MD) : Prop := (Z.2.2.2.2.1.frames + 1 ≤ Y.2.2.2.2.1.frames ∧ 8 + (Z.2.2.1 + 11) + Z.2.2.2.2.1.locals ≤ Y.2.2.2.2.1.locals) ∧ Y.2.2.2.2.2.1 ≤ Y.2.2.2.2.1.cells ∧ Y.2.2.2.2.2.2 ≤ Y.2.2.2.2.1.slots
theorem goodU {n : Nat} (h : CO Z n) : GoodIn gw (wsU Z) := fun w hw => by
  rcases List.mem_cons.mp hw with rfl | hw
  · exact ⟨h.1, gw_good h.1⟩
  · exact ⟨hw, gw_good hw⟩
/-- behind a call -/
theorem after_call {p : Program} {e : Env} {s : State} {m : MethodId} {args : Array Value} {below : List Frame} {meth : Method} {c : Code} {H : Heap} {locs : List Loc} {cells slots : Nat} {ls : Array Slot} {st0 rest : List Value} {R : Room} {a : Array Value} {o : Option VV} {w' : Wd} {Qr : State → Prop}
    (hr : va_Run p l e R s m args below meth c H locs cells slots 0 0 (F0 m pc ls st0) rest (Qres g o w' a) (gS g H.size)) (hA : va_S (gS g s.heap.size) s.heap H locs)
    (kk : ∀ (H1 : Heap) (locs1 : List Loc), (∀ v, o = some v → okV v) → WH g w' H1 → va_S (gS g s.heap.size) s.heap H1 locs1 → W p l e R s m args below meth c H1 locs1 cells slots Qr (F0 m (pc + 3) ls ((o.map (phys g)).toList ++ rest))) : W p l e R s m args below meth c H locs cells slots Qr (F0 m pc ls st0) := by
  intro T hT X
  obtain ⟨v, st₀, t, T', L, h0, X', hL, e1, e2, ⟨hv, hok, hW, hz, hk⟩, st⟩ := hr T hT X
  cases hv
  rw [h0] at hz hk
  have hup : ∀ q, gS g H.size q → gS g s.heap.size q := fun q hq => hq.elim Or.inl (fun z => Or.inr (Nat.le_trans hA.1 z))
  obtain ⟨t2, a1, b1⟩ := kk T'.heap (locs ++ L) hok (by rw [e1]; exact hW) ⟨Nat.le_trans hA.1 (by rw [e1]; exact hz), fun q h1 h2 => by rw [e1, hk q (Nat.lt_of_lt_of_le h1 hA.1) (fun z => h2 (hup q z))]; exact hA.2.1 q h1 h2, fun q hq => by
      rcases List.mem_append.mp hq with h | h
      · exact hA.2.2 q h
      · exact hup _ (hL q h)⟩ T' rfl X'
  exact ⟨t2, st t2 a1, b1⟩
theorem toList_map (o : Option VV) : (o.map (phys g)).toList = o.toList.map (phys g) := by cases o <;> rfl
theorem okS_of_toList {o : Option VV} {r : List VV} (h : ∀ v, o = some v → okV v) (hr : okS r) : okS (o.toList ++ r) := by
  cases o with
  | none => exact hr
  | some v => exact okS_cons (h v rfl) hr
theorem drop_split {n : Nat} {st : List VV} : st.map (phys g) = ((st.take n).reverse.map (phys g)).reverse ++ (st.drop n).map (phys g) := by
  rw [List.map_reverse, List.reverse_reverse, ← List.map_append, List.take_append_drop]
theorem okS_drop {n : Nat} {st : List VV} (h : okS st) : okS (st.drop n) := fun v hv => h v (List.mem_of_mem_drop hv)
theorem okS_args {n : Nat} {st : List VV} (h : okS st) : okS (st.take n).reverse := fun v hv => h v (List.mem_of_mem_take (List.mem_reverse.mp hv))
/-- a static method of the own class or of another -/
theorem snd_callS {ij : IJ σ} {f : List VV → Wd → Option (σ × Wd)} {n index : Nat} (hd : decode Y.2.1 pc = .ok (.invokestatic index, 3)) (hM : Mt g l Z ij f) (hC : CO Z n) (hR : RO Y Z) (hs : Cond.static Z.1 ∈ gw) (hw : Cond.methodLink Y.1.cls index Z.1 ∈ gw) (kk : Snd g l Y Q (pc + 3) D) : Snd g l Y Q pc (op_call ij f n D) := by
  intro p e s m args below meth c C lv st w res h hL hS H locs ls hW hA hl
  obtain ⟨hb, h⟩ := cond_some h
  obtain ⟨⟨r, w'⟩, h1, h⟩ := Option.bind_eq_some_iff.mp h
  obtain ⟨b1, b2⟩ := (Bool.and_eq_true _ _).mp hb
  have hlen : n ≤ st.length := Nat.le_of_ble_eq_true b1
  have hts := C.2.2.2.2.2.1
  have hmet := hM H.size _ _ _ h1 (okS_args hS)
  have cb := callB_of (R := Y.2.2.2.2.1) (mc := 0) (ms := 0) n hts (goodU hC) rfl hC.2.2.2.1 hC.2.2.2.2 (hts _ hC.2.1) (hts _ hw) hC.2.2.1 hR.1
  have run := va_runS (H := H) (locs := locs) (cells := Y.2.2.2.2.2.1) (slots := Y.2.2.2.2.2.2) (below := below) (meth := meth) (e := e) (As := (st.take n).reverse.map (phys g)) (rest := (st.drop n).map (phys g)) (g := F0 m pc ls (st.map (phys g))) ⟨C.1, C.2.1, C.2.2.2.1, C.2.2.2.2.1, hts⟩ hmet ⟨cb, hts _ hs⟩ ⟨pre_blind _ _ _, fun U hU hwm => pre_at C.2.2.2.2.2.2.2.2 hW hA hU hwm⟩ rfl (by simp [Nat.min_eq_left hlen]) hl.1 drop_split (lv_room (by rw [stw_eq]; exact Nat.le_of_ble_eq_true b2)) hd ⟨hR.2.1, hR.2.2⟩
  refine after_call run hA (fun H1 locs1 hok hW1 hA1 => ?_)
  rw [toList_map, ← List.map_append]
  exact kk p e s m args below meth c C lv _ w' res h hL (okS_of_toList hok (okS_drop hS)) H1 locs1 ls hW1 hA1 hl
/-- a static method of a nest mate -/
theorem snd_callSN {ij : IJ σ} {f : List VV → Wd → Option (σ × Wd)} {n index : Nat} {host : String} (hd : decode Y.2.1 pc = .ok (.invokestatic index, 3)) (hM : Mt g l Z ij f) (hC : CO Z n) (hR : RO Y Z) (hs : Cond.static Z.1 ∈ gw) (hw : Cond.methodLinkNest Y.1.cls index Z.1 host ∈ lw_tbl) (kk : Snd g l Y Q (pc + 3) D) : Snd g l Y Q pc (op_call ij f n D) := by
  intro p e s m args below meth c C lv st w res h hL hS H locs ls hW hA hl
  obtain ⟨hb, h⟩ := cond_some h
  obtain ⟨⟨r, w'⟩, h1, h⟩ := Option.bind_eq_some_iff.mp h
  obtain ⟨b1, b2⟩ := (Bool.and_eq_true _ _).mp hb
  have hlen : n ≤ st.length := Nat.le_of_ble_eq_true b1
  have hts := C.2.2.2.2.2.1
  have hmet := hM H.size _ _ _ h1 (okS_args hS)
  have cb := va_cnB (R := Y.2.2.2.2.1) (mc := 0) (ms := 0) n hts (goodU hC) rfl hC.2.2.2.1 hC.2.2.2.2 (C.2.2.2.2.2.2.2.2.2.1 _ hw rfl) (hts _ hC.2.1) hC.2.2.1 hR.1
  have run := va_runSN (H := H) (locs := locs) (cells := Y.2.2.2.2.2.1) (slots := Y.2.2.2.2.2.2) (below := below) (meth := meth) (e := e) (As := (st.take n).reverse.map (phys g)) (rest := (st.drop n).map (phys g)) (g := F0 m pc ls (st.map (phys g))) ⟨C.1, C.2.1, C.2.2.2.1, C.2.2.2.2.1, hts⟩ hmet ⟨cb, hts _ hs, trivial⟩ ⟨pre_blind _ _ _, fun U hU hwm => pre_at C.2.2.2.2.2.2.2.2 hW hA hU hwm⟩ rfl (by simp [Nat.min_eq_left hlen]) hl.1 drop_split (lv_room (by rw [stw_eq]; exact Nat.le_of_ble_eq_true b2)) hd ⟨hR.2.1, hR.2.2⟩
  refine after_call run hA (fun H1 locs1 hok hW1 hA1 => ?_)
  rw [toList_map, ← List.map_append]
  exact kk p e s m args below meth c C lv _ w' res h hL (okS_of_toList hok (okS_drop hS)) H1 locs1 ls hW1 hA1 hl
theorem recv_obj {s : State} {H : Heap} {w : Wd} {c N i : Nat} {R0 : String} {T : u_T} (hG : GOK g) (hK : va_K g.2.2.2.1 cls12 (gtys g) s) (hF : FOK c R0 T N) (hW : WH g w H) (hi : i < cntV c) : ∃ cell : Cell, H[g.1 c i]? = some cell ∧ cell.vm.isStatics = false ∧ s.vm.findClass R0 = some cell.cls := by
  obtain ⟨kq, hkq⟩ := wls_get hG w (show i < cntK c by rw [← cntV_o hF.1]; exact hi)
  rw [cell_obj (ktag_o c hF.1)] at hkq
  exact va_recv hK hW.2 hF.2.1 hkq
theorem callV_args {c n : Nat} {st : List VV} (h : (match (st.take n).reverse with
  | .inr (.inr (some q)) :: _ => Nat.beq q.1 c
  | _ => false) = true) : ∃ i r, (st.take n).reverse = .inr (.inr (some (c, i))) :: r := by
  split at h
  · rename_i q r hq
    have := Nat.eq_of_beq_eq_true h
    subst this
    exact ⟨q.2, r, hq⟩
  · cases h
theorem drop_splitV {n : Nat} {st : List VV} {v : VV} {r : List VV} (h : (st.take n).reverse = v :: r) : st.map (phys g) = (r.map (phys g)).reverse ++ phys g v :: (st.drop n).map (phys g) := by
  have := drop_split (g := g) (n := n) (st := st)
  rw [h, List.map_cons, List.reverse_cons, List.append_assoc] at this
  exact this
/-- a method of an object -/
theorem snd_callV {ij : IJ σ} {f : List VV → Wd → Option (σ × Wd)} {n index c N : Nat} {R0 : String} {T : u_T} (hd : decode Y.2.1 pc = .ok (.invokevirtual index, 3)) (hM : Mt g l Z ij f) (hC : CO Z n) (hR : RO Y Z) (hF : FOK c R0 T N) (hi : Cond.instanceMethod Z.1 ∈ gw) (hs : Cond.selects R0 Z.1 Z.1 ∈ gw) (hw : Cond.methodLink Y.1.cls index Z.1 ∈ gw) (kk : Snd g l Y Q (pc + 3) D) : Snd g l Y Q pc (op_callV c ij f (n + 1) D) := by
  intro p e s m args below meth c0 C lv st w res h hL hS H locs ls hW hA hl
  obtain ⟨hv, h⟩ := cond_some h
  obtain ⟨i, ra, hra⟩ := callV_args hv
  obtain ⟨hb, h⟩ := cond_some h
  obtain ⟨⟨r, w'⟩, h1, h⟩ := Option.bind_eq_some_iff.mp h
  obtain ⟨b1, b2⟩ := (Bool.and_eq_true _ _).mp hb
  have hlen : n + 1 ≤ st.length := Nat.le_of_ble_eq_true b1
  have hts := C.2.2.2.2.2.1
  have hoka := okS_args (n := n + 1) hS
  have hmet := hM H.size _ _ _ h1 hoka
  have hlr : ra.length = n := by
    have := congrArg List.length hra
    simp [Nat.min_eq_left hlen] at this
    omega
  rw [hra] at hmet hoka
  have cb := callB_of (R := Y.2.2.2.2.1) (mc := 0) (ms := 0) n hts (goodU hC) rfl hC.2.2.2.1 hC.2.2.2.2 (hts _ hC.2.1) (hts _ hw) hC.2.2.1 hR.1
  have run := va_runV (H := H) (locs := locs) (cells := Y.2.2.2.2.2.1) (slots := Y.2.2.2.2.2.2) (below := below) (meth := meth) (e := e) (b := g.1 c i) (As := ra.map (phys g)) (rest := (st.drop (n + 1)).map (phys g)) (g := F0 m pc ls (st.map (phys g))) ⟨C.1, C.2.1, C.2.2.2.1, C.2.2.2.2.1, hts⟩ hmet ⟨cb, hts _ hi, hts _ hs⟩ ⟨pre_blind _ _ _, recv_obj C.2.2.2.2.2.2.2.1 C.2.2.2.2.2.2.2.2.1 hF hW (hoka _ List.mem_cons_self), fun U hU hwm => pre_at C.2.2.2.2.2.2.2.2 hW hA hU hwm⟩ rfl (by simp [hlr]) hl.1 (drop_splitV hra) (lv_room (by rw [stw_eq]; exact Nat.le_of_ble_eq_true b2)) hd ⟨hR.2.1, hR.2.2⟩
  refine after_call run hA (fun H1 locs1 hok hW1 hA1 => ?_)
  rw [toList_map, ← List.map_append]
  exact kk p e s m args below meth c0 C lv _ w' res h hL (okS_of_toList hok (okS_drop hS)) H1 locs1 ls hW1 hA1 hl
/-- a private method of a nest mate's object -/
theorem snd_callVN {ij : IJ σ} {f : List VV → Wd → Option (σ × Wd)} {n index c N : Nat} {R0 host : String} {T : u_T} (hd : decode Y.2.1 pc = .ok (.invokevirtual index, 3)) (hM : Mt g l Z ij f) (hC : CO Z n) (hR : RO Y Z) (hF : FOK c R0 T N) (hi : Cond.instanceMethod Z.1 ∈ gw) (hs : Cond.selects R0 Z.1 Z.1 ∈ gw) (hw : Cond.methodLinkNest Y.1.cls index Z.1 host ∈ lw_tbl) (kk : Snd g l Y Q (pc + 3) D) : Snd g l Y Q pc (op_callV c ij f (n + 1) D) := by
  intro p e s m args below meth c0 C lv st w res h hL hS H locs ls hW hA hl
  obtain ⟨hv, h⟩ := cond_some h
  obtain ⟨i, ra, hra⟩ := callV_args hv
  obtain ⟨hb, h⟩ := cond_some h
  obtain ⟨⟨r, w'⟩, h1, h⟩ := Option.bind_eq_some_iff.mp h
  obtain ⟨b1, b2⟩ := (Bool.and_eq_true _ _).mp hb
  have hlen : n + 1 ≤ st.length := Nat.le_of_ble_eq_true b1
  have hts := C.2.2.2.2.2.1
  have hoka := okS_args (n := n + 1) hS
  have hmet := hM H.size _ _ _ h1 hoka
  have hlr : ra.length = n := by
    have := congrArg List.length hra
    simp [Nat.min_eq_left hlen] at this
    omega
  rw [hra] at hmet hoka
  have cb := va_cnB (R := Y.2.2.2.2.1) (mc := 0) (ms := 0) n hts (goodU hC) rfl hC.2.2.2.1 hC.2.2.2.2 (C.2.2.2.2.2.2.2.2.2.1 _ hw rfl) (hts _ hC.2.1) hC.2.2.1 hR.1
  have run := va_runVN (H := H) (locs := locs) (cells := Y.2.2.2.2.2.1) (slots := Y.2.2.2.2.2.2) (below := below) (meth := meth) (e := e) (b := g.1 c i) (As := ra.map (phys g)) (rest := (st.drop (n + 1)).map (phys g)) (g := F0 m pc ls (st.map (phys g))) ⟨C.1, C.2.1, C.2.2.2.1, C.2.2.2.2.1, hts⟩ hmet ⟨cb, hts _ hi, hts _ hs⟩ ⟨pre_blind _ _ _, recv_obj C.2.2.2.2.2.2.2.1 C.2.2.2.2.2.2.2.2.1 hF hW (hoka _ List.mem_cons_self), fun U hU hwm => pre_at C.2.2.2.2.2.2.2.2 hW hA hU hwm⟩ rfl (by simp [hlr]) hl.1 (drop_splitV hra) (lv_room (by rw [stw_eq]; exact Nat.le_of_ble_eq_true b2)) hd ⟨hR.2.1, hR.2.2⟩
  refine after_call run hA (fun H1 locs1 hok hW1 hA1 => ?_)
  rw [toList_map, ← List.map_append]
  exact kk p e s m args below meth c0 C lv _ w' res h hL (okS_of_toList hok (okS_drop hS)) H1 locs1 ls hW1 hA1 hl
/-- a method of a word -/
theorem snd_callE {ij : IJ σ} {f : List VV → Wd → Option (σ × Wd)} {n index : Nat} (hd : decode Y.2.1 pc = .ok (.invokevirtual index, 3)) (hM : Mt g l Z ij f) (hC : CO Z n) (hR : RO Y Z) (hi : Cond.instanceMethod Z.1 ∈ gw) (hs : Cond.selects RX9 Z.1 Z.1 ∈ gw) (hw : Cond.methodLink Y.1.cls index Z.1 ∈ gw) (kk : Snd g l Y Q (pc + 3) D) : Snd g l Y Q pc (op_callV 21 ij f (n + 1) D) := by
  intro p e s m args below meth c0 C lv st w res h hL hS H locs ls hW hA hl
  obtain ⟨hv, h⟩ := cond_some h
  obtain ⟨i, ra, hra⟩ := callV_args hv
  obtain ⟨hb, h⟩ := cond_some h
  obtain ⟨⟨r, w'⟩, h1, h⟩ := Option.bind_eq_some_iff.mp h
  obtain ⟨b1, b2⟩ := (Bool.and_eq_true _ _).mp hb
  have hlen : n + 1 ≤ st.length := Nat.le_of_ble_eq_true b1
  have hts := C.2.2.2.2.2.1
  have hoka := okS_args (n := n + 1) hS
  have hmet := hM H.size _ _ _ h1 hoka
  have hlr : ra.length = n := by
    have := congrArg List.length hra
    simp [Nat.min_eq_left hlen] at this
    omega
  rw [hra] at hmet hoka
  have hi28 : i < 28 := hoka _ List.mem_cons_self
  obtain ⟨cell, k1, k2, k3, -⟩ := (C.2.2.2.2.2.2.2.2.2.2.1.1 i hi28).2.1.kept hA.2.1
  have cb := callB_of (R := Y.2.2.2.2.1) (mc := 0) (ms := 0) n hts (goodU hC) rfl hC.2.2.2.1 hC.2.2.2.2 (hts _ hC.2.1) (hts _ hw) hC.2.2.1 hR.1
  have run := va_runV (C := RX9) (H := H) (locs := locs) (cells := Y.2.2.2.2.2.1) (slots := Y.2.2.2.2.2.2) (below := below) (meth := meth) (e := e) (b := g.1 21 i) (As := ra.map (phys g)) (rest := (st.drop (n + 1)).map (phys g)) (g := F0 m pc ls (st.map (phys g))) ⟨C.1, C.2.1, C.2.2.2.1, C.2.2.2.2.1, hts⟩ hmet ⟨cb, hts _ hi, hts _ hs⟩ ⟨pre_blind _ _ _, ⟨cell, k1, k2, k3⟩, fun U hU hwm => pre_at C.2.2.2.2.2.2.2.2 hW hA hU hwm⟩ rfl (by simp [hlr]) hl.1 (drop_splitV hra) (lv_room (by rw [stw_eq]; exact Nat.le_of_ble_eq_true b2)) hd ⟨hR.2.1, hR.2.2⟩
  refine after_call run hA (fun H1 locs1 hok hW1 hA1 => ?_)
  rw [toList_map, ← List.map_append]
  exact kk p e s m args below meth c0 C lv _ w' res h hL (okS_of_toList hok (okS_drop hS)) H1 locs1 ls hW1 hA1 hl
end CALL
