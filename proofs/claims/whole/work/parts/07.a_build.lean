/-! ===== constructors: cells by the order of their making =====
A reference is (0, k): the k-th cell that was made. CE: an object (its class, its fields), or an array (its kind, its length, what was written). -/
abbrev CE : Type := (Nat × List VV) ⊕ (Nat × Nat × List (Nat × VV))
/-- the cells; how many cells and slots this method made -/
abbrev CS : Type := List CE × Nat × Nat
abbrev CD : Type := Lv → List VV → CS → Option (List CE)
abbrev GB : Type := Nat × va_G × (Nat → ClassId)
def gas (gb : GB) (as : List Nat) : GG := (fun _ i => as.getD i 0, fun _ => (0, 0), [], gb.2.1, gb.2.2)
def iAt : List (Nat × VV) → Nat → Int32
  | [], _ => 0
  | (j, .inl x) :: r, k => if k = j then x else iAt r k
  | _ :: r, k => iAt r k
def jAt : List (Nat × VV) → Nat → Int64
  | [], _ => 0
  | (j, .inr (.inl x)) :: r, k => if k = j then x else jAt r k
  | _ :: r, k => jAt r k
def rAt : List (Nat × VV) → Nat → Option (Nat × Nat)
  | [], _ => none
  | (j, .inr (.inr x)) :: r, k => if k = j then x else rAt r k
  | _ :: r, k => rAt r k
def ceE (gb : GB) (as : List Nat) (c : CE) : va_E := match c with
  | .inl (ci, fs) => .inr (ci, fs.map (phys (gas gb as)))
  | .inr (0, n, l) => .inl (gb.2.2 0, n, .inl (iAt l))
  | .inr (1, n, l) => .inl (gb.2.2 1, n, .inr (.inl (jAt l)))
  | .inr (2, n, l) => .inl (gb.2.2 2, n, .inl (iAt l))
  | .inr (3, n, l) => .inl (gb.2.2 3, n, .inl (iAt l))
  | .inr (j, n, l) => .inl (gb.2.2 j, n, .inr (.inr (.inr (.inr fun k => (rAt l k).map fun q => as.getD q.2 0))))
def ce0 : CE := .inl (99, [])
def wz (gb : GB) (as : List Nat) (cs : List CE) : va_W := (List.range cs.length).map fun k => (as.getD k 0, ceE gb as (cs.getD k ce0))
/-- references stay below n -/
def okN (n : Nat) (v : VV) : Prop := match v with
  | .inr (.inr (some q)) => q.2 < n
  | _ => True
def okC (n : Nat) (c : CE) : Prop := match c with
  | .inl (_, fs) => ∀ v ∈ fs, okN n v
  | .inr (_, _, l) => ∀ q ∈ l, okN n q.2
def okNS (n : Nat) (st : List VV) : Prop := ∀ v ∈ st, okN n v
def okNL (n : Nat) (lv : Lv) : Prop := ∀ v, some v ∈ lv → okN n v
/-- what a constructor may change: the cells that were there, and those that it makes -/
def cA (as0 : List Nat) (n : Nat) : Nat → Prop := fun q => q ∈ as0 ∨ n ≤ q
def CH (gb : GB) (as : List Nat) (cs : List CE) (H : Heap) : Prop := as.length = cs.length ∧ (∀ c ∈ cs, okC cs.length c) ∧ va_P gb.2.1 cls12 (wz gb as cs) H ∧ va_D (fun _ => True) (wz gb as cs)
theorem okN_mono {n m : Nat} (h : n ≤ m) {v : VV} (hv : okN n v) : okN m v := by
  match v, hv with
  | .inl _, _ => trivial
  | .inr (.inl _), _ => trivial
  | .inr (.inr none), _ => trivial
  | .inr (.inr (some q)), hv => exact Nat.lt_of_lt_of_le hv h
theorem okC_mono {n m : Nat} (h : n ≤ m) {c : CE} (hc : okC n c) : okC m c := by
  match c, hc with
  | .inl (_, fs), hc => exact fun v hv => okN_mono h (hc v hv)
  | .inr (_, _, l), hc => exact fun q hq => okN_mono h (hc q hq)
theorem okNS_mono {n m : Nat} (h : n ≤ m) {st : List VV} (hs : okNS n st) : okNS m st := fun v hv => okN_mono h (hs v hv)
theorem okNL_mono {n m : Nat} (h : n ≤ m) {lv : Lv} (hs : okNL n lv) : okNL m lv := fun v hv => okN_mono h (hs v hv)
theorem phys_ext {gb : GB} {as bs : List Nat} {v : VV} (h : okN as.length v) : phys (gas gb (as ++ bs)) v = phys (gas gb as) v := by
  match v, h with
  | .inl _, _ => rfl
  | .inr (.inl _), _ => rfl
  | .inr (.inr none), _ => rfl
  | .inr (.inr (some q)), h =>
    have h1 : q.2 < as.length := h
    show Value.ref ((as ++ bs).getD q.2 0) = Value.ref (as.getD q.2 0)
    simp [List.getD, List.getElem?_append_left h1]
theorem map_phys_ext {gb : GB} {as bs : List Nat} {st : List VV} (h : okNS as.length st) : st.map (phys (gas gb (as ++ bs))) = st.map (phys (gas gb as)) := List.map_congr_left fun v hv => phys_ext (h v hv)
theorem rAt_ok {n : Nat} : ∀ {l : List (Nat × VV)} {k : Nat} {q : Nat × Nat}, (∀ q ∈ l, okN n q.2) → rAt l k = some q → q.2 < n
  | [], k, q, _, h => by simp [rAt] at h
  | (j, .inr (.inr x)) :: r, k, q, ho, h => by
    simp only [rAt] at h
    split at h
    · subst h
      exact ho _ List.mem_cons_self
    · exact rAt_ok (fun z hz => ho z (List.mem_cons_of_mem _ hz)) h
  | (j, .inl x) :: r, k, q, ho, h => rAt_ok (l := r) (fun z hz => ho z (List.mem_cons_of_mem _ hz)) h
  | (j, .inr (.inl x)) :: r, k, q, ho, h => rAt_ok (l := r) (fun z hz => ho z (List.mem_cons_of_mem _ hz)) h
theorem ceE_ext {gb : GB} {as bs : List Nat} {c : CE} (h : okC as.length c) : ceE gb (as ++ bs) c = ceE gb as c := by
  match c, h with
  | .inl (ci, fs), h => simp only [ceE]; rw [map_phys_ext h]
  | .inr (0, n, l), _ => rfl
  | .inr (1, n, l), _ => rfl
  | .inr (2, n, l), _ => rfl
  | .inr (3, n, l), _ => rfl
  | .inr (j + 4, n, l), h =>
    simp only [ceE]
    refine congrArg (fun z => (Sum.inl (gb.2.2 (j + 4), n, .inr (.inr (.inr (.inr z)))) : va_E)) ?_
    funext k
    cases hr : rAt l k with
    | none => rfl
    | some q =>
      have h1 : q.2 < as.length := rAt_ok h hr
      simp [List.getD, List.getElem?_append_left h1]
theorem wz_get {gb : GB} {as : List Nat} {cs : List CE} {k : Nat} {c : CE} (h : cs[k]? = some c) : (wz gb as cs)[k]? = some (as.getD k 0, ceE gb as c) := by
  have hk := (List.getElem?_eq_some_iff.mp h).1
  rw [wz, rng_get hk]
  simp [List.getD, h]
theorem wz_set {gb : GB} {as : List Nat} {cs : List CE} {k : Nat} {c c' : CE} (h : cs[k]? = some c) : (wz gb as cs).set k (as.getD k 0, ceE gb as c') = wz gb as (cs.set k c') := by
  have hk := (List.getElem?_eq_some_iff.mp h).1
  unfold wz
  rw [List.length_set]
  refine range_set hk ?_ (fun j hj hn => ?_)
  · simp [List.getD, hk]
  · simp [List.getD, List.getElem?_set_ne (Ne.symm hn)]
theorem wz_app {gb : GB} {as : List Nat} {cs : List CE} {q : Nat} {c : CE} (hl : as.length = cs.length) (ho : ∀ c ∈ cs, okC cs.length c) (hc : okC (cs.length + 1) c) : wz gb (as ++ [q]) (cs ++ [c]) = wz gb as cs ++ [(q, ceE gb (as ++ [q]) c)] := by
  unfold wz
  rw [List.length_append, List.length_singleton, List.range_succ, List.map_append]
  congr 1
  · refine List.map_congr_left fun k hk => ?_
    have hk' := List.mem_range.mp hk
    have h1 : (as ++ [q]).getD k 0 = as.getD k 0 := by simp [List.getD, List.getElem?_append_left (show k < as.length by omega)]
    have h2 : (cs ++ [c]).getD k ce0 = cs.getD k ce0 := by simp [List.getD, List.getElem?_append_left hk']
    rw [h1, h2, ceE_ext]
    rw [hl]
    have h3 : cs[k]? = some cs[k] := List.getElem?_eq_getElem hk'
    rw [show cs.getD k ce0 = cs[k] by simp [List.getD, h3]]
    exact ho _ (List.getElem_mem hk')
  · simp [List.getD, hl]
/-- the classes that arrays are made of -/
def aoL : List String := [RX7, RX2, RX5, RX9]
def CxC (gb : GB) (Y : MD) (p : Program) (s : State) (m : MethodId) (args : Array Value) (meth : Method) (c : Code) : Prop :=
  p.tables.exec = Jvm.exec ∧ c.code = Y.2.1 ∧ meth.sig.returnType = none ∧ c.maxLocals = Y.2.2.1 ∧ s.vm.findClass Y.1.cls = some m.cls ∧ (∀ w ∈ gw, w.before args s = true) ∧ meth.locks = false ∧ meth.name = "<init>" ∧ va_K gb.2.1 cls12 (gtys (gas gb [])) s ∧ (∀ w ∈ lw_tbl, isNest w = true → va_Nw w s) ∧ (∀ C ∈ aoL, va_AO C s)
abbrev CQt : Type := Array Value → State → List Frame → List CE → State → Prop
def CSn (gb : GB) (l : Launch) (Y : MD) (Q : List Nat → CQt) (pc : Nat) (D : CD) : Prop :=
  ∀ (p : Program) (e : Env) (s : State) (m : MethodId) (args : Array Value) (below : List Frame) (meth : Method) (c : Code), CxC gb Y p s m args meth c →
  ∀ (lv : Lv) (st : List VV) (w : CS) (res : List CE), D lv st w = some res → ∀ (as0 as1 : List Nat), (∀ a ∈ as1, s.heap.size ≤ a) → okNL (as0 ++ as1).length lv → okNS (as0 ++ as1).length st →
  ∀ (H : Heap) (locs : List Loc) (ls : Array Slot), CH gb (as0 ++ as1) w.1 H → va_S (cA as0 s.heap.size) s.heap H locs → lv_has ls Y.2.2.1 (plv (gas gb (as0 ++ as1)) 0 lv) →
  W p l e Y.2.2.2.2.1 s m args below meth c H locs w.2.1 w.2.2 (Q as0 args s below res) (F0 m pc ls (st.map (phys (gas gb (as0 ++ as1)))))
theorem cA_D {gb : GB} {as0 as1 : List Nat} {cs : List CE} {H : Heap} {n : Nat} (h : CH gb (as0 ++ as1) cs H) (hN : ∀ a ∈ as1, n ≤ a) : va_D (cA as0 n) (wz gb (as0 ++ as1) cs) := by
  refine ⟨h.2.2.2.1, fun k q hk => ?_⟩
  have hk2 : k < cs.length := by
    have := (List.getElem?_eq_some_iff.mp hk).1
    rw [wz, rng_len] at this
    exact this
  rw [wz, rng_get hk2] at hk
  cases hk
  have hlt : k < (as0 ++ as1).length := by rw [h.1]; exact hk2
  have hm : (as0 ++ as1).getD k 0 ∈ as0 ++ as1 := by
    rw [List.getD_eq_getElem?_getD, List.getElem?_eq_getElem hlt]
    exact List.getElem_mem hlt
  exact (List.mem_append.mp hm).elim Or.inl (fun z => Or.inr (hN _ z))
theorem plv_ext {gb : GB} {as bs : List Nat} : ∀ {lv : Lv} {i : Nat}, okNL as.length lv → plv (gas gb (as ++ bs)) i lv = plv (gas gb as) i lv
  | [], _, _ => rfl
  | none :: l, i, h => by
    simp only [plv]
    exact plv_ext (fun v hv => h v (List.mem_cons_of_mem _ hv))
  | some v :: l, i, h => by
    simp only [plv]
    rw [phys_ext (h v List.mem_cons_self), plv_ext (fun v hv => h v (List.mem_cons_of_mem _ hv))]
theorem okNS_tail {n : Nat} {v : VV} {r : List VV} (h : okNS n (v :: r)) : okNS n r := fun x hx => h x (List.mem_cons_of_mem _ hx)
theorem okNS_cons {n : Nat} {v : VV} {r : List VV} (h : okN n v) (hr : okNS n r) : okNS n (v :: r) := fun x hx => by
  rcases List.mem_cons.mp hx with rfl | hx
  · exact h
  · exact hr x hx
theorem okNL_get {n : Nat} {lv : Lv} (h : okNL n lv) {k : Nat} {v : VV} (hk : lget lv k = some v) : okN n v := h v (lget_mem hk)
theorem okNL_ls1 {n : Nat} {lv : Lv} (h : okNL n lv) (i : Nat) {v : VV} (hv : okN n v) : okNL n (ls1 lv i v) := fun x hx => by
  obtain ⟨k, hk⟩ := lget_of_mem hx
  rcases ls1_get lv i k v x hk with ⟨-, rfl⟩ | ⟨-, h2, -⟩
  · exact hv
  · exact okNL_get h h2
section COPS
def cop_ci (v : Int32) (K : CD) : CD := fun lv st w => K lv (.inl v :: st) w
def cop_cl (v : Int64) (K : CD) : CD := fun lv st w => K lv (.inr (.inl v) :: st) w
def cop_il (i : Nat) (K : CD) : CD := fun lv st w => (lgI lv i).bind fun x => K lv (.inl x :: st) w
def cop_al (i : Nat) (K : CD) : CD := fun lv st w => (lgR lv i).bind fun x => K lv (.inr (.inr x) :: st) w
def cop_is (i : Nat) (K : CD) : CD := fun lv st w => (pI st).bind fun q => K (ls1 lv i (.inl q.1)) q.2 w
def cop_inc (i : Nat) (n : Int32) (K : CD) : CD := fun lv st w => (lgI lv i).bind fun x => K (ls1 lv i (.inl (x + n))) st w
def cop_dup (K : CD) : CD := fun lv st w => (pV st).bind fun q => K lv (q.1 :: q.1 :: q.2) w
def cop_icge (T E : CD) : CD := fun lv st w => (pI st).bind fun q => (pI q.2).bind fun q2 => if q.1 ≤ q2.1 then T lv q2.2 w else E lv q2.2 w
def cop_icgt (T E : CD) : CD := fun lv st w => (pI st).bind fun q => (pI q.2).bind fun q2 => if q.1 < q2.1 then T lv q2.2 w else E lv q2.2 w
def dfl (t : Nat) : VV := match t with
  | 0 => .inl 0
  | 6 => .inl 0
  | 1 => .inr (.inl 0)
  | _ => .inr (.inr none)
def cop_new (Y : MD) (ci : Nat) (K : CD) : CD := fun lv st w => cond (Nat.ble (w.2.1 + 1) Y.2.2.2.2.1.cells && Nat.ble (w.2.2 + NS.getD ci 0) Y.2.2.2.2.1.slots) (K lv (.inr (.inr (some (0, w.1.length))) :: st) (w.1 ++ [.inl (ci, (FT.getD ci []).map dfl)], w.2.1 + 1, w.2.2 + NS.getD ci 0)) none
/-- a new array of kind j -/
def cop_na (Y : MD) (j : Nat) (K : CD) : CD := fun lv st w => (pI st).bind fun n => cond (Nat.ble (w.2.1 + 1) Y.2.2.2.2.1.cells && Nat.ble (w.2.2 + n.1.toNatClampNeg) Y.2.2.2.2.1.slots && decide (¬ n.1 < 0) && Nat.ble n.1.toNatClampNeg 10000) (K lv (.inr (.inr (some (0, w.1.length))) :: n.2) (w.1 ++ [.inr (j, n.1.toNatClampNeg, [])], w.2.1 + 1, w.2.2 + n.1.toNatClampNeg)) none
def cop_pf (ci k : Nat) (K : CD) : CD := fun lv st w => (pR st).bind fun v => (pO v.2).bind fun a => match w.1[a.1.2]? with
  | some (.inl (c, fs)) => cond (Nat.beq c ci && Nat.blt k fs.length) (K lv a.2 (w.1.set a.1.2 (.inl (c, fs.set k (.inr (.inr v.1)))), w.2)) none
  | _ => none
def cop_gf (ci k : Nat) (K : CD) : CD := fun lv st w => (pO st).bind fun a => match w.1[a.1.2]? with
  | some (.inl (c, fs)) => cond (Nat.beq c ci) ((fs[k]?).bind fun v => K lv (v :: a.2) w) none
  | _ => none
def cop_si (K : CD) : CD := fun lv st w => (pI st).bind fun v => (pI v.2).bind fun x => (pO x.2).bind fun a => match w.1[a.1.2]? with
  | some (.inr (0, n, u)) => cond (ib x.1 n) (K lv a.2 (w.1.set a.1.2 (.inr (0, n, (x.1.toNatClampNeg, .inl v.1) :: u)), w.2)) none
  | _ => none
def cop_sj (K : CD) : CD := fun lv st w => (pJ st).bind fun v => (pI v.2).bind fun x => (pO x.2).bind fun a => match w.1[a.1.2]? with
  | some (.inr (1, n, u)) => cond (ib x.1 n) (K lv a.2 (w.1.set a.1.2 (.inr (1, n, (x.1.toNatClampNeg, .inr (.inl v.1)) :: u)), w.2)) none
  | _ => none
/-- an object of class ci into an array of kind j -/
def cop_sq (j ci : Nat) (K : CD) : CD := fun lv st w => (pO st).bind fun v => (pI v.2).bind fun x => (pO x.2).bind fun a => match w.1[v.1.2]?, w.1[a.1.2]? with
  | some (.inl (c, _)), some (.inr (j', n, u)) => cond (Nat.beq c ci && Nat.beq j' j) (cond (ib x.1 n) (K lv a.2 (w.1.set a.1.2 (.inr (j', n, (x.1.toNatClampNeg, .inr (.inr (some v.1))) :: u)), w.2)) none) none
  | _, _ => none
def cop_obj (K : CD) : CD := fun lv st w => (pO st).bind fun a => cond (Nat.ble (stw a.2) 8) (K lv a.2 w) none
def cop_ret (Y : MD) : CD := fun _ st w => match st with
  | [] => cond (Nat.ble w.2.1 Y.2.2.2.2.1.cells && Nat.ble w.2.2 Y.2.2.2.2.1.slots) (some w.1) none
  | _ => none
/-- a constructor's function: its arguments, the cells -/
def cfn (n : Nat) (D : CD) : List VV → List CE → Option (List CE) := fun as w => cond (Nat.ble (slv as) n) (D (entL n as) [] (w, 0, 0)) none
def cop_call (Y Z : MD) (f : List VV → List CE → Option (List CE)) (n : Nat) (K : CD) : CD := fun lv st w => cond (Nat.ble n st.length && Nat.ble (stw (st.drop n)) 8 && Nat.ble (w.2.1 + Z.2.2.2.2.1.cells) Y.2.2.2.2.1.cells && Nat.ble (w.2.2 + Z.2.2.2.2.1.slots) Y.2.2.2.2.1.slots) (cond (match (st.take n).reverse with
  | .inr (.inr (some _)) :: _ => true
  | _ => false) ((f (st.take n).reverse w.1).bind fun q => K lv (st.drop n) (q, w.2.1 + Z.2.2.2.2.1.cells, w.2.2 + Z.2.2.2.2.1.slots)) none) none
end COPS
