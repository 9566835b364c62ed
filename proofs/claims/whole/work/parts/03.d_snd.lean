/-! ===== what is known of a state; the judgement Snd ===== -/
def eNm : List String := ["PLACE", "DEEP", "WAY", "LONG", "DIVER", "GAS", "RAIN", "BREATH", "NARROW", "WIDE", "SWIM", "LAY", "STAGE", "TAKE", "SHARE", "STONE", "HOUR", "PLAIN", "OLD", "AFRAID", "CALM", "NOT", "AND", "OR", "DEPTH", "WHITE", "SILT", "HOURS"]
/-- the words' codes -/
def eCd : List Int64 := [17171557, 136368, 23609, 409031, 4511922, 7219, 591150, 86148744, 471419383, 763013, 646445, 12345, 20579557, 656741, 20186693, 20594117, 278194, 17171758, 15748, 40437028, 99725, 14836, 1476, 498, 4375176, 24389253, 632212, 8902227]
def isNest : Cond → Bool
  | .fieldLinkNest .. => true
  | .methodLinkNest .. => true
  | _ => false
def gw : List Cond := lw_tbl.filter goodWord
theorem gw_good {w : Cond} (h : w ∈ gw) : (w.onTables && w.keeps) = true ∨ ∃ ty, w = .arrayClass ty := good_of_word (List.mem_filter.mp h).2
def ST (g : GG) (n : Nat) (U : State) (H : Heap) : Prop :=
  va_K g.2.2.2.1 cls12 (gtys g) U ∧ (∀ w ∈ lw_tbl, isNest w = true → va_Nw w U) ∧
  va_En RX9 "LDrownedCave$Word;" eNm [] (g.1 21) (gS g n) U H ∧ va_Ef 28 RX9 "code" "J" (fun i => .long (eCd.getD i 0)) (g.1 21) (gS g n) U H ∧
  va_Z RX9 "KNOWN" "[LDrownedCave$Word;" (.ref (g.1 23 0)) (gS g n) U H ∧ va_T (.object RX9) (g.1 23 0) 28 (fun i => .ref (g.1 21 i)) (gS g n) U H ∧
  vk_R RX8 68 "()<=+-*;" (g.1 24 0) U ∧ vk_S 1 [8] [[40, 41, 60, 61, 43, 45, 42, 59]] (fun _ => g.1 24 0) (fun _ => g.1 25 0) (gS g n) U H ∧
  va_Z "java/lang/String" "COMPACT_STRINGS" "Z" (.int 1) (gS g n) U H
theorem ST.warm {g : GG} {n n' : Nat} {s U : State} {H H1 : Heap} (h : ST g n s H) (hW : s.WarmedH U.vm) (hk : ∀ a : Nat, a < H.size → ¬ gS g n a → H1[a]? = H[a]?) (hn : n ≤ n') : ST g n' U H1 := by
  have hAB : ∀ q, gS g n' q → gS g n q := fun q hq => hq.elim Or.inl (fun z => Or.inr (Nat.le_trans hn z))
  obtain ⟨h1, h2, h3, h4, h5, h6, h7, h8, h9⟩ := h
  refine ⟨va_K.moved hW.alike h1, fun w hw hn => ?_, ((va_En.moved hW.alike h3).kept hk).narrow hAB, ((va_Ef.moved hW.alike h4).kept hk).narrow hAB, ((va_Z.moved hW.alike h5).kept hk).narrow hAB, ((va_T.moved hW.alike h6).kept hk).narrow hAB, vk_R.warm hW h7, ((vk_S.moved hW.alike h8).kept hk).narrow hAB, ((va_Z.moved hW.alike h9).kept hk).narrow hAB⟩
  have := h2 w hw hn
  cases w with
  | fieldLinkNest a b c d e f => exact va_Nw.warmF hW this
  | methodLinkNest a b c d => exact va_Nw.warmM hW this
  | _ => simp [isNest] at hn
theorem ST.same {g : GG} {n : Nat} {u U : State} {H : Heap} (hv : U.vm = u.vm) (h : ST g n u H) : ST g n U H := by
  have hA : u.vm.Alike U.vm := by rw [hv]; exact Vm.Alike.refl _
  obtain ⟨h1, h2, h3, h4, h5, h6, h7, h8, h9⟩ := h
  refine ⟨va_K.moved hA h1, fun w hw hn => ?_, va_En.moved hA h3, va_Ef.moved hA h4, va_Z.moved hA h5, va_T.moved hA h6, vk_R.same hv h7, vk_S.moved hA h8, va_Z.moved hA h9⟩
  have := h2 w hw hn
  cases w with
  | fieldLinkNest a b c d e f => exact va_Nw.same rfl hv.symm this
  | methodLinkNest a b c d => exact va_Nw.same rfl hv.symm this
  | _ => simp [isNest] at hn
/-- a method: its name, code, locals, answer, room, the cells and slots that count as made -/
abbrev MD : Type := MethodName × ByteArray × Nat × Option FieldType × Room × Nat × Nat
def Cx (g : GG) (Y : MD) (p : Program) (s : State) (m : MethodId) (args : Array Value) (meth : Method) (c : Code) : Prop :=
  p.tables.exec = Jvm.exec ∧ c.code = Y.2.1 ∧ meth.sig.returnType = Y.2.2.2.1 ∧ c.maxLocals = Y.2.2.1 ∧ s.vm.findClass Y.1.cls = some m.cls ∧ (∀ w ∈ gw, w.before args s = true) ∧ meth.locks = false ∧ GOK g ∧ ST g s.heap.size s s.heap
/-- the locals that are known, as the kit has them -/
def plv (g : GG) : Nat → Lv → List (Nat × Value)
  | _, [] => []
  | i, none :: l => plv g (i + 1) l
  | i, some v :: l => (i, phys g v) :: plv g (i + 1) l
def Snd {ρ : Type} (g : GG) (l : Launch) (Y : MD) (Q : Array Value → State → List Frame → ρ × Wd → State → Prop) (pc : Nat) (D : Den ρ) : Prop :=
  ∀ (p : Program) (e : Env) (s : State) (m : MethodId) (args : Array Value) (below : List Frame) (meth : Method) (c : Code), Cx g Y p s m args meth c →
  ∀ (lv : Lv) (st : List VV) (w : Wd) (res : ρ × Wd), D lv st w = some res → okL lv → okS st →
  ∀ (H : Heap) (locs : List Loc) (ls : Array Slot), WH g w H → va_S (gS g s.heap.size) s.heap H locs → lv_has ls Y.2.2.1 (plv g 0 lv) →
  W p l e Y.2.2.2.2.1 s m args below meth c H locs Y.2.2.2.2.2.1 Y.2.2.2.2.2.2 (Q args s below res) (F0 m pc ls (st.map (phys g)))
/-- pops -/
def pI (st : List VV) : Option (Int32 × List VV) := match st with
  | .inl x :: r => some (x, r)
  | _ => none
def pJ (st : List VV) : Option (Int64 × List VV) := match st with
  | .inr (.inl x) :: r => some (x, r)
  | _ => none
def pR (st : List VV) : Option (Option (Nat × Nat) × List VV) := match st with
  | .inr (.inr x) :: r => some (x, r)
  | _ => none
def pO (st : List VV) : Option ((Nat × Nat) × List VV) := match st with
  | .inr (.inr (some x)) :: r => some (x, r)
  | _ => none
theorem pI_eq {st : List VV} {q : Int32 × List VV} (h : pI st = some q) : st = .inl q.1 :: q.2 := by
  unfold pI at h
  split at h
  · cases h; rfl
  · cases h
theorem pJ_eq {st : List VV} {q : Int64 × List VV} (h : pJ st = some q) : st = .inr (.inl q.1) :: q.2 := by
  unfold pJ at h
  split at h
  · cases h; rfl
  · cases h
theorem pR_eq {st : List VV} {q : Option (Nat × Nat) × List VV} (h : pR st = some q) : st = .inr (.inr q.1) :: q.2 := by
  unfold pR at h
  split at h
  · cases h; rfl
  · cases h
theorem pO_eq {st : List VV} {q : (Nat × Nat) × List VV} (h : pO st = some q) : st = .inr (.inr (some q.1)) :: q.2 := by
  unfold pO at h
  split at h
  · cases h; rfl
  · cases h
theorem okS_tail {v : VV} {r : List VV} (h : okS (v :: r)) : okS r := fun x hx => h x (List.mem_cons_of_mem _ hx)
theorem okS_cons {v : VV} {r : List VV} (h : okV v) (hr : okS r) : okS (v :: r) := fun x hx => by
  rcases List.mem_cons.mp hx with rfl | hx
  · exact h
  · exact hr x hx
theorem okS_I {x : Int32} {r : List VV} (hr : okS r) : okS (.inl x :: r) := okS_cons trivial hr
theorem okS_J {x : Int64} {r : List VV} (hr : okS r) : okS (.inr (.inl x) :: r) := okS_cons trivial hr
/-- locals -/
def lget : Lv → Nat → Option VV
  | [], _ => none
  | a :: _, 0 => a
  | _ :: t, n + 1 => lget t n
def isLg (a : Option VV) : Bool := match a with
  | some (.inr (.inl _)) => true
  | _ => false
def ls1 : Lv → Nat → VV → Lv
  | [], _, _ => []
  | _ :: t, 0, v => some v :: t
  | a :: t, 1, v => (cond (isLg a) none a) :: ls1 t 0 v
  | a :: t, n + 2, v => a :: ls1 t (n + 1) v
def ls2 : Lv → Nat → VV → Lv
  | [], _, _ => []
  | _ :: [], 0, v => [some v]
  | _ :: _ :: t, 0, v => some v :: none :: t
  | a :: t, 1, v => (cond (isLg a) none a) :: ls2 t 0 v
  | a :: t, n + 2, v => a :: ls2 t (n + 1) v
/-- forget a local -/
def lkill : Lv → Nat → Lv
  | [], _ => []
  | _ :: t, 0 => none :: t
  | a :: t, n + 1 => a :: lkill t n
theorem plv_mem {g : GG} {q : Nat × Value} : ∀ (lv : Lv) (i : Nat), q ∈ plv g i lv ↔ ∃ k v, lget lv k = some v ∧ q = (i + k, phys g v)
  | [], i => by simp [plv, lget]
  | none :: l, i => by
    rw [plv, plv_mem l (i + 1)]
    constructor
    · rintro ⟨k, v, h, rfl⟩
      exact ⟨k + 1, v, h, by rw [Nat.add_right_comm]; rfl⟩
    · rintro ⟨k, v, h, rfl⟩
      match k, h with
      | 0, h => simp [lget] at h
      | k + 1, h => exact ⟨k, v, h, by rw [Nat.add_right_comm]; rfl⟩
  | some a :: l, i => by
    rw [plv, List.mem_cons, plv_mem l (i + 1)]
    constructor
    · rintro (rfl | ⟨k, v, h, rfl⟩)
      · exact ⟨0, a, rfl, rfl⟩
      · exact ⟨k + 1, v, h, by rw [Nat.add_right_comm]; rfl⟩
    · rintro ⟨k, v, h, rfl⟩
      match k, h with
      | 0, h => 
        left
        simp only [lget, Option.some.injEq] at h
        rw [h]
        rfl
      | k + 1, h => exact Or.inr ⟨k, v, h, by rw [Nat.add_right_comm]; rfl⟩
theorem lget_mem : ∀ {lv : Lv} {k : Nat} {v : VV}, lget lv k = some v → some v ∈ lv
  | [], k, v, h => by simp [lget] at h
  | a :: t, 0, v, h => by simp only [lget] at h; rw [h]; exact List.mem_cons_self
  | a :: t, n + 1, v, h => List.mem_cons_of_mem _ (lget_mem (lv := t) h)
theorem ls1_len : ∀ (lv : Lv) (i : Nat) (v : VV), (ls1 lv i v).length = lv.length
  | [], _, _ => rfl
  | _ :: t, 0, v => rfl
  | a :: t, 1, v => by simp [ls1, ls1_len t 0 v]
  | a :: t, n + 2, v => by simp [ls1, ls1_len t (n + 1) v]
theorem ls1_get : ∀ (lv : Lv) (i k : Nat) (v x : VV), lget (ls1 lv i v) k = some x → (k = i ∧ x = v) ∨ (k ≠ i ∧ lget lv k = some x ∧ ¬ (k + 1 = i ∧ isLg (some x) = true))
  | [], i, k, v, x, h => by simp [ls1, lget] at h
  | a :: t, 0, 0, v, x, h => by simp only [ls1, lget, Option.some.injEq] at h; exact Or.inl ⟨rfl, h.symm⟩
  | a :: t, 0, k + 1, v, x, h => by simp only [ls1, lget] at h; exact Or.inr ⟨by omega, h, by omega⟩
  | a :: t, 1, 0, v, x, h => by
    simp only [ls1, lget] at h
    cases ha : isLg a with
    | true => rw [ha] at h; simp at h
    | false =>
      rw [ha] at h
      simp only [cond_false] at h
      refine Or.inr ⟨by omega, by simpa [lget] using h, ?_⟩
      rw [← h, ha]
      simp
  | a :: t, 1, k + 1, v, x, h => by
    simp only [ls1, lget] at h
    rcases ls1_get t 0 k v x h with ⟨h1, h2⟩ | ⟨h1, h2, h3⟩
    · exact Or.inl ⟨by omega, h2⟩
    · exact Or.inr ⟨by omega, h2, by omega⟩
  | a :: t, n + 2, 0, v, x, h => by simp only [ls1, lget] at h; exact Or.inr ⟨by omega, by simpa [lget] using h, by omega⟩
  | a :: t, n + 2, k + 1, v, x, h => by
    simp only [ls1, lget] at h
    rcases ls1_get t (n + 1) k v x h with ⟨h1, h2⟩ | ⟨h1, h2, h3⟩
    · exact Or.inl ⟨by omega, h2⟩
    · exact Or.inr ⟨by omega, h2, fun q => h3 ⟨by omega, q.2⟩⟩
theorem ls2_get : ∀ (lv : Lv) (i k : Nat) (v x : VV), lget (ls2 lv i v) k = some x → (k = i ∧ x = v) ∨ (k ≠ i ∧ k ≠ i + 1 ∧ lget lv k = some x ∧ ¬ (k + 1 = i ∧ isLg (some x) = true))
  | [], i, k, v, x, h => by simp [ls2, lget] at h
  | [a], 0, 0, v, x, h => by simp only [ls2, lget, Option.some.injEq] at h; exact Or.inl ⟨rfl, h.symm⟩
  | [a], 0, k + 1, v, x, h => by simp [ls2, lget] at h
  | a :: b :: t, 0, 0, v, x, h => by simp only [ls2, lget, Option.some.injEq] at h; exact Or.inl ⟨rfl, h.symm⟩
  | a :: b :: t, 0, 1, v, x, h => by simp [ls2, lget] at h
  | a :: b :: t, 0, k + 2, v, x, h => by simp only [ls2, lget] at h; exact Or.inr ⟨by omega, by omega, h, by omega⟩
  | a :: t, 1, 0, v, x, h => by
    simp only [ls2, lget] at h
    cases ha : isLg a with
    | true => rw [ha] at h; simp at h
    | false =>
      rw [ha] at h
      simp only [cond_false] at h
      refine Or.inr ⟨by omega, by omega, by simpa [lget] using h, ?_⟩
      rw [← h, ha]
      simp
  | a :: t, 1, k + 1, v, x, h => by
    simp only [ls2, lget] at h
    rcases ls2_get t 0 k v x h with ⟨h1, h2⟩ | ⟨h1, h0, h2, h3⟩
    · exact Or.inl ⟨by omega, h2⟩
    · exact Or.inr ⟨by omega, by omega, h2, by omega⟩
  | a :: t, n + 2, 0, v, x, h => by simp only [ls2, lget] at h; exact Or.inr ⟨by omega, by omega, by simpa [lget] using h, by omega⟩
  | a :: t, n + 2, k + 1, v, x, h => by
    simp only [ls2, lget] at h
    rcases ls2_get t (n + 1) k v x h with ⟨h1, h2⟩ | ⟨h1, h0, h2, h3⟩
    · exact Or.inl ⟨by omega, h2⟩
    · exact Or.inr ⟨by omega, by omega, h2, fun q => h3 ⟨by omega, q.2⟩⟩
theorem lkill_get : ∀ (lv : Lv) (i k : Nat) (x : VV), lget (lkill lv i) k = some x → lget lv k = some x
  | [], i, k, x, h => by simp [lkill, lget] at h
  | a :: t, 0, 0, x, h => by simp [lkill, lget] at h
  | a :: t, 0, k + 1, x, h => h
  | a :: t, n + 1, 0, x, h => h
  | a :: t, n + 1, k + 1, x, h => lkill_get t n k x h
theorem vcat_phys {g : GG} {v : VV} : (phys g v).category = 2 ↔ isLg (some v) = true := by
  match v with
  | .inl x => simp [phys, isLg, Value.category]
  | .inr (.inl x) => simp [phys, isLg, Value.category]
  | .inr (.inr none) => simp [phys, isLg, Value.category]
  | .inr (.inr (some q)) => simp [phys, isLg, Value.category]
theorem lget_of_mem : ∀ {lv : Lv} {v : VV}, some v ∈ lv → ∃ k, lget lv k = some v
  | a :: t, v, h => by
    rcases List.mem_cons.mp h with h | h
    · exact ⟨0, h.symm⟩
    · obtain ⟨k, hk⟩ := lget_of_mem h
      exact ⟨k + 1, hk⟩
theorem okL_of {lv : Lv} (h : ∀ k v, lget lv k = some v → okV v) : okL lv := fun v hv => by
  obtain ⟨k, hk⟩ := lget_of_mem hv
  exact h k v hk
theorem okL_get {lv : Lv} (h : okL lv) {k : Nat} {v : VV} (hk : lget lv k = some v) : okV v := h v (lget_mem hk)
theorem okL_ls1 {lv : Lv} (h : okL lv) (i : Nat) {v : VV} (hv : okV v) : okL (ls1 lv i v) := okL_of fun k x hk => by
  rcases ls1_get lv i k v x hk with ⟨-, rfl⟩ | ⟨-, h2, -⟩
  · exact hv
  · exact okL_get h h2
theorem okL_ls2 {lv : Lv} (h : okL lv) (i : Nat) {v : VV} (hv : okV v) : okL (ls2 lv i v) := okL_of fun k x hk => by
  rcases ls2_get lv i k v x hk with ⟨-, rfl⟩ | ⟨-, -, h2, -⟩
  · exact hv
  · exact okL_get h h2
theorem okL_kill {lv : Lv} (h : okL lv) (i : Nat) : okL (lkill lv i) := okL_of fun k x hk => okL_get h (lkill_get lv i k x hk)
theorem lv_has_get {g : GG} {ls : Array Slot} {n : Nat} {lv : Lv} (h : lv_has ls n (plv g 0 lv)) {k : Nat} {v : VV} (hk : lget lv k = some v) : ls[k]? = some (.val (phys g v)) := by
  have := h.2.2 (k, phys g v) ((plv_mem lv 0).mpr ⟨k, v, hk, by simp⟩)
  exact this
theorem lv_has_mono {ls : Array Slot} {n : Nat} {l l' : List (Nat × Value)} (h : lv_has ls n l) (hs : ∀ q ∈ l', q ∈ l) : lv_has ls n l' := ⟨h.1, h.2.1, fun q hq => h.2.2 q (hs q hq)⟩
theorem plv_ls1 {g : GG} {lv : Lv} {i : Nat} {v : VV} : ∀ q ∈ plv g 0 (ls1 lv i v), q ∈ (i, phys g v) :: (plv g 0 lv).filter (fun q => !(q.1 == i) && !(q.1 + 1 == i && q.2.category == 2)) := by
  intro q hq
  obtain ⟨k, x, hx, rfl⟩ := (plv_mem _ 0).mp hq
  rcases ls1_get lv i k v x hx with ⟨rfl, rfl⟩ | ⟨h1, h2, h3⟩
  · simp
  · refine List.mem_cons_of_mem _ (List.mem_filter.mpr ⟨(plv_mem _ 0).mpr ⟨k, x, h2, rfl⟩, ?_⟩)
    simp only [Nat.zero_add, Bool.and_eq_true, Bool.not_eq_true', beq_eq_false_iff_ne, ne_eq, Bool.and_eq_false_imp, beq_iff_eq]
    refine ⟨h1, fun h4 => ?_⟩
    intro h5
    exact h3 ⟨h4, vcat_phys.mp h5⟩
theorem plv_ls2 {g : GG} {lv : Lv} {i : Nat} {v : VV} : ∀ q ∈ plv g 0 (ls2 lv i v), q ∈ (i, phys g v) :: (plv g 0 lv).filter (fun q => !(q.1 == i) && (!(q.1 == i + 1) && !(q.1 + 1 == i && q.2.category == 2))) := by
  intro q hq
  obtain ⟨k, x, hx, rfl⟩ := (plv_mem _ 0).mp hq
  rcases ls2_get lv i k v x hx with ⟨rfl, rfl⟩ | ⟨h1, h0, h2, h3⟩
  · simp
  · refine List.mem_cons_of_mem _ (List.mem_filter.mpr ⟨(plv_mem _ 0).mpr ⟨k, x, h2, rfl⟩, ?_⟩)
    simp only [Nat.zero_add, Bool.and_eq_true, Bool.not_eq_true', beq_eq_false_iff_ne, ne_eq, Bool.and_eq_false_imp, beq_iff_eq]
    refine ⟨h1, h0, fun h4 => ?_⟩
    intro h5
    exact h3 ⟨h4, vcat_phys.mp h5⟩
