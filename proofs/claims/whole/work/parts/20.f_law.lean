/-! ===== the law's own instructions ===== -/
def R_law : String := "DrownedCaveLaw"
def lw_P (b : Addr) (xs : List Int32) (args : Array Value) (s : State) : Prop := args = #[.ref b] ∧ s.IntsAt b xs ∧ xs.length ≤ 448 ∧ (Jvm.Cond.and given_1 narrow_1).before args s = true
def lw_Q (_ : Array Value) (s : State) (o : Outcome) (t : State) : Prop := o = .returned (some (.int 1)) ∧ Framed s o t [] 600128 7301098
def lw_Z (below : List Frame) (a : Array Value) (s : State) : State → Prop := fun t => ∃ o, t.status = .running ∧ Ended t below o ∧ lw_Q a s o t
/-- the law's own end, with 1 on the stack, nothing written that was there before, its room as the claim has it -/
theorem lw_ret {p : Program} {l : Launch} {e : Env} {s : State} {m : MethodId} {below : List Frame} {meth : Method} {c : Code} {b : Nat} (hx : p.tables.exec = Jvm.exec) (hb : c.code = code) (hr : meth.sig.returnType = ret) (hlocks : meth.locks = false) {pc : Nat} {H : Heap} {ls : Array Slot} (hdg : decode code pc = .ok (.ireturn, 1)) : W p l e room_1 s m #[Value.ref b] below meth c H [] 600128 7301098 (lw_Z below #[Value.ref b] s) (F0 m pc ls [.int 1]) := by
  intro T hT X
  obtain ⟨fs, hret, hrun, hended, hW, hframe⟩ := X.leave (v := some (.int 1)) (hlocks := hlocks) (fun h => by rw [hr] at h; cases h)
  have hmeth' : T.vm.method? m = some meth := X.method'
  refine ⟨T.setFrames fs, ?_, .returned (some (.int 1)), hrun, hended, rfl, ⟨_, rfl⟩, hW, hframe⟩
  jvm_step X.here [X.here.top, hx, hb, hdg, hmeth', hr, ret, narrow_b1]
  (try refine ⟨rfl, ?_⟩); (try refine ⟨rfl, ?_⟩)
  first | (intro acts; rw [hret _ acts rfl rfl rfl]) | rw [hret _ _ rfl rfl rfl]
  exact Steps.refl _
/-- what holds at the law's entry: the machine, the code, the tables' words (any of lw_tbl by 'hts w (by decide +kernel)'), the script of L ints xs at the cell b, what the Statement gives of the start (any of its parts by flat_of_before) -/
def lw_At (p : Program) (s : State) (m : MethodId) (meth : Method) (c : Code) (b L : Nat) (xs : Nat → Int32) : Prop :=
  p.tables.exec = Jvm.exec ∧ c.code = code ∧ meth.sig.returnType = ret ∧ c.maxLocals = 7 ∧ s.vm.findClass R_law = some m.cls ∧ (∀ w ∈ lw_tbl, w.before #[Value.ref b] s = true) ∧ va_X b L xs s s.heap ∧ b < s.heap.size ∧ meth.locks = false ∧ (Jvm.Cond.and given_1 narrow_1).before #[Value.ref b] s = true
def Y_L (t : Nat) : MD := (yL_law, cL_law, 7, ret, room_1, 241 + t, 15829 + 6 * t)
/-- what the law knows of its start beside the world: the script, the pool's place, what a throw needs -/
def PL (g : GG) (b L : Nat) (xs : Nat → Int32) (args : Array Value) (s : State) : Prop := args = #[Value.ref b] ∧ va_X b L xs s s.heap ∧ b < s.heap.size ∧ g.1 22 0 = b ∧ (∀ a ∈ g.2.2.1, s.heap.size ≤ a) ∧ TX (gS g s.heap.size) s s.heap
def QL (g : GG) (b L : Nat) (xs : Nat → Int32) : Array Value → State → List Frame → Unit × Wd → State → Prop := fun args s below _ t => PL g b L xs args s → lw_Z below args s t
def op_sla (L : Nat) (xs : Nat → Int32) (K : Den Unit) : Den Unit := fun lv st w => (pI st).bind fun x => (pO x.2).bind fun q => cond (Nat.beq q.1.1 22) (cond (ib x.1 L) (K lv (.inl (xs x.1.toNatClampNeg) :: q.2) w) none) none
def op_sln (L : Nat) (K : Den Unit) : Den Unit := fun lv st w => (pO st).bind fun q => cond (Nat.beq q.1.1 22) (K lv (.inl (Int32.ofNat L) :: q.2) w) none
def op_lret : Den Unit := fun _ st w => match st with
  | [.inl x] => if x = 1 then some ((), w) else none
  | _ => none
def op_help (K : Den Unit) : Den Unit := fun lv st w => cond (Nat.ble 6 st.length && Nat.ble (stw (st.drop 6)) 8) ((f_L_rests (st.take 6).reverse w).bind fun q => K lv (.inl q.1 :: st.drop 6) q.2) none
section LAWOPS
variable {g : GG} {l : Launch} {b L t : Nat} {xs : Nat → Int32} {pc : Nat} {D : Den Unit}
theorem PL.out {args : Array Value} {s : State} (h : PL g b L xs args s) : ¬ gS g s.heap.size b := fun q => by
  rcases q with q | q
  · exact absurd (h.2.2.2.2.1 b q) (Nat.not_le.mpr h.2.2.1)
  · exact absurd q (Nat.not_le.mpr h.2.2.1)
theorem one22 {i : Nat} (h : okV (.inr (.inr (some (22, i))))) : i = 0 := by
  have h1 : i < 1 := h
  omega
theorem snd_sla {Y : MD} (hd : decode Y.2.1 pc = .ok (.iaload, 1)) (kk : Snd g l Y (QL g b L xs) (pc + 1) D) : Snd g l Y (QL g b L xs) pc (op_sla L xs D) := by
  intro p e s m args below meth c0 C lv st w res h hL hS H locs ls hW hA hl
  obtain ⟨⟨x, r⟩, h1, ha⟩ := Option.bind_eq_some_iff.mp h
  obtain ⟨⟨⟨κ, i⟩, r2⟩, h2, ha⟩ := Option.bind_eq_some_iff.mp ha
  have e1 := pI_eq h1
  have e2 : r = .inr (.inr (some (κ, i))) :: r2 := pO_eq h2
  subst e2
  subst e1
  obtain ⟨hκ, hb1⟩ := beq_some ha
  obtain ⟨hi, hb⟩ := cond_some hb1
  clear hb1 ha
  dsimp only at hκ hb hi
  subst hκ
  have hi0 := one22 (okS_tail hS _ List.mem_cons_self)
  subst hi0
  by_cases hP : PL g b L xs args s
  · have hbA := hP.out
    obtain ⟨p1, p2, p3, p4, p5, p6⟩ := hP
    subst p4
    exact va_sld C.1 C.2.1 p2 p3 hbA hA (ib_in hi) hd (kk p e s m args below meth c0 C lv (.inl (xs x.toNatClampNeg) :: r2) w res hb hL (okS_I (okS_tail (okS_tail hS))) H locs ls hW hA hl)
  · exact fun T hT X => ⟨T.setTop _, Steps.refl _, fun hq => absurd hq hP⟩
theorem snd_sln {Y : MD} (hd : decode Y.2.1 pc = .ok (.arraylength, 1)) (kk : Snd g l Y (QL g b L xs) (pc + 1) D) : Snd g l Y (QL g b L xs) pc (op_sln L D) := by
  intro p e s m args below meth c0 C lv st w res h hL hS H locs ls hW hA hl
  obtain ⟨⟨⟨κ, i⟩, r2⟩, h2, ha⟩ := Option.bind_eq_some_iff.mp h
  have e2 := pO_eq h2
  subst e2
  obtain ⟨hκ, hb⟩ := beq_some ha
  dsimp only at hκ hb
  subst hκ
  have hi0 := one22 (hS _ List.mem_cons_self)
  subst hi0
  by_cases hP : PL g b L xs args s
  · have hbA := hP.out
    obtain ⟨p1, p2, p3, p4, p5, p6⟩ := hP
    subst p4
    exact va_slen C.1 C.2.1 p2 p3 hbA hA hd (kk p e s m args below meth c0 C lv (.inl (Int32.ofNat L) :: r2) w res hb hL (okS_I (okS_tail hS)) H locs ls hW hA hl)
  · exact fun T hT X => ⟨T.setTop _, Steps.refl _, fun hq => absurd hq hP⟩
theorem snd_lret (ht : t ≤ 70) (hd : decode cL_law pc = .ok (.ireturn, 1)) : Snd g l (Y_L t) (QL g b L xs) pc op_lret := by
  intro p e s m args below meth c0 C lv st w res h hL hS H locs ls hW hA hl
  match st, h with
  | [.inl x], h =>
    have h1 : (if x = 1 then some ((), w) else none) = some res := h
    by_cases hx : x = 1
    · subst hx
      by_cases hP : PL g b L xs args s
      · have hP' := hP
        obtain ⟨p1, p2, p3, p4, p5, p6⟩ := hP
        subst p1
        refine va_forget (fun q hq => (hA.2.2 q hq).elim (p5 _) id) (W.widen (k := 600128) (n := 7301098) ?_ ?_ (W_mono (lw_ret C.1 C.2.1 C.2.2.1 C.2.2.2.2.2.2.1 hd) (fun t ht _ => ht)))
        · show 241 + t ≤ 600128
          omega
        · show 15829 + 6 * t ≤ 7301098
          omega
      · exact fun T hT X => ⟨T.setTop _, Steps.refl _, fun hq => absurd hq hP⟩
    · rw [if_neg hx] at h1
      cases h1
theorem snd_wide (k : Snd g l (Y_L (t + 1)) (QL g b L xs) pc D) : Snd g l (Y_L t) (QL g b L xs) pc D := fun p e s m args below meth c C lv st w res h hL hS H locs ls hW hA hl => W.widen (k := 241 + (t + 1)) (n := 15829 + 6 * (t + 1)) (by show 241 + t ≤ 241 + (t + 1); omega) (by show 15829 + 6 * t ≤ 15829 + 6 * (t + 1); omega) (k p e s m args below meth c C lv st w res h hL hS H locs ls hW hA hl)
theorem roL {Z : MD} (ht : t ≤ 70) (h : Z.2.2.2.2.1.frames + 1 ≤ 2048 ∧ 8 + (Z.2.2.1 + 11) + Z.2.2.2.2.1.locals ≤ 84000) : RO (Y_L t) Z := ⟨h, by show 241 + t ≤ 600128; omega, by show 15829 + 6 * t ≤ 7301098; omega⟩
theorem goodH : GoodIn gw wsH := fun w hw => by
  rcases List.mem_cons.mp hw with rfl | hw
  · exact ⟨kw_1168, gw_good kw_1168⟩
  · exact ⟨hw, gw_good hw⟩
theorem dscH : (parseMethodDescriptor yL_rests.desc).map (fun d => d.parameters.length) = some 6 := by decide +kernel
theorem snd_help (ht : t ≤ 70) (hG : GOK g) (hO : HO g) (hst : l.stackTraces = false) (hd : decode cL_law pc = .ok (.invokestatic 202, 3)) (kk : Snd g l (Y_L (t + 1)) (QL g b L xs) (pc + 3) D) : Snd g l (Y_L t) (QL g b L xs) pc (op_help D) := by
  intro p e s m args below meth c C lv st w res h hL hS H locs ls hW hA hl
  obtain ⟨hb, h⟩ := cond_some h
  obtain ⟨⟨r, w'⟩, h1, h⟩ := Option.bind_eq_some_iff.mp h
  obtain ⟨b1, b2⟩ := (Bool.and_eq_true _ _).mp hb
  have hlen : 6 ≤ st.length := Nat.le_of_ble_eq_true b1
  have hts := C.2.2.2.2.2.1
  by_cases hP : PL g b L xs args s
  · have hTX := hP.2.2.2.2.2
    have hmet := mt_L_rests (l := l) hG hO hst (sz := H.size) h1 (okS_args hS)
    have cw : vx_CSW room_1 s args RL 202 yL_rests cL_rests 7 (some .int) hhL wsH roomH 1 6 6 := ⟨⟨rfl, rfl, Nat.le_of_ble_eq_true rfl, Nat.le_of_ble_eq_true rfl, pay_in hts goodH, List.mem_cons_self⟩, hts _ kw_1168, hts _ kw_0, ⟨by decide, by decide⟩, (fun sig hs => by
      have h2 := dscH
      rw [hs] at h2
      exact (Option.some.inj h2).symm), hts _ kw_1166, hts _ kw_1167⟩
    have run := vx_runSW (H := H) (locs := locs) (cells := 241 + t) (slots := 15829 + 6 * t) (below := below) (meth := meth) (e := e) (As := (st.take 6).reverse.map (phys g)) (rest := (st.drop 6).map (phys g)) (g := F0 m pc ls (st.map (phys g))) ⟨C.1, C.2.1, C.2.2.2.1, C.2.2.2.2.1, hts⟩ hmet cw ⟨preX_blind _ _ _, fun U hU hwm => preX_at C.2.2.2.2.2.2.2.2 hTX hW hA hU hwm⟩ rfl (by simp [Nat.min_eq_left hlen]) hl.1 drop_split (lv_room (by rw [stw_eq]; exact Nat.le_of_ble_eq_true b2)) hd ⟨by show 241 + t + 1 ≤ 600128; omega, by show 15829 + 6 * t + 6 ≤ 7301098; omega⟩
    intro T hT X
    obtain ⟨v, st₀, t9, T', L9, h0, X', hL', e1, e2, ⟨hv, hok, hW1, hz, hk⟩, stp⟩ := run T hT X
    cases hv
    rw [h0] at hz hk
    have hA1 : va_S (gS g s.heap.size) s.heap T'.heap (locs ++ L9) := after_S hA (by rw [e1]; exact hz) (fun q q1 q2 => by rw [e1]; exact hk q q1 q2) hL'
    obtain ⟨t2, a1, b1⟩ := kk p e s m args below meth c C lv (.inl r :: st.drop 6) w' res h hL (okS_I (okS_drop hS)) T'.heap (locs ++ L9) ls (by rw [e1]; exact hW1) hA1 hl T' rfl (stand_widen X' (by show 241 + t + 1 ≤ 241 + (t + 1); omega) (by show 15829 + 6 * t + 6 ≤ 15829 + 6 * (t + 1); omega))
    exact ⟨t2, stp t2 a1, b1⟩
  · exact fun T hT X => ⟨T.setTop _, Steps.refl _, fun hq => absurd hq hP⟩
def LB_end (K : Den Unit) : Den Unit := op_kill 5 (op_kill 6 (op_inc 4 7 (op_goto K)))
theorem sLB_end (ht : t ≤ 70) {K : Den Unit} (hK : Snd g l (Y_L t) (QL g b L xs) 23 K) : Snd g l (Y_L t) (QL g b L xs) 1636 (LB_end K) := snd_kill 5 (snd_kill 6 (snd_inc (v := 7) dL_law_1636 rfl (Nat.le_of_ble_eq_true rfl) (snd_goto dL_law_1639 rfl hK)))
def LE : Den Unit := op_ci 1 op_lret
theorem sLE (ht : t ≤ 70) : Snd g l (Y_L t) (QL g b L xs) 1642 LE := snd_iconst (v := 1) dL_law_1642 rfl (snd_lret ht dL_law_1643)
end LAWOPS
