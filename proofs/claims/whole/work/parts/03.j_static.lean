/-! ===== the class's constant objects: the row of words, the signs' text ===== -/
section STAT
variable {ρ : Type}
def op_kn (K : Den ρ) : Den ρ := fun lv st w => K lv (.inr (.inr (some (23, 0))) :: st) w
def op_tx (K : Den ρ) : Den ρ := fun lv st w => K lv (.inr (.inr (some (24, 0))) :: st) w
def op_lenS (K : Den ρ) : Den ρ := fun lv st w => (pO st).bind fun q => cond (Nat.beq q.1.1 23) (K lv (.inl 28 :: q.2) w) (cond (Nat.beq q.1.1 25) (K lv (.inl 8 :: q.2) w) none)
def op_kna (K : Den ρ) : Den ρ := fun lv st w => (pI st).bind fun x => (pO x.2).bind fun q => cond (Nat.beq q.1.1 23) (cond (ib x.1 28) (K lv (.inr (.inr (some (21, x.1.toNatClampNeg))) :: q.2) w) none) none
def op_ecd (K : Den ρ) : Den ρ := fun lv st w => (pO st).bind fun q => cond (Nat.beq q.1.1 21) (K lv (.inr (.inl (eCd.getD q.1.2 0)) :: q.2) w) none
def op_sv (K : Den ρ) : Den ρ := fun lv st w => (pO st).bind fun q => cond (Nat.beq q.1.1 24) (K lv (.inr (.inr (some (25, 0))) :: q.2) w) none
def op_sc (K : Den ρ) : Den ρ := fun lv st w => (pO st).bind fun q => cond (Nat.beq q.1.1 24) (K lv (.inl 0 :: q.2) w) none
def op_sb (K : Den ρ) : Den ρ := fun lv st w => (pI st).bind fun x => (pO x.2).bind fun q => cond (Nat.beq q.1.1 25) (cond (ib x.1 8) (K lv (.inl (([40, 41, 60, 61, 43, 45, 42, 59] : List Int32).getD x.1.toNatClampNeg 0) :: q.2) w) none) none
def op_i2b (K : Den ρ) : Den ρ := fun lv st w => (pI st).bind fun q => K lv (.inl q.1.toInt8.toInt32 :: q.2) w
variable {g : GG} {l : Launch} {Y : MD} {Q : Array Value → State → List Frame → ρ × Wd → State → Prop} {pc : Nat} {D : Den ρ}
theorem snd_kn {index : Nat} (hd : decode Y.2.1 pc = .ok (.getstatic index, 3)) (hw : Cond.fieldLink Y.1.cls index RX9 "KNOWN" "[LDrownedCave$Word;" ∈ gw) (kk : Snd g l Y Q (pc + 3) D) : Snd g l Y Q pc (op_kn D) := by
  intro p e s m args below meth c0 C lv st w res h hL hS H locs ls hW hA hl
  exact va_gets C.1 C.2.1 C.2.2.2.2.2.2.2.2.2.2.2.2.1 hA C.2.2.2.2.1 (C.2.2.2.2.2.1 _ hw) (fun _ h9 => h9) hd (kk p e s m args below meth c0 C lv _ w res h hL (okS_cons (by show 0 < 1; decide) hS) H locs ls hW hA hl)
theorem snd_cs {index : Nat} (hd : decode Y.2.1 pc = .ok (.getstatic index, 3)) (hw : Cond.fieldLink Y.1.cls index "java/lang/String" "COMPACT_STRINGS" "Z" ∈ gw) (kk : Snd g l Y Q (pc + 3) D) : Snd g l Y Q pc (op_ci 1 D) := by
  intro p e s m args below meth c0 C lv st w res h hL hS H locs ls hW hA hl
  exact va_gets C.1 C.2.1 C.2.2.2.2.2.2.2.2.2.2.2.2.2.2.2.2 hA C.2.2.2.2.1 (C.2.2.2.2.2.1 _ hw) (fun _ h9 => h9) hd (kk p e s m args below meth c0 C lv _ w res h hL (okS_I hS) H locs ls hW hA hl)
theorem snd_tx {index : Nat} (hd : decode Y.2.1 pc = .ok (.ldc index, 2)) (ho : Y.1.cls = RX8) (hi : index = 68) (kk : Snd g l Y Q (pc + 2) D) : Snd g l Y Q pc (op_tx D) := by
  intro p e s m args below meth c0 C lv st w res h hL hS H locs ls hW hA hl
  subst hi
  exact va_ldcS C.1 C.2.1 (by rw [← ho]; exact C.2.2.2.2.1) C.2.2.2.2.2.2.2.2.2.2.2.2.2.2.1 hd (kk p e s m args below meth c0 C lv _ w res h hL (okS_cons (by show 0 < 1; decide) hS) H locs ls hW hA hl)
theorem one0 {κ i : Nat} (hk : κ = 23 ∨ κ = 24 ∨ κ = 25) (h : okV (.inr (.inr (some (κ, i))))) : i = 0 := by
  have h1 : i < cntV κ := h
  have h2 : cntV κ = 1 := by rcases hk with rfl | rfl | rfl <;> rfl
  omega
theorem snd_lenS (hd : decode Y.2.1 pc = .ok (.arraylength, 1)) (kk : Snd g l Y Q (pc + 1) D) : Snd g l Y Q pc (op_lenS D) := by
  intro p e s m args below meth c0 C lv st w res h hL hS H locs ls hW hA hl
  obtain ⟨⟨⟨κ, i⟩, r⟩, h1, ha⟩ := Option.bind_eq_some_iff.mp h
  have e1 := pO_eq h1
  subst e1
  dsimp only at ha
  have hST := C.2.2.2.2.2.2.2.2
  cases hb : Nat.beq κ 23 with
  | true =>
    rw [hb] at ha
    have hκ := Nat.eq_of_beq_eq_true hb
    subst hκ
    have hi := one0 (Or.inl rfl) (hS _ List.mem_cons_self)
    subst hi
    exact va_tlen C.1 C.2.1 hST.2.2.2.2.2.1 hA rfl hd (kk p e s m args below meth c0 C lv (.inl 28 :: r) w res ha hL (okS_I (okS_tail hS)) H locs ls hW hA hl)
  | false =>
    rw [hb] at ha
    obtain ⟨hκ, ha⟩ := beq_some ha
    subst hκ
    have hi := one0 (Or.inr (Or.inr rfl)) (hS _ List.mem_cons_self)
    subst hi
    exact va_tlen C.1 C.2.1 (hST.2.2.2.2.2.2.2.1.1 0 (by decide)).2.2.2 hA rfl hd (kk p e s m args below meth c0 C lv (.inl 8 :: r) w res ha hL (okS_I (okS_tail hS)) H locs ls hW hA hl)
theorem snd_kna (hd : decode Y.2.1 pc = .ok (.aaload, 1)) (kk : Snd g l Y Q (pc + 1) D) : Snd g l Y Q pc (op_kna D) := by
  intro p e s m args below meth c0 C lv st w res h hL hS H locs ls hW hA hl
  obtain ⟨⟨x, r⟩, h1, ha⟩ := Option.bind_eq_some_iff.mp h
  obtain ⟨⟨⟨κ, i⟩, r2⟩, h2, ha⟩ := Option.bind_eq_some_iff.mp ha
  have e1 := pI_eq h1
  have e2 : r = .inr (.inr (some (κ, i))) :: r2 := pO_eq h2
  subst e2
  subst e1
  obtain ⟨hκ, hb⟩ := beq_some ha
  obtain ⟨hx, hb2⟩ := cond_some hb
  dsimp only at hκ hb2 hx
  subst hκ
  have hi := one0 (Or.inl rfl) (okS_tail hS _ List.mem_cons_self)
  subst hi
  exact vb_tq C.1 C.2.1 C.2.2.2.2.2.2.2.2.2.2.2.2.2.1 hA (ib_in hx) rfl hd (kk p e s m args below meth c0 C lv (.inr (.inr (some (21, x.toNatClampNeg))) :: r2) w res hb2 hL (okS_cons (ib_lt hx) (okS_tail (okS_tail hS))) H locs ls hW hA hl)
theorem snd_ecd {index : Nat} (hd : decode Y.2.1 pc = .ok (.getfield index, 3)) (hw : Cond.fieldLink Y.1.cls index RX9 "code" "J" ∈ gw) (kk : Snd g l Y Q (pc + 3) D) : Snd g l Y Q pc (op_ecd D) := by
  intro p e s m args below meth c0 C lv st w res h hL hS H locs ls hW hA hl
  obtain ⟨⟨⟨κ, i⟩, r⟩, h1, ha⟩ := Option.bind_eq_some_iff.mp h
  have e1 := pO_eq h1
  subst e1
  obtain ⟨hκ, hb⟩ := beq_some ha
  dsimp only at hκ hb
  subst hκ
  exact vk_getf C.1 C.2.1 (C.2.2.2.2.2.2.2.2.2.2.2.1 i (hS _ List.mem_cons_self)) hA C.2.2.2.2.1 (C.2.2.2.2.2.1 _ hw) (fun _ h9 => h9) hd (kk p e s m args below meth c0 C lv (.inr (.inl (eCd.getD i 0)) :: r) w res hb hL (okS_J (okS_tail hS)) H locs ls hW hA hl)
theorem snd_sv {index : Nat} (hd : decode Y.2.1 pc = .ok (.getfield index, 3)) (hw : Cond.fieldLink Y.1.cls index "java/lang/String" "value" "[B" ∈ gw) (kk : Snd g l Y Q (pc + 3) D) : Snd g l Y Q pc (op_sv D) := by
  intro p e s m args below meth c0 C lv st w res h hL hS H locs ls hW hA hl
  obtain ⟨⟨⟨κ, i⟩, r⟩, h1, ha⟩ := Option.bind_eq_some_iff.mp h
  have e1 := pO_eq h1
  subst e1
  obtain ⟨hκ, hb⟩ := beq_some ha
  dsimp only at hκ hb
  subst hκ
  have hi := one0 (Or.inr (Or.inl rfl)) (hS _ List.mem_cons_self)
  subst hi
  exact vk_getf C.1 C.2.1 (C.2.2.2.2.2.2.2.2.2.2.2.2.2.2.2.1.1 0 (by decide)).2.2.1 hA C.2.2.2.2.1 (C.2.2.2.2.2.1 _ hw) (fun _ h9 => h9) hd (kk p e s m args below meth c0 C lv (.inr (.inr (some (25, 0))) :: r) w res hb hL (okS_cons (by show 0 < 1; decide) (okS_tail hS)) H locs ls hW hA hl)
theorem snd_sc2 {index : Nat} (hd : decode Y.2.1 pc = .ok (.getfield index, 3)) (hw : Cond.fieldLink Y.1.cls index "java/lang/String" "coder" "B" ∈ gw) (kk : Snd g l Y Q (pc + 3) D) : Snd g l Y Q pc (op_sc D) := by
  intro p e s m args below meth c0 C lv st w res h hL hS H locs ls hW hA hl
  obtain ⟨⟨⟨κ, i⟩, r⟩, h1, ha⟩ := Option.bind_eq_some_iff.mp h
  have e1 := pO_eq h1
  subst e1
  obtain ⟨hκ, hb⟩ := beq_some ha
  dsimp only at hκ hb
  subst hκ
  have hi := one0 (Or.inr (Or.inl rfl)) (hS _ List.mem_cons_self)
  subst hi
  exact vk_getf C.1 C.2.1 (C.2.2.2.2.2.2.2.2.2.2.2.2.2.2.2.1.1 0 (by decide)).2.1 hA C.2.2.2.2.1 (C.2.2.2.2.2.1 _ hw) (fun _ h9 => h9) hd (kk p e s m args below meth c0 C lv (.inl 0 :: r) w res hb hL (okS_I (okS_tail hS)) H locs ls hW hA hl)
theorem snd_sb (hd : decode Y.2.1 pc = .ok (.baload, 1)) (kk : Snd g l Y Q (pc + 1) D) : Snd g l Y Q pc (op_sb D) := by
  intro p e s m args below meth c0 C lv st w res h hL hS H locs ls hW hA hl
  obtain ⟨⟨x, r⟩, h1, ha⟩ := Option.bind_eq_some_iff.mp h
  obtain ⟨⟨⟨κ, i⟩, r2⟩, h2, ha⟩ := Option.bind_eq_some_iff.mp ha
  have e1 := pI_eq h1
  have e2 : r = .inr (.inr (some (κ, i))) :: r2 := pO_eq h2
  subst e2
  subst e1
  obtain ⟨hκ, hb⟩ := beq_some ha
  obtain ⟨hx, hb2⟩ := cond_some hb
  dsimp only at hκ hb2 hx
  subst hκ
  have hi := one0 (Or.inr (Or.inr rfl)) (okS_tail hS _ List.mem_cons_self)
  subst hi
  exact va_tb C.1 C.2.1 (C.2.2.2.2.2.2.2.2.2.2.2.2.2.2.2.1.1 0 (by decide)).2.2.2 hA (ib_in hx) rfl hd (kk p e s m args below meth c0 C lv (.inl (([40, 41, 60, 61, 43, 45, 42, 59] : List Int32).getD x.toNatClampNeg 0) :: r2) w res hb2 hL (okS_I (okS_tail (okS_tail hS))) H locs ls hW hA hl)
theorem snd_i2b (hd : decode Y.2.1 pc = .ok (.i2b, 1)) (kk : Snd g l Y Q (pc + 1) D) : Snd g l Y Q pc (op_i2b D) := by
  intro p e s m args below meth c0 C lv st w res h hL hS H locs ls hW hA hl
  obtain ⟨⟨x, r⟩, h1, ha⟩ := Option.bind_eq_some_iff.mp h
  have e1 := pI_eq h1
  subst e1
  exact lv_i2b C.1 C.2.1 hd rfl (kk p e s m args below meth c0 C lv (.inl x.toInt8.toInt32 :: r) w res ha hL (okS_I (okS_tail hS)) H locs ls hW hA hl)
end STAT
theorem snd_bret {g : GG} {l : Launch} {Y : MD} {pc : Nat} (hd : decode Y.2.1 pc = .ok (.ireturn, 1)) (hr : Y.2.2.2.1 = some .byte) : Snd g l Y (QM g Y ijI) pc op_zret := by
  intro p e s m args below meth c C lv st w res h hL hS H locs ls hW hA hl
  match st, h with
  | [.inl x], h =>
    have h1 : (if x = 0 ∨ x = 1 then some (x, w) else none) = some res := h
    by_cases hx : x = 0 ∨ x = 1
    · rw [if_pos hx] at h1
      cases h1
      exact W.zret (v := x) C.1 C.2.1 (C.2.2.1.trans hr) (by rcases hx with rfl | rfl <;> rfl) (fun t ht _ => ⟨rfl, fun v hv => (by cases hv; trivial), by rw [ht]; exact hW, hA.F ht⟩) hA.2.2 hd C.2.2.2.2.2.2.1
    · rw [if_neg hx] at h1
      cases h1
/-- a method of the signs' text -/
theorem snd_callT {ρ σ : Type} {g : GG} {l : Launch} {Y Z : MD} {Q : Array Value → State → List Frame → ρ × Wd → State → Prop} {pc : Nat} {D : Den ρ} {ij : IJ σ} {f : List VV → Wd → Option (σ × Wd)} {n index : Nat} (hd : decode Y.2.1 pc = .ok (.invokevirtual index, 3)) (hM : Mt g l Z ij f) (hC : CO Z n) (hR : RO Y Z) (hi : Cond.instanceMethod Z.1 ∈ gw) (hs : Cond.selects "java/lang/String" Z.1 Z.1 ∈ gw) (hw : Cond.methodLink Y.1.cls index Z.1 ∈ gw) (kk : Snd g l Y Q (pc + 3) D) : Snd g l Y Q pc (op_callV 24 ij f (n + 1) D) := by
  intro p e s m args below meth c0 C lv st w res h hL hS H locs ls hW hA hl
  obtain ⟨hv, h⟩ := cond_some h
  obtain ⟨i, ra, hra⟩ := callV_args hv
  obtain ⟨hb, h⟩ := cond_some h
  obtain ⟨⟨r, w'⟩, h1, h⟩ := Option.bind_eq_some_iff.mp h
  obtain ⟨b1, b2⟩ := (Bool.and_eq_true _ _).mp hb
  have hlen : n + 1 ≤ st.length := Nat.le_of_ble_eq_true b1
  have hts := C.2.2.2.2.2.1
  have hoka := okS_args (n := n + 1) hS
  have hmet := hM H.size _ _ _ h1 hoka
  have hlr : ra.length = n := by
    have := congrArg List.length hra
    simp [Nat.min_eq_left hlen] at this
    omega
  rw [hra] at hmet hoka
  have hi0 := one0 (Or.inr (Or.inl rfl)) (hoka _ List.mem_cons_self)
  subst hi0
  obtain ⟨cell, k1, k2, k3⟩ := vk_recv C.2.2.2.2.2.2.2.2.2.2.2.2.2.2.2.1 (show 0 < 1 by decide) hA
  have cb := callB_of (R := Y.2.2.2.2.1) (mc := 0) (ms := 0) n hts (goodU hC) rfl hC.2.2.2.1 hC.2.2.2.2 (hts _ hC.2.1) (hts _ hw) hC.2.2.1 hR.1
  have run := va_runV (C := "java/lang/String") (H := H) (locs := locs) (cells := Y.2.2.2.2.2.1) (slots := Y.2.2.2.2.2.2) (below := below) (meth := meth) (e := e) (b := g.1 24 0) (As := ra.map (phys g)) (rest := (st.drop (n + 1)).map (phys g)) (g := F0 m pc ls (st.map (phys g))) ⟨C.1, C.2.1, C.2.2.2.1, C.2.2.2.2.1, hts⟩ hmet ⟨cb, hts _ hi, hts _ hs⟩ ⟨pre_blind _ _ _, ⟨cell, k1, k2, k3⟩, fun U hU hwm => pre_at C.2.2.2.2.2.2.2.2 hW hA hU hwm⟩ rfl (by simp [hlr]) hl.1 (drop_splitV hra) (lv_room (by rw [stw_eq]; exact Nat.le_of_ble_eq_true b2)) hd ⟨hR.2.1, hR.2.2⟩
  refine after_call run hA (fun H1 locs1 hok hW1 hA1 => ?_)
  rw [toList_map, ← List.map_append]
  exact kk p e s m args below meth c0 C lv _ w' res h hL (okS_of_toList hok (okS_drop hS)) H1 locs1 ls hW1 hA1 hl
