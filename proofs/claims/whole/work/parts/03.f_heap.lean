/-! ===== operations on fields and arrays, and that each is sound ===== -/
def ib (i : Int32) (n : Nat) : Bool := decide (¬ (i < 0 ∨ n ≤ i.toNatClampNeg))
theorem ib_in {i : Int32} {n : Nat} (h : ib i n = true) : vp_in i n := by
  have h1 : ¬ (i < 0 ∨ n ≤ i.toNatClampNeg) := of_decide_eq_true h
  exact h1
theorem rng_get {α : Type} {n k : Nat} {F : Nat → α} (h : k < n) : ((List.range n).map F)[k]? = some (F k) := by
  simp [h]
theorem rng_len {α : Type} {n : Nat} {F : Nat → α} : ((List.range n).map F).length = n := by simp
theorem ib_lt {i : Int32} {n : Nat} (h : ib i n = true) : i.toNatClampNeg < n := Nat.not_le.mp fun q => ib_in h (Or.inr q)
theorem cond_some {α : Type} {b : Bool} {x : Option α} {r : α} (h : cond b x none = some r) : b = true ∧ x = some r := by
  cases b with
  | true => exact ⟨rfl, h⟩
  | false => cases h
theorem beq_some {α : Type} {a b : Nat} {x : Option α} {r : α} (h : cond (Nat.beq a b) x none = some r) : a = b ∧ x = some r := by
  obtain ⟨h1, h2⟩ := cond_some h
  exact ⟨Nat.eq_of_beq_eq_true h1, h2⟩
theorem cntV_eq {f : Nat} (h1 : f < 21 ∨ 26 < f) : cntV f = cntK f := by
  unfold cntV
  have e1 : Nat.beq f 21 = false := by
    cases h : Nat.beq f 21 with
    | false => rfl
    | true => have := Nat.eq_of_beq_eq_true h; omega
  have e2 : (Nat.ble 22 f && Nat.ble f 26) = false := by
    cases h : (Nat.ble 22 f && Nat.ble f 26) with
    | false => rfl
    | true =>
      obtain ⟨q1, q2⟩ := (Bool.and_eq_true _ _).mp h
      have q3 := Nat.le_of_ble_eq_true q1
      have q4 := Nat.le_of_ble_eq_true q2
      omega
  rw [e1, e2]
  rfl
theorem cntV_o {c : Nat} (h : c < 11) : cntV c = cntK c := cntV_eq (by omega)
theorem ktag_lo {f : Nat} (h : f < 32) : ktag f = 98 ∨ ktag f = 16 := by
  have : ∀ f, f < 32 → ktag f = 98 ∨ ktag f = 16 := by decide +kernel
  exact this f h
theorem cntV_a {f : Nat} (h : ktag f ≠ 98 ∧ ktag f ≠ 16) : cntV f = cntK f := cntV_eq (by
  rcases Nat.lt_or_ge f 32 with q | q
  · rcases ktag_lo q with z | z
    · exact absurd z h.1
    · exact absurd z h.2
  · omega)
theorem fref_ok : ∀ c, c < 11 → ∀ k, k < NS.getD c 0 → ftag c k = 2 → ∀ i, i < cntV c → (fref c k i).2 < cntV (fref c k i).1 := by decide +kernel
theorem ecnt_3 : ∀ c, c < 11 → ∀ k, k < NS.getD c 0 → ftag c k = 3 → ecnt (32 * (c + 1) + k) = cntV 0 := by decide +kernel
theorem ecnt_4 : ∀ c, c < 11 → ∀ k, k < NS.getD c 0 → ftag c k = 4 → ecnt (32 * (c + 1) + k) = cntV 1 := by decide +kernel
theorem ecnt_5 : ∀ c, c < 11 → ∀ k, k < NS.getD c 0 → ftag c k = 5 → ecnt (32 * (c + 1) + k) = cntV 21 := by decide +kernel
theorem cnt_a : ∀ c, c < 11 → ∀ k, k < NS.getD c 0 → 7 ≤ ftag c k → cntV (32 * (c + 1) + k) = cntV c := by decide +kernel
theorem ktag_o : ∀ c, c < 11 → ktag c = 98 := by decide +kernel
theorem okE {w : Wd} (h : okW w) {f i k n κ : Nat} (he : ecnt f = cntV κ) : okV (.inr (.inr ((w.2.2 f i k).map fun j => (κ, j)))) := by
  cases hx : w.2.2 f i k with
  | none => trivial
  | some j =>
    have := h f i k j hx
    rw [he] at this
    exact this
theorem okV_fv {w : Wd} (h : okW w) {c k i : Nat} (hc : c < 11) (hk : k < NS.getD c 0) (hi : i < cntV c) : okV (fv c k i w) := by
  by_cases h7 : 7 ≤ ftag c k
  · have e : fv c k i w = .inr (.inr (some (32 * (c + 1) + k, i))) := by
      unfold fv
      split <;> first | rfl | omega
    rw [e]
    show i < cntV (32 * (c + 1) + k)
    rw [cnt_a c hc k hk h7]
    exact hi
  · have h6 : ftag c k = 0 ∨ ftag c k = 1 ∨ ftag c k = 2 ∨ ftag c k = 3 ∨ ftag c k = 4 ∨ ftag c k = 5 ∨ ftag c k = 6 := by omega
    rcases h6 with q | q | q | q | q | q | q <;> simp only [fv, q]
    · trivial
    · trivial
    · exact fref_ok c hc k hk q i hi
    · exact okE (n := 0) h (ecnt_3 c hc k hk q)
    · exact okE (n := 0) h (ecnt_4 c hc k hk q)
    · exact okE (n := 0) h (ecnt_5 c hc k hk q)
    · trivial
theorem rcon_ok : ∀ f, f < 384 → ktag f = 14 → ∀ k, k < alen f → (rcon f k).2 < cntV (rcon f k).1 := by decide +kernel
theorem ktag_big {f : Nat} (h : 384 ≤ f) : ktag f = 99 := by
  unfold ktag
  have h1 : Nat.blt f 32 = false := by
    cases hb : Nat.blt f 32 with
    | false => rfl
    | true =>
      have := Nat.le_of_ble_eq_true hb
      omega
  rw [h1, cond_false]
  unfold ftag
  have h2 : FT.getD (f / 32 - 1) [] = [] := by
    have h3 : FT.length ≤ f / 32 - 1 := by
      show 11 ≤ f / 32 - 1
      omega
    simp [List.getD, List.getElem?_eq_none_iff.mpr h3]
  rw [h2]
  rfl
theorem okV_rfs {w : Wd} (h : okW w) {f i k : Nat} (ht : ktag f = 14 ∨ ktag f = 15) (hk : k < alen f) : okV (.inr (.inr (rfs f i k w))) := by
  have hf : f < 384 := by
    rcases Nat.lt_or_ge f 384 with h1 | h1
    · exact h1
    · rw [ktag_big h1] at ht; omega
  unfold rfs
  rcases ht with ht | ht
  · rw [ht]
    exact rcon_ok f hf ht k hk
  · rw [ht]
    have : ∀ f, f < 384 → ktag f = 15 → ecnt f = cntV 21 := by decide +kernel
    exact okE (n := 0) h (this f hf ht)
section HEAP
variable {ρ : Type}
def op_gf (c k : Nat) (K : Den ρ) : Den ρ := fun lv st w => (pO st).bind fun q => cond (Nat.beq q.1.1 c) (K lv (fv c k q.1.2 w :: q.2) w) none
def op_pf (c k : Nat) (K : Den ρ) : Den ρ := fun lv st w => (pI st).bind fun x => (pO x.2).bind fun q => cond (Nat.beq q.1.1 c) (K lv q.2 (sI w (32 * (c + 1) + k) q.1.2 0 x.1)) none
def op_pz (c k : Nat) (K : Den ρ) : Den ρ := fun lv st w => (pI st).bind fun x => (pO x.2).bind fun q => cond (Nat.beq q.1.1 c) (if x.1 = 0 ∨ x.1 = 1 then K lv q.2 (sI w (32 * (c + 1) + k) q.1.2 0 x.1) else none) none
def op_pj (c k : Nat) (K : Den ρ) : Den ρ := fun lv st w => (pJ st).bind fun x => (pO x.2).bind fun q => cond (Nat.beq q.1.1 c) (K lv q.2 (sJ w (32 * (c + 1) + k) q.1.2 0 x.1)) none
/-- a reference of a kind, or null -/
def rk (κ : Nat) (x : Option (Nat × Nat)) : Bool := match x with
  | none => true
  | some q => Nat.beq q.1 κ
def op_pe (c k κ : Nat) (K : Den ρ) : Den ρ := fun lv st w => (pR st).bind fun x => (pO x.2).bind fun q => cond (Nat.beq q.1.1 c) (cond (rk κ x.1) (K lv q.2 (sE w (32 * (c + 1) + k) q.1.2 0 (x.1.map fun z => z.2))) none) none
def op_aa (t : Nat) (K : Den ρ) : Den ρ := fun lv st w => (pI st).bind fun x => (pO x.2).bind fun q => cond (Nat.beq (ktag q.1.1) t) (cond (ib x.1 (alen q.1.1)) (K lv (.inl (w.1 q.1.1 q.1.2 x.1.toNatClampNeg) :: q.2) w) none) none
def op_ja (K : Den ρ) : Den ρ := fun lv st w => (pI st).bind fun x => (pO x.2).bind fun q => cond (Nat.beq (ktag q.1.1) 13) (cond (ib x.1 (alen q.1.1)) (K lv (.inr (.inl (w.2.1 q.1.1 q.1.2 x.1.toNatClampNeg)) :: q.2) w) none) none
def op_ra (K : Den ρ) : Den ρ := fun lv st w => (pI st).bind fun x => (pO x.2).bind fun q => cond (Nat.beq (ktag q.1.1) 14 || Nat.beq (ktag q.1.1) 15) (cond (ib x.1 (alen q.1.1)) (K lv (.inr (.inr (rfs q.1.1 q.1.2 x.1.toNatClampNeg w)) :: q.2) w) none) none
def nar (t : Nat) (x : Int32) : Int32 := match t with
  | 11 => vp_nar .boolean x
  | 12 => vp_nar .char x
  | _ => x
def op_sa (t : Nat) (K : Den ρ) : Den ρ := fun lv st w => (pI st).bind fun v => (pI v.2).bind fun x => (pO x.2).bind fun q => cond (Nat.beq (ktag q.1.1) t) (cond (ib x.1 (alen q.1.1)) (K lv q.2 (sI w q.1.1 q.1.2 x.1.toNatClampNeg (nar t v.1))) none) none
def op_sj (K : Den ρ) : Den ρ := fun lv st w => (pJ st).bind fun v => (pI v.2).bind fun x => (pO x.2).bind fun q => cond (Nat.beq (ktag q.1.1) 13) (cond (ib x.1 (alen q.1.1)) (K lv q.2 (sJ w q.1.1 q.1.2 x.1.toNatClampNeg v.1)) none) none
def op_len (K : Den ρ) : Den ρ := fun lv st w => (pO st).bind fun q => cond (Nat.blt 9 (ktag q.1.1) && Nat.blt (ktag q.1.1) 16) (K lv (.inl (Int32.ofNat (alen q.1.1)) :: q.2) w) none
def op_ge (j : Nat) (K : Den ρ) : Den ρ := fun lv st w => K lv (.inr (.inr (some (21, j))) :: st) w
def op_ace (T E : Den ρ) : Den ρ := fun lv st w => (pR st).bind fun y => (pR y.2).bind fun x => cond (rk 21 x.1 && rk 21 y.1) (if x.1 = y.1 then T lv x.2 w else E lv x.2 w) none
def op_acn (T E : Den ρ) : Den ρ := fun lv st w => (pR st).bind fun y => (pR y.2).bind fun x => cond (rk 21 x.1 && rk 21 y.1) (if x.1 = y.1 then E lv x.2 w else T lv x.2 w) none
variable {g : GG} {l : Launch} {Y : MD} {Q : Array Value → State → List Frame → ρ × Wd → State → Prop} {pc : Nat} {D : Den ρ}
/-- what is known of class c of the list -/
def FOK (c : Nat) (C : String) (T : u_T) (N : Nat) : Prop := c < 11 ∧ cls12[c]? = some (C, T, N) ∧ NS.getD c 0 = N ∧ (∀ w ∈ u_ws C T N, w ∈ gw)
theorem gtys_at {g : GG} {j : Nat} (h : j < 8) : (gtys g)[j]? = some (g.2.2.2.2 j, tyE j) := by
  simp [gtys, h]
theorem snd_gf {index c k N : Nat} {R0 : String} {T : u_T} (hd : decode Y.2.1 pc = .ok (.getfield index, 3)) (hF : FOK c R0 T N) (hk : k < N) (hw : Cond.fieldLink Y.1.cls index (T k).1 (T k).2.1 (T k).2.2.1 ∈ gw) (kk : Snd g l Y Q (pc + 3) D) : Snd g l Y Q pc (op_gf c k D) := by
  intro p e s m args below meth c0 C lv st w res h hL hS H locs ls hW hA hl
  obtain ⟨⟨⟨κ, i⟩, r⟩, h1, ha⟩ := Option.bind_eq_some_iff.mp h
  have e1 := pO_eq h1
  subst e1
  obtain ⟨hκ, hb⟩ := beq_some ha
  dsimp only at hκ hb
  subst hκ
  obtain ⟨hc11, hc, hN, hin⟩ := hF
  have hi : i < cntV κ := hS _ List.mem_cons_self
  obtain ⟨kq, hkq⟩ := wls_get C.2.2.2.2.2.2.2.1 w (show i < cntK κ by rw [← cntV_o hc11]; exact hi)
  rw [cell_obj (ktag_o κ hc11)] at hkq
  exact va_get (D := g.2.2.2.1) (ci := κ) (C := R0) (T := T) (N := N) (v := phys g (fv κ k i w)) C.1 C.2.1 C.2.2.2.2.2.1 hin C.2.2.2.2.1 C.2.2.2.2.2.2.2.2.1 hW.2 kq hkq hc k hk (C.2.2.2.2.2.1 _ hw) (fun _ h9 => h9) (rng_get (by rw [hN]; exact hk)) hd (kk p e s m args below meth c0 C lv (fv κ k i w :: r) w res hb hL (okS_cons (okV_fv hW.1 hc11 (by rw [hN]; exact hk) hi) (okS_tail hS)) H locs ls hW hA hl)
theorem snd_gfN {index c k N : Nat} {R0 host : String} {T : u_T} (hd : decode Y.2.1 pc = .ok (.getfield index, 3)) (hF : FOK c R0 T N) (hk : k < N) (hw : Cond.fieldLinkNest Y.1.cls index (T k).1 (T k).2.1 (T k).2.2.1 host ∈ lw_tbl) (kk : Snd g l Y Q (pc + 3) D) : Snd g l Y Q pc (op_gf c k D) := by
  intro p e s m args below meth c0 C lv st w res h hL hS H locs ls hW hA hl
  obtain ⟨⟨⟨κ, i⟩, r⟩, h1, ha⟩ := Option.bind_eq_some_iff.mp h
  have e1 := pO_eq h1
  subst e1
  obtain ⟨hκ, hb⟩ := beq_some ha
  dsimp only at hκ hb
  subst hκ
  obtain ⟨hc11, hc, hN, hin⟩ := hF
  have hi : i < cntV κ := hS _ List.mem_cons_self
  obtain ⟨kq, hkq⟩ := wls_get C.2.2.2.2.2.2.2.1 w (show i < cntK κ by rw [← cntV_o hc11]; exact hi)
  rw [cell_obj (ktag_o κ hc11)] at hkq
  exact va_getN (D := g.2.2.2.1) (ci := κ) (C := R0) (T := T) (N := N) (v := phys g (fv κ k i w)) C.1 C.2.1 C.2.2.2.2.2.1 hin C.2.2.2.2.1 C.2.2.2.2.2.2.2.2.1 hW.2 kq hkq hc k hk (va_Nw.use rfl (C.2.2.2.2.2.2.2.2.2.1 _ hw rfl)) (fun _ h9 => h9) (rng_get (by rw [hN]; exact hk)) hd (kk p e s m args below meth c0 C lv (fv κ k i w :: r) w res hb hL (okS_cons (okV_fv hW.1 hc11 (by rw [hN]; exact hk) hi) (okS_tail hS)) H locs ls hW hA hl)
/-- a field is written: both ways of linking at once -/
theorem put_core {p : Program} {e : Env} {s : State} {m : MethodId} {args : Array Value} {below : List Frame} {meth : Method} {c0 : Code} {H : Heap} {locs : List Loc} {ls : Array Slot} {Qr : State → Prop} {rest : List Value} {index c k N i : Nat} {R0 host : String} {T : u_T} {w w' : Wd} {v : VV} {ty : FieldType} {ty0 : Nat → FieldType} (C : Cx g Y p s m args meth c0) (hd : decode Y.2.1 pc = .ok (.putfield index, 3)) (hF : FOK c R0 T N) (hty : ∀ k, k < N → parseFieldDescriptor (T k).2.2.1 = some (ty0 k)) (hnm : ∀ a, a < N → ∀ b, b < N → a ≠ b → (T a).2.1 ≠ (T b).2.1) (hk : k < N) (hw : Cond.fieldLink Y.1.cls index (T k).1 (T k).2.1 (T k).2.2.1 ∈ gw ∨ Cond.fieldLinkNest Y.1.cls index (T k).1 (T k).2.1 (T k).2.2.1 host ∈ lw_tbl)
    (hfin : (T k).2.2.2 = false) (hpd : ty0 k = ty) (hn : narrow ty (phys g v) = phys g v) (hfit : fits ty (phys g v) = true) (hi : i < cntV c) (hv : fv c k i w' = v) (ho : ∀ j, j < 32 → j ≠ k → fv c j i w' = fv c j i w) (hoc : ∀ f' i', ¬ (f' = c ∧ i' = i) → cellOf g w' f' i' = cellOf g w f' i') (hok : okW w') (hW : WH g w H) (hA : va_S (gS g s.heap.size) s.heap H locs)
    (kk : ∀ (H1 : Heap) (locs1 : List Loc), WH g w' H1 → va_S (gS g s.heap.size) s.heap H1 locs1 → W p l e Y.2.2.2.2.1 s m args below meth c0 H1 locs1 Y.2.2.2.2.2.1 Y.2.2.2.2.2.2 Qr (F0 m (pc + 3) ls rest)) : W p l e Y.2.2.2.2.1 s m args below meth c0 H locs Y.2.2.2.2.2.1 Y.2.2.2.2.2.2 Qr (F0 m pc ls (phys g v :: .ref (g.1 c i) :: rest)) := by
  obtain ⟨hc11, hc, hN, hin⟩ := hF
  have hik : i < cntK c := by rw [← cntV_o hc11]; exact hi
  obtain ⟨kq, hkq⟩ := wls_get C.2.2.2.2.2.2.2.1 w hik
  have hkq2 := hkq
  rw [cell_obj (ktag_o c hc11)] at hkq2
  have hset : (wls g w).set kq (g.1 c i, .inr (c, ((List.range (NS.getD c 0)).map fun k => phys g (fv c k i w)).set k (phys g v))) = wls g w' := wls_set C.2.2.2.2.2.2.2.1 hik hkq (cell_set_f (ktag_o c hc11) (by rw [hN]; exact hk) hv ho) hoc
  rcases hw with hw | hw
  · exact va_put (D := g.2.2.2.1) (ci := c) (C := R0) (T := T) (N := N) (v := phys g v) C.1 C.2.1 C.2.2.2.2.2.1 hin ty0 hty hnm C.2.2.2.2.1 C.2.2.2.2.2.2.2.2.1 hW.2 (wls_Ds C.2.2.2.2.2.2.2.1 w) hA kq hkq2 hc k hk (C.2.2.2.2.2.1 _ hw) (fun _ h9 => h9) hfin (by rw [hty k hk, hpd]) hn hfit (by rw [rng_len, hN]; exact hk) hd (fun H1 locs1 hP _ hS1 => kk H1 locs1 ⟨hok, by rw [← hset]; exact hP⟩ hS1)
  · exact va_putN (D := g.2.2.2.1) (ci := c) (C := R0) (T := T) (N := N) (v := phys g v) C.1 C.2.1 C.2.2.2.2.2.1 hin ty0 hty hnm C.2.2.2.2.1 C.2.2.2.2.2.2.2.2.1 hW.2 (wls_Ds C.2.2.2.2.2.2.2.1 w) hA kq hkq2 hc k hk (va_Nw.use rfl (C.2.2.2.2.2.2.2.2.2.1 _ hw rfl)) (fun _ h9 => h9) hfin (by rw [hty k hk, hpd]) hn hfit (by rw [rng_len, hN]; exact hk) hd (fun H1 locs1 hP _ hS1 => kk H1 locs1 ⟨hok, by rw [← hset]; exact hP⟩ hS1)
theorem fv_self {c k i : Nat} {w : Wd} {x : Int32} (h : ftag c k = 0 ∨ ftag c k = 6) : fv c k i (sI w (32 * (c + 1) + k) i 0 x) = .inl x := by
  unfold fv
  rcases h with h | h <;> simp [h, sI]
theorem fv_selfJ {c k i : Nat} {w : Wd} {x : Int64} (h : ftag c k = 1) : fv c k i (sJ w (32 * (c + 1) + k) i 0 x) = .inr (.inl x) := by
  unfold fv
  simp [h, sJ]
theorem snd_pf {index c k N : Nat} {R0 host : String} {T : u_T} {ty0 : Nat → FieldType} (hd : decode Y.2.1 pc = .ok (.putfield index, 3)) (hF : FOK c R0 T N) (hty : ∀ k, k < N → parseFieldDescriptor (T k).2.2.1 = some (ty0 k)) (hnm : ∀ a, a < N → ∀ b, b < N → a ≠ b → (T a).2.1 ≠ (T b).2.1) (hk : k < N) (hw : Cond.fieldLink Y.1.cls index (T k).1 (T k).2.1 (T k).2.2.1 ∈ gw ∨ Cond.fieldLinkNest Y.1.cls index (T k).1 (T k).2.1 (T k).2.2.1 host ∈ lw_tbl) (hfin : (T k).2.2.2 = false) (hpd : ty0 k = .int) (ht : ftag c k = 0) (kk : Snd g l Y Q (pc + 3) D) : Snd g l Y Q pc (op_pf c k D) := by
  intro p e s m args below meth c0 C lv st w res h hL hS H locs ls hW hA hl
  obtain ⟨⟨x, r⟩, h1, ha⟩ := Option.bind_eq_some_iff.mp h
  obtain ⟨⟨⟨κ, i⟩, r2⟩, h2, ha⟩ := Option.bind_eq_some_iff.mp ha
  have e1 := pI_eq h1
  have e2 : r = .inr (.inr (some (κ, i))) :: r2 := pO_eq h2
  subst e2
  subst e1
  obtain ⟨hκ, hb⟩ := beq_some ha
  dsimp only at hκ hb
  subst hκ
  have hk32 : k < 32 := Nat.lt_of_lt_of_le hk (by rw [← hF.2.2.1]; exact ns_lt _)
  exact put_core (v := .inl x) (w' := sI w (32 * (κ + 1) + k) i 0 x) C hd hF hty hnm hk hw hfin hpd rfl rfl (okS_tail hS _ List.mem_cons_self) (fv_self (Or.inl ht)) (fun j hj hn => fv_sI_ne fun _ q => hn (by omega)) (fun f' i' hn => cell_sI_f hk32 (Or.inl ht) hn) (okW_sI hW.1 _ _ _ _) hW hA (fun H1 locs1 hW1 hA1 => kk p e s m args below meth c0 C lv r2 _ res hb hL (okS_tail (okS_tail hS)) H1 locs1 ls hW1 hA1 hl)
theorem snd_pz {index c k N : Nat} {R0 host : String} {T : u_T} {ty0 : Nat → FieldType} (hd : decode Y.2.1 pc = .ok (.putfield index, 3)) (hF : FOK c R0 T N) (hty : ∀ k, k < N → parseFieldDescriptor (T k).2.2.1 = some (ty0 k)) (hnm : ∀ a, a < N → ∀ b, b < N → a ≠ b → (T a).2.1 ≠ (T b).2.1) (hk : k < N) (hw : Cond.fieldLink Y.1.cls index (T k).1 (T k).2.1 (T k).2.2.1 ∈ gw ∨ Cond.fieldLinkNest Y.1.cls index (T k).1 (T k).2.1 (T k).2.2.1 host ∈ lw_tbl) (hfin : (T k).2.2.2 = false) (hpd : ty0 k = .boolean) (ht : ftag c k = 6) (kk : Snd g l Y Q (pc + 3) D) : Snd g l Y Q pc (op_pz c k D) := by
  intro p e s m args below meth c0 C lv st w res h hL hS H locs ls hW hA hl
  obtain ⟨⟨x, r⟩, h1, ha⟩ := Option.bind_eq_some_iff.mp h
  obtain ⟨⟨⟨κ, i⟩, r2⟩, h2, ha⟩ := Option.bind_eq_some_iff.mp ha
  have e1 := pI_eq h1
  have e2 : r = .inr (.inr (some (κ, i))) :: r2 := pO_eq h2
  subst e2
  subst e1
  obtain ⟨hκ, hb⟩ := beq_some ha
  dsimp only at hκ hb
  subst hκ
  have hk32 : k < 32 := Nat.lt_of_lt_of_le hk (by rw [← hF.2.2.1]; exact ns_lt _)
  by_cases hx : x = 0 ∨ x = 1
  · rw [if_pos hx] at hb
    have hn2 : narrow .boolean (.int x) = .int x ∧ fits .boolean (.int x) = true := by rcases hx with rfl | rfl <;> exact ⟨rfl, rfl⟩
    exact put_core (v := .inl x) (w' := sI w (32 * (κ + 1) + k) i 0 x) C hd hF hty hnm hk hw hfin hpd hn2.1 hn2.2 (okS_tail hS _ List.mem_cons_self) (fv_self (Or.inr ht)) (fun j hj hn => fv_sI_ne fun _ q => hn (by omega)) (fun f' i' hn => cell_sI_f hk32 (Or.inr ht) hn) (okW_sI hW.1 _ _ _ _) hW hA (fun H1 locs1 hW1 hA1 => kk p e s m args below meth c0 C lv r2 _ res hb hL (okS_tail (okS_tail hS)) H1 locs1 ls hW1 hA1 hl)
  · rw [if_neg hx] at hb
    cases hb
theorem snd_pj {index c k N : Nat} {R0 host : String} {T : u_T} {ty0 : Nat → FieldType} (hd : decode Y.2.1 pc = .ok (.putfield index, 3)) (hF : FOK c R0 T N) (hty : ∀ k, k < N → parseFieldDescriptor (T k).2.2.1 = some (ty0 k)) (hnm : ∀ a, a < N → ∀ b, b < N → a ≠ b → (T a).2.1 ≠ (T b).2.1) (hk : k < N) (hw : Cond.fieldLink Y.1.cls index (T k).1 (T k).2.1 (T k).2.2.1 ∈ gw ∨ Cond.fieldLinkNest Y.1.cls index (T k).1 (T k).2.1 (T k).2.2.1 host ∈ lw_tbl) (hfin : (T k).2.2.2 = false) (hpd : ty0 k = .long) (ht : ftag c k = 1) (kk : Snd g l Y Q (pc + 3) D) : Snd g l Y Q pc (op_pj c k D) := by
  intro p e s m args below meth c0 C lv st w res h hL hS H locs ls hW hA hl
  obtain ⟨⟨x, r⟩, h1, ha⟩ := Option.bind_eq_some_iff.mp h
  obtain ⟨⟨⟨κ, i⟩, r2⟩, h2, ha⟩ := Option.bind_eq_some_iff.mp ha
  have e1 := pJ_eq h1
  have e2 : r = .inr (.inr (some (κ, i))) :: r2 := pO_eq h2
  subst e2
  subst e1
  obtain ⟨hκ, hb⟩ := beq_some ha
  dsimp only at hκ hb
  subst hκ
  have hk32 : k < 32 := Nat.lt_of_lt_of_le hk (by rw [← hF.2.2.1]; exact ns_lt _)
  exact put_core (v := .inr (.inl x)) (w' := sJ w (32 * (κ + 1) + k) i 0 x) C hd hF hty hnm hk hw hfin hpd rfl rfl (okS_tail hS _ List.mem_cons_self) (fv_selfJ ht) (fun j hj hn => fv_sJ_ne fun _ q => hn (by omega)) (fun f' i' hn => cell_sJ_f hk32 ht hn) (okW_sJ hW.1 _ _ _ _) hW hA (fun H1 locs1 hW1 hA1 => kk p e s m args below meth c0 C lv r2 _ res hb hL (okS_tail (okS_tail hS)) H1 locs1 ls hW1 hA1 hl)
/-- which kind a changing reference has -/
def ekd (t : Nat) : Nat := match t with
  | 3 => 0
  | 4 => 1
  | _ => 21
theorem rk_map {κ : Nat} {x : Option (Nat × Nat)} (h : rk κ x = true) : (x.map fun z => z.2).map (fun j => (κ, j)) = x := by
  match x with
  | none => rfl
  | some q =>
    have h1 : q.1 = κ := Nat.eq_of_beq_eq_true h
    subst h1
    rfl
theorem fv_selfE {c k i κ : Nat} {w : Wd} {x : Option (Nat × Nat)} (h : ftag c k = 3 ∨ ftag c k = 4 ∨ ftag c k = 5) (hκ : ekd (ftag c k) = κ) (hx : rk κ x = true) : fv c k i (sE w (32 * (c + 1) + k) i 0 (x.map fun z => z.2)) = .inr (.inr x) := by
  have e := rk_map hx
  unfold fv
  rcases h with h | h | h <;> rw [h] at hκ <;> subst hκ <;> simp only [h, sE, ekd] at e ⊢ <;> simp [e]
theorem snd_pe {index c k N κ : Nat} {R0 host tn : String} {T : u_T} {ty0 : Nat → FieldType} (hd : decode Y.2.1 pc = .ok (.putfield index, 3)) (hF : FOK c R0 T N) (hty : ∀ k, k < N → parseFieldDescriptor (T k).2.2.1 = some (ty0 k)) (hnm : ∀ a, a < N → ∀ b, b < N → a ≠ b → (T a).2.1 ≠ (T b).2.1) (hk : k < N) (hw : Cond.fieldLink Y.1.cls index (T k).1 (T k).2.1 (T k).2.2.1 ∈ gw ∨ Cond.fieldLinkNest Y.1.cls index (T k).1 (T k).2.1 (T k).2.2.1 host ∈ lw_tbl) (hfin : (T k).2.2.2 = false) (hpd : ty0 k = .object tn) (ht : ftag c k = 3 ∨ ftag c k = 4 ∨ ftag c k = 5) (hκ : ekd (ftag c k) = κ) (kk : Snd g l Y Q (pc + 3) D) : Snd g l Y Q pc (op_pe c k κ D) := by
  intro p e s m args below meth c0 C lv st w res h hL hS H locs ls hW hA hl
  obtain ⟨⟨x, r⟩, h1, ha⟩ := Option.bind_eq_some_iff.mp h
  obtain ⟨⟨⟨κ', i⟩, r2⟩, h2, ha⟩ := Option.bind_eq_some_iff.mp ha
  have e1 := pR_eq h1
  have e2 : r = .inr (.inr (some (κ', i))) :: r2 := pO_eq h2
  subst e2
  subst e1
  obtain ⟨hq, hb⟩ := beq_some ha
  dsimp only at hq hb
  subst hq
  obtain ⟨hr, hb⟩ := cond_some hb
  have hk32 : k < 32 := Nat.lt_of_lt_of_le hk (by rw [← hF.2.2.1]; exact ns_lt _)
  have hkN : k < NS.getD κ' 0 := by rw [hF.2.2.1]; exact hk
  have hxok : okV (.inr (.inr x)) := hS _ List.mem_cons_self
  have hec : ecnt (32 * (κ' + 1) + k) = cntV κ := by
    rcases ht with t3 | t3 | t3 <;> rw [t3] at hκ <;> subst hκ
    · exact ecnt_3 κ' hF.1 k hkN t3
    · exact ecnt_4 κ' hF.1 k hkN t3
    · exact ecnt_5 κ' hF.1 k hkN t3
  have hxe : ∀ j, (x.map fun z => z.2) = some j → j < ecnt (32 * (κ' + 1) + k) := by
    intro j hj
    match x, hj, hr, hxok with
    | some q, hj, hr, hxok =>
      cases hj
      have h1 : q.1 = κ := Nat.eq_of_beq_eq_true hr
      rw [hec, ← h1]
      exact hxok
  have hn2 : narrow (.object tn) (phys g (.inr (.inr x))) = phys g (.inr (.inr x)) ∧ fits (.object tn) (phys g (.inr (.inr x))) = true := by
    match x with
    | none => exact ⟨rfl, rfl⟩
    | some q => exact ⟨rfl, rfl⟩
  exact put_core (v := .inr (.inr x)) (w' := sE w (32 * (κ' + 1) + k) i 0 (x.map fun z => z.2)) C hd hF hty hnm hk hw hfin hpd hn2.1 hn2.2 (okS_tail hS _ List.mem_cons_self) (fv_selfE ht hκ hr) (fun j hj hn => fv_sE_ne fun _ q => hn (by omega)) (fun f' i' hn => cell_sE_f hk32 ht hn) (okW_sE hW.1 _ _ _ _ hxe) hW hA (fun H1 locs1 hW1 hA1 => kk p e s m args below meth c0 C lv r2 _ res hb hL (okS_tail (okS_tail hS)) H1 locs1 ls hW1 hA1 hl)
end HEAP
