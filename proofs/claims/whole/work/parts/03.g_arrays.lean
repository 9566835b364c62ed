/-! ===== arrays, statics, comparisons of references ===== -/
def acl (t : Nat) : Nat := match t with
  | 10 => 0
  | 11 => 2
  | 12 => 3
  | _ => 1
theorem cell_int {g : GG} {w : Wd} {f i t : Nat} (ht : t = 10 ∨ t = 11 ∨ t = 12) (h : ktag f = t) : cellOf g w f i = .inl (g.2.2.2.2 (acl t), alen f, .inl (w.1 f i)) := by
  unfold cellOf
  rcases ht with rfl | rfl | rfl <;> simp only [h, acl]
theorem cell_long {g : GG} {w : Wd} {f i : Nat} (h : ktag f = 13) : cellOf g w f i = .inl (g.2.2.2.2 1, alen f, .inr (.inl (w.2.1 f i))) := by
  unfold cellOf
  simp only [h]
theorem cell_refs {g : GG} {w : Wd} {f i : Nat} (h : ktag f = 14 ∨ ktag f = 15) : cellOf g w f i = .inl (g.2.2.2.2 (acls f), alen f, .inr (.inr (.inr (.inr fun k => (rfs f i k w).map fun q => g.1 q.1 q.2)))) := by
  unfold cellOf
  rcases h with h | h <;> simp only [h]
theorem acls_lt (f : Nat) : 4 ≤ acls f ∧ acls f < 8 := by
  unfold acls
  cases Nat.beq f 160 <;> cases Nat.beq f 163 <;> cases Nat.beq f 164 <;> cases Nat.beq f 333 <;> cases Nat.beq f 334 <;> decide
theorem acls_ty : ∀ j, j < 8 → 4 ≤ j → ∃ C, tyE j = .object C := by
  intro j h1 h2
  have h3 : j = 4 ∨ j = 5 ∨ j = 6 ∨ j = 7 := by omega
  rcases h3 with rfl | rfl | rfl | rfl <;> exact ⟨_, rfl⟩
theorem sI_row {w : Wd} {f i k : Nat} {x : Int32} : (sI w f i k x).1 f i = upd (w.1 f i) k x := by
  funext j
  simp [sI, upd]
theorem sA_row {w : Wd} {f i : Nat} {u : Nat → Int32} : (sA w f i u).1 f i = u := by
  funext j
  simp [sA]
theorem sJ_row {w : Wd} {f i k : Nat} {x : Int64} : (sJ w f i k x).2.1 f i = vp_updL (w.2.1 f i) k x := by
  funext j
  simp [sJ, vp_updL]
theorem phys_ref {g : GG} (r : Option (Nat × Nat)) : phys g (.inr (.inr r)) = va_rf (r.map fun q => g.1 q.1 q.2) := by
  cases r <;> rfl
section ARR
variable {ρ : Type} {g : GG} {l : Launch} {Y : MD} {Q : Array Value → State → List Frame → ρ × Wd → State → Prop} {pc : Nat} {D : Den ρ}
theorem snd_ia (hd : decode Y.2.1 pc = .ok (.iaload, 1)) (kk : Snd g l Y Q (pc + 1) D) : Snd g l Y Q pc (op_aa 10 D) := by
  intro p e s m args below meth c0 C lv st w res h hL hS H locs ls hW hA hl
  obtain ⟨⟨x, r⟩, h1, ha⟩ := Option.bind_eq_some_iff.mp h
  obtain ⟨⟨⟨κ, i⟩, r2⟩, h2, ha⟩ := Option.bind_eq_some_iff.mp ha
  have e1 := pI_eq h1
  have e2 : r = .inr (.inr (some (κ, i))) :: r2 := pO_eq h2
  subst e2
  subst e1
  obtain ⟨hκ, hb⟩ := beq_some ha
  obtain ⟨hi, hb⟩ := cond_some hb
  dsimp only at hκ hb hi
  have hik : i < cntK κ := by rw [← cntV_a (by rw [hκ]; decide)]; exact okS_tail hS _ List.mem_cons_self
  obtain ⟨kq, hkq⟩ := wls_get C.2.2.2.2.2.2.2.1 w hik
  rw [cell_int (Or.inl rfl) hκ] at hkq
  exact va_iald C.1 C.2.1 C.2.2.2.2.2.2.2.2.1 hW.2 kq 0 hkq (gtys_at (by decide)) (ib_in hi) hd (kk p e s m args below meth c0 C lv (.inl (w.1 κ i x.toNatClampNeg) :: r2) w res hb hL (okS_I (okS_tail (okS_tail hS))) H locs ls hW hA hl)
theorem snd_za (hd : decode Y.2.1 pc = .ok (.baload, 1)) (kk : Snd g l Y Q (pc + 1) D) : Snd g l Y Q pc (op_aa 11 D) := by
  intro p e s m args below meth c0 C lv st w res h hL hS H locs ls hW hA hl
  obtain ⟨⟨x, r⟩, h1, ha⟩ := Option.bind_eq_some_iff.mp h
  obtain ⟨⟨⟨κ, i⟩, r2⟩, h2, ha⟩ := Option.bind_eq_some_iff.mp ha
  have e1 := pI_eq h1
  have e2 : r = .inr (.inr (some (κ, i))) :: r2 := pO_eq h2
  subst e2
  subst e1
  obtain ⟨hκ, hb⟩ := beq_some ha
  obtain ⟨hi, hb⟩ := cond_some hb
  dsimp only at hκ hb hi
  have hik : i < cntK κ := by rw [← cntV_a (by rw [hκ]; decide)]; exact okS_tail hS _ List.mem_cons_self
  obtain ⟨kq, hkq⟩ := wls_get C.2.2.2.2.2.2.2.1 w hik
  rw [cell_int (Or.inr (Or.inl rfl)) hκ] at hkq
  exact va_zald C.1 C.2.1 C.2.2.2.2.2.2.2.2.1 hW.2 kq 2 hkq (gtys_at (by decide)) (ib_in hi) hd (kk p e s m args below meth c0 C lv (.inl (w.1 κ i x.toNatClampNeg) :: r2) w res hb hL (okS_I (okS_tail (okS_tail hS))) H locs ls hW hA hl)
theorem snd_ca (hd : decode Y.2.1 pc = .ok (.caload, 1)) (kk : Snd g l Y Q (pc + 1) D) : Snd g l Y Q pc (op_aa 12 D) := by
  intro p e s m args below meth c0 C lv st w res h hL hS H locs ls hW hA hl
  obtain ⟨⟨x, r⟩, h1, ha⟩ := Option.bind_eq_some_iff.mp h
  obtain ⟨⟨⟨κ, i⟩, r2⟩, h2, ha⟩ := Option.bind_eq_some_iff.mp ha
  have e1 := pI_eq h1
  have e2 : r = .inr (.inr (some (κ, i))) :: r2 := pO_eq h2
  subst e2
  subst e1
  obtain ⟨hκ, hb⟩ := beq_some ha
  obtain ⟨hi, hb⟩ := cond_some hb
  dsimp only at hκ hb hi
  have hik : i < cntK κ := by rw [← cntV_a (by rw [hκ]; decide)]; exact okS_tail hS _ List.mem_cons_self
  obtain ⟨kq, hkq⟩ := wls_get C.2.2.2.2.2.2.2.1 w hik
  rw [cell_int (Or.inr (Or.inr rfl)) hκ] at hkq
  exact va_cald C.1 C.2.1 C.2.2.2.2.2.2.2.2.1 hW.2 kq 3 hkq (gtys_at (by decide)) (ib_in hi) hd (kk p e s m args below meth c0 C lv (.inl (w.1 κ i x.toNatClampNeg) :: r2) w res hb hL (okS_I (okS_tail (okS_tail hS))) H locs ls hW hA hl)
theorem snd_ja (hd : decode Y.2.1 pc = .ok (.laload, 1)) (kk : Snd g l Y Q (pc + 1) D) : Snd g l Y Q pc (op_ja D) := by
  intro p e s m args below meth c0 C lv st w res h hL hS H locs ls hW hA hl
  obtain ⟨⟨x, r⟩, h1, ha⟩ := Option.bind_eq_some_iff.mp h
  obtain ⟨⟨⟨κ, i⟩, r2⟩, h2, ha⟩ := Option.bind_eq_some_iff.mp ha
  have e1 := pI_eq h1
  have e2 : r = .inr (.inr (some (κ, i))) :: r2 := pO_eq h2
  subst e2
  subst e1
  obtain ⟨hκ, hb⟩ := beq_some ha
  obtain ⟨hi, hb⟩ := cond_some hb
  dsimp only at hκ hb hi
  have hik : i < cntK κ := by rw [← cntV_a (by rw [hκ]; decide)]; exact okS_tail hS _ List.mem_cons_self
  obtain ⟨kq, hkq⟩ := wls_get C.2.2.2.2.2.2.2.1 w hik
  rw [cell_long hκ] at hkq
  exact va_lald C.1 C.2.1 C.2.2.2.2.2.2.2.2.1 hW.2 kq 1 hkq (gtys_at (by decide)) (ib_in hi) hd (kk p e s m args below meth c0 C lv (.inr (.inl (w.2.1 κ i x.toNatClampNeg)) :: r2) w res hb hL (okS_J (okS_tail (okS_tail hS))) H locs ls hW hA hl)
theorem snd_ra (hd : decode Y.2.1 pc = .ok (.aaload, 1)) (kk : Snd g l Y Q (pc + 1) D) : Snd g l Y Q pc (op_ra D) := by
  intro p e s m args below meth c0 C lv st w res h hL hS H locs ls hW hA hl
  obtain ⟨⟨x, r⟩, h1, ha⟩ := Option.bind_eq_some_iff.mp h
  obtain ⟨⟨⟨κ, i⟩, r2⟩, h2, ha⟩ := Option.bind_eq_some_iff.mp ha
  have e1 := pI_eq h1
  have e2 : r = .inr (.inr (some (κ, i))) :: r2 := pO_eq h2
  subst e2
  subst e1
  obtain ⟨hκ, hb⟩ := cond_some ha
  obtain ⟨hi, hb⟩ := cond_some hb
  dsimp only at hκ hb hi
  have hκ2 : ktag κ = 14 ∨ ktag κ = 15 := by
    rcases (Bool.or_eq_true _ _).mp hκ with q | q
    · exact Or.inl (Nat.eq_of_beq_eq_true q)
    · exact Or.inr (Nat.eq_of_beq_eq_true q)
  have hik : i < cntK κ := by rw [← cntV_a (by omega)]; exact okS_tail hS _ List.mem_cons_self
  obtain ⟨kq, hkq⟩ := wls_get C.2.2.2.2.2.2.2.1 w hik
  rw [cell_refs hκ2] at hkq
  obtain ⟨C9, hC9⟩ := acls_ty (acls κ) (acls_lt κ).2 (acls_lt κ).1
  refine va_aldq (C := C9) C.1 C.2.1 C.2.2.2.2.2.2.2.2.1 hW.2 kq (acls κ) hkq (by rw [gtys_at (acls_lt κ).2, hC9]) (ib_in hi) hd ?_
  have := kk p e s m args below meth c0 C lv (.inr (.inr (rfs κ i x.toNatClampNeg w)) :: r2) w res hb hL (okS_cons (okV_rfs hW.1 hκ2 (ib_lt hi)) (okS_tail (okS_tail hS))) H locs ls hW hA hl
  rw [List.map_cons, phys_ref] at this
  exact this
theorem arr_core {κ i t : Nat} {w : Wd} {x v : Int32} (hG : GOK g) (ht : t = 10 ∨ t = 11 ∨ t = 12) (hκ : ktag κ = t) (hik : i < cntK κ) {kq : Nat} (hkq : (wls g w)[kq]? = some (g.1 κ i, cellOf g w κ i)) : (wls g w).set kq (g.1 κ i, .inl (g.2.2.2.2 (acl t), alen κ, .inl (upd (w.1 κ i) x.toNatClampNeg v))) = wls g (sI w κ i x.toNatClampNeg v) :=
  wls_set hG hik hkq (by rw [cell_int ht hκ, sI_row]) (fun f' i' hn => cell_sI_a (by omega) hn)
theorem snd_si (hd : decode Y.2.1 pc = .ok (.iastore, 1)) (kk : Snd g l Y Q (pc + 1) D) : Snd g l Y Q pc (op_sa 10 D) := by
  intro p e s m args below meth c0 C lv st w res h hL hS H locs ls hW hA hl
  obtain ⟨⟨v, r0⟩, h0, ha⟩ := Option.bind_eq_some_iff.mp h
  obtain ⟨⟨x, r⟩, h1, ha⟩ := Option.bind_eq_some_iff.mp ha
  obtain ⟨⟨⟨κ, i⟩, r2⟩, h2, ha⟩ := Option.bind_eq_some_iff.mp ha
  have e0 := pI_eq h0
  have e1 : r0 = .inl x :: r := pI_eq h1
  have e2 : r = .inr (.inr (some (κ, i))) :: r2 := pO_eq h2
  subst e2
  subst e1
  subst e0
  obtain ⟨hκ, hb⟩ := beq_some ha
  obtain ⟨hi, hb⟩ := cond_some hb
  dsimp only at hκ hb hi
  have hik : i < cntK κ := by rw [← cntV_a (by rw [hκ]; decide)]; exact okS_tail (okS_tail hS) _ List.mem_cons_self
  obtain ⟨kq, hkq⟩ := wls_get C.2.2.2.2.2.2.2.1 w hik
  have hset := arr_core (x := x) (v := nar 10 v) C.2.2.2.2.2.2.2.1 (Or.inl rfl) hκ hik hkq
  rw [cell_int (Or.inl rfl) hκ] at hkq
  exact va_iast C.1 C.2.1 C.2.2.2.2.2.2.2.2.1 hW.2 (wls_Ds C.2.2.2.2.2.2.2.1 w) hA kq 0 hkq (gtys_at (by decide)) (ib_in hi) hd (fun H1 locs1 hP1 _ hS1 => kk p e s m args below meth c0 C lv r2 _ res hb hL (okS_tail (okS_tail (okS_tail hS))) H1 locs1 ls ⟨okW_sI hW.1 _ _ _ _, by rw [← hset]; exact hP1⟩ hS1 hl)
theorem snd_sz (hd : decode Y.2.1 pc = .ok (.bastore, 1)) (kk : Snd g l Y Q (pc + 1) D) : Snd g l Y Q pc (op_sa 11 D) := by
  intro p e s m args below meth c0 C lv st w res h hL hS H locs ls hW hA hl
  obtain ⟨⟨v, r0⟩, h0, ha⟩ := Option.bind_eq_some_iff.mp h
  obtain ⟨⟨x, r⟩, h1, ha⟩ := Option.bind_eq_some_iff.mp ha
  obtain ⟨⟨⟨κ, i⟩, r2⟩, h2, ha⟩ := Option.bind_eq_some_iff.mp ha
  have e0 := pI_eq h0
  have e1 : r0 = .inl x :: r := pI_eq h1
  have e2 : r = .inr (.inr (some (κ, i))) :: r2 := pO_eq h2
  subst e2
  subst e1
  subst e0
  obtain ⟨hκ, hb⟩ := beq_some ha
  obtain ⟨hi, hb⟩ := cond_some hb
  dsimp only at hκ hb hi
  have hik : i < cntK κ := by rw [← cntV_a (by rw [hκ]; decide)]; exact okS_tail (okS_tail hS) _ List.mem_cons_self
  obtain ⟨kq, hkq⟩ := wls_get C.2.2.2.2.2.2.2.1 w hik
  have hset := arr_core (x := x) (v := nar 11 v) C.2.2.2.2.2.2.2.1 (Or.inr (Or.inl rfl)) hκ hik hkq
  rw [cell_int (Or.inr (Or.inl rfl)) hκ] at hkq
  exact va_zast C.1 C.2.1 C.2.2.2.2.2.2.2.2.1 hW.2 (wls_Ds C.2.2.2.2.2.2.2.1 w) hA kq 2 hkq (gtys_at (by decide)) (ib_in hi) hd (fun H1 locs1 hP1 _ hS1 => kk p e s m args below meth c0 C lv r2 _ res hb hL (okS_tail (okS_tail (okS_tail hS))) H1 locs1 ls ⟨okW_sI hW.1 _ _ _ _, by rw [← hset]; exact hP1⟩ hS1 hl)
theorem snd_sc (hd : decode Y.2.1 pc = .ok (.castore, 1)) (kk : Snd g l Y Q (pc + 1) D) : Snd g l Y Q pc (op_sa 12 D) := by
  intro p e s m args below meth c0 C lv st w res h hL hS H locs ls hW hA hl
  obtain ⟨⟨v, r0⟩, h0, ha⟩ := Option.bind_eq_some_iff.mp h
  obtain ⟨⟨x, r⟩, h1, ha⟩ := Option.bind_eq_some_iff.mp ha
  obtain ⟨⟨⟨κ, i⟩, r2⟩, h2, ha⟩ := Option.bind_eq_some_iff.mp ha
  have e0 := pI_eq h0
  have e1 : r0 = .inl x :: r := pI_eq h1
  have e2 : r = .inr (.inr (some (κ, i))) :: r2 := pO_eq h2
  subst e2
  subst e1
  subst e0
  obtain ⟨hκ, hb⟩ := beq_some ha
  obtain ⟨hi, hb⟩ := cond_some hb
  dsimp only at hκ hb hi
  have hik : i < cntK κ := by rw [← cntV_a (by rw [hκ]; decide)]; exact okS_tail (okS_tail hS) _ List.mem_cons_self
  obtain ⟨kq, hkq⟩ := wls_get C.2.2.2.2.2.2.2.1 w hik
  have hset := arr_core (x := x) (v := nar 12 v) C.2.2.2.2.2.2.2.1 (Or.inr (Or.inr rfl)) hκ hik hkq
  rw [cell_int (Or.inr (Or.inr rfl)) hκ] at hkq
  exact va_cast C.1 C.2.1 C.2.2.2.2.2.2.2.2.1 hW.2 (wls_Ds C.2.2.2.2.2.2.2.1 w) hA kq 3 hkq (gtys_at (by decide)) (ib_in hi) hd (fun H1 locs1 hP1 _ hS1 => kk p e s m args below meth c0 C lv r2 _ res hb hL (okS_tail (okS_tail (okS_tail hS))) H1 locs1 ls ⟨okW_sI hW.1 _ _ _ _, by rw [← hset]; exact hP1⟩ hS1 hl)
theorem snd_sj (hd : decode Y.2.1 pc = .ok (.lastore, 1)) (kk : Snd g l Y Q (pc + 1) D) : Snd g l Y Q pc (op_sj D) := by
  intro p e s m args below meth c0 C lv st w res h hL hS H locs ls hW hA hl
  obtain ⟨⟨v, r0⟩, h0, ha⟩ := Option.bind_eq_some_iff.mp h
  obtain ⟨⟨x, r⟩, h1, ha⟩ := Option.bind_eq_some_iff.mp ha
  obtain ⟨⟨⟨κ, i⟩, r2⟩, h2, ha⟩ := Option.bind_eq_some_iff.mp ha
  have e0 := pJ_eq h0
  have e1 : r0 = .inl x :: r := pI_eq h1
  have e2 : r = .inr (.inr (some (κ, i))) :: r2 := pO_eq h2
  subst e2
  subst e1
  subst e0
  obtain ⟨hκ, hb⟩ := beq_some ha
  obtain ⟨hi, hb⟩ := cond_some hb
  dsimp only at hκ hb hi
  have hik : i < cntK κ := by rw [← cntV_a (by rw [hκ]; decide)]; exact okS_tail (okS_tail hS) _ List.mem_cons_self
  obtain ⟨kq, hkq⟩ := wls_get C.2.2.2.2.2.2.2.1 w hik
  have hset : (wls g w).set kq (g.1 κ i, .inl (g.2.2.2.2 1, alen κ, .inr (.inl (vp_updL (w.2.1 κ i) x.toNatClampNeg v)))) = wls g (sJ w κ i x.toNatClampNeg v) := wls_set C.2.2.2.2.2.2.2.1 hik hkq (by rw [cell_long hκ, sJ_row]) (fun f' i' hn => cell_sJ_a (Or.inl hκ) hn)
  rw [cell_long hκ] at hkq
  exact va_last C.1 C.2.1 C.2.2.2.2.2.2.2.2.1 hW.2 (wls_Ds C.2.2.2.2.2.2.2.1 w) hA kq 1 hkq (gtys_at (by decide)) (ib_in hi) hd (fun H1 locs1 hP1 _ hS1 => kk p e s m args below meth c0 C lv r2 _ res hb hL (okS_tail (okS_tail (okS_tail hS))) H1 locs1 ls ⟨okW_sJ hW.1 _ _ _ _, by rw [← hset]; exact hP1⟩ hS1 hl)
theorem snd_len (hd : decode Y.2.1 pc = .ok (.arraylength, 1)) (kk : Snd g l Y Q (pc + 1) D) : Snd g l Y Q pc (op_len D) := by
  intro p e s m args below meth c0 C lv st w res h hL hS H locs ls hW hA hl
  obtain ⟨⟨⟨κ, i⟩, r⟩, h1, ha⟩ := Option.bind_eq_some_iff.mp h
  have e1 := pO_eq h1
  subst e1
  obtain ⟨hκ, hb⟩ := cond_some ha
  dsimp only at hκ hb
  have hκ2 : 10 ≤ ktag κ ∧ ktag κ < 16 := by
    obtain ⟨q1, q2⟩ := (Bool.and_eq_true _ _).mp hκ
    have h3 := Nat.le_of_ble_eq_true q1
    have h4 := Nat.le_of_ble_eq_true q2
    omega
  have hik : i < cntK κ := by rw [← cntV_a (by omega)]; exact hS _ List.mem_cons_self
  obtain ⟨kq, hkq⟩ := wls_get C.2.2.2.2.2.2.2.1 w hik
  have K := kk p e s m args below meth c0 C lv (.inl (Int32.ofNat (alen κ)) :: r) w res hb hL (okS_I (okS_tail hS)) H locs ls hW hA hl
  have h6 : ktag κ = 10 ∨ ktag κ = 11 ∨ ktag κ = 12 ∨ ktag κ = 13 ∨ (ktag κ = 14 ∨ ktag κ = 15) := by omega
  rcases h6 with q | q | q | q | q
  · rw [cell_int (Or.inl rfl) q] at hkq
    exact va_alen C.1 C.2.1 C.2.2.2.2.2.2.2.2.1 hW.2 kq 0 hkq (gtys_at (by decide)) rfl hd K
  · rw [cell_int (Or.inr (Or.inl rfl)) q] at hkq
    exact va_alen C.1 C.2.1 C.2.2.2.2.2.2.2.2.1 hW.2 kq 2 hkq (gtys_at (by decide)) rfl hd K
  · rw [cell_int (Or.inr (Or.inr rfl)) q] at hkq
    exact va_alen C.1 C.2.1 C.2.2.2.2.2.2.2.2.1 hW.2 kq 3 hkq (gtys_at (by decide)) rfl hd K
  · rw [cell_long q] at hkq
    exact va_alen C.1 C.2.1 C.2.2.2.2.2.2.2.2.1 hW.2 kq 1 hkq (gtys_at (by decide)) rfl hd K
  · rw [cell_refs q] at hkq
    exact va_alen C.1 C.2.1 C.2.2.2.2.2.2.2.2.1 hW.2 kq (acls κ) hkq (gtys_at (acls_lt κ).2) rfl hd K
theorem snd_ge {index j : Nat} (hd : decode Y.2.1 pc = .ok (.getstatic index, 3)) (hj : j < 28) (hw : Cond.fieldLink Y.1.cls index RX9 (eNm.getD j "") "LDrownedCave$Word;" ∈ gw) (kk : Snd g l Y Q (pc + 3) D) : Snd g l Y Q pc (op_ge j D) := by
  intro p e s m args below meth c0 C lv st w res h hL hS H locs ls hW hA hl
  have hE := C.2.2.2.2.2.2.2.2.2.2.1
  exact va_gets C.1 C.2.1 (hE.1 j hj).1 hA C.2.2.2.2.1 (C.2.2.2.2.2.1 _ hw) (fun _ h9 => h9) hd (kk p e s m args below meth c0 C lv (.inr (.inr (some (21, j))) :: st) w res h hL (okS_cons hj hS) H locs ls hW hA hl)
theorem enum_inj (hE : ∀ i j, i < eNm.length → j < eNm.length → g.1 21 i = g.1 21 j → i = j) {x y : Option (Nat × Nat)} (hx : okV (.inr (.inr x))) (hy : okV (.inr (.inr y))) (rx : rk 21 x = true) (ry : rk 21 y = true) : (x.map fun q => g.1 q.1 q.2) = (y.map fun q => g.1 q.1 q.2) ↔ x = y := by
  match x, y, hx, hy, rx, ry with
  | none, none, _, _, _, _ => simp
  | none, some q, _, _, _, _ => simp
  | some q, none, _, _, _, _ => simp
  | some (a, i), some (b, j), hx, hy, rx, ry =>
    have e1 : a = 21 := Nat.eq_of_beq_eq_true rx
    have e2 : b = 21 := Nat.eq_of_beq_eq_true ry
    subst e1
    subst e2
    simp only [Option.map_some, Option.some.injEq, Prod.mk.injEq, true_and]
    constructor
    · exact hE i j hx hy
    · rintro rfl; rfl
theorem snd_ace {off : Int} {tgt : Nat} {T E : Den ρ} (hd : decode Y.2.1 pc = .ok (.if_acmp .eq off, 3)) (ht : (pc : Int) + off = (tgt : Int)) (kt : Snd g l Y Q tgt T) (kf : Snd g l Y Q (pc + 3) E) : Snd g l Y Q pc (op_ace T E) := by
  intro p e s m args below meth c0 C lv st w res h hL hS H locs ls hW hA hl
  obtain ⟨⟨y, r⟩, h1, ha⟩ := Option.bind_eq_some_iff.mp h
  obtain ⟨⟨x, r2⟩, h2, ha⟩ := Option.bind_eq_some_iff.mp ha
  have e1 := pR_eq h1
  have e2 : r = .inr (.inr x) :: r2 := pR_eq h2
  subst e2
  subst e1
  obtain ⟨hr, hb⟩ := cond_some ha
  dsimp only at hr hb
  obtain ⟨rx, ry⟩ := (Bool.and_eq_true _ _).mp hr
  have hin := enum_inj (g := g) C.2.2.2.2.2.2.2.2.2.2.1.2 (okS_tail hS _ List.mem_cons_self) (hS _ List.mem_cons_self) rx ry
  rw [List.map_cons, List.map_cons, phys_ref, phys_ref]
  exact lv_acmp_eq C.1 C.2.1 hd ht (fun hc => kt p e s m args below meth c0 C lv r2 w res (by rw [if_pos (hin.mp hc)] at hb; exact hb) hL (okS_tail (okS_tail hS)) H locs ls hW hA hl) (fun hc => kf p e s m args below meth c0 C lv r2 w res (by rw [if_neg (fun q => hc (hin.mpr q))] at hb; exact hb) hL (okS_tail (okS_tail hS)) H locs ls hW hA hl)
theorem snd_acn {off : Int} {tgt : Nat} {T E : Den ρ} (hd : decode Y.2.1 pc = .ok (.if_acmp .ne off, 3)) (ht : (pc : Int) + off = (tgt : Int)) (kt : Snd g l Y Q tgt T) (kf : Snd g l Y Q (pc + 3) E) : Snd g l Y Q pc (op_acn T E) := by
  intro p e s m args below meth c0 C lv st w res h hL hS H locs ls hW hA hl
  obtain ⟨⟨y, r⟩, h1, ha⟩ := Option.bind_eq_some_iff.mp h
  obtain ⟨⟨x, r2⟩, h2, ha⟩ := Option.bind_eq_some_iff.mp ha
  have e1 := pR_eq h1
  have e2 : r = .inr (.inr x) :: r2 := pR_eq h2
  subst e2
  subst e1
  obtain ⟨hr, hb⟩ := cond_some ha
  dsimp only at hr hb
  obtain ⟨rx, ry⟩ := (Bool.and_eq_true _ _).mp hr
  have hin := enum_inj (g := g) C.2.2.2.2.2.2.2.2.2.2.1.2 (okS_tail hS _ List.mem_cons_self) (hS _ List.mem_cons_self) rx ry
  rw [List.map_cons, List.map_cons, phys_ref, phys_ref]
  exact lv_acmp_ne C.1 C.2.1 hd ht (fun hc => kt p e s m args below meth c0 C lv r2 w res (by rw [if_neg (fun q => hc (hin.mpr q))] at hb; exact hb) hL (okS_tail (okS_tail hS)) H locs ls hW hA hl) (fun hc => kf p e s m args below meth c0 C lv r2 w res (by rw [if_pos (hin.mp hc)] at hb; exact hb) hL (okS_tail (okS_tail hS)) H locs ls hW hA hl)
end ARR
