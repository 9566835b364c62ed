/-! ===== Math, System.arraycopy, the row of words, switches ===== -/
section MORE
variable {ρ : Type}
def op_max (K : Den ρ) : Den ρ := fun lv st w => (pI st).bind fun y => (pI y.2).bind fun x => cond (Nat.ble (stw x.2) 8) (K lv (.inl (if x.1 < y.1 then y.1 else x.1) :: x.2) w) none
def op_min (K : Den ρ) : Den ρ := fun lv st w => (pI st).bind fun y => (pI y.2).bind fun x => cond (Nat.ble (stw x.2) 8) (K lv (.inl (if y.1 < x.1 then y.1 else x.1) :: x.2) w) none
/-- System.arraycopy between rows of ints -/
def op_cpy (K : Den ρ) : Den ρ := fun lv st w => (pI st).bind fun n => (pI n.2).bind fun dp => (pO dp.2).bind fun b => (pI b.2).bind fun sp => (pO sp.2).bind fun a =>
  cond (Nat.beq (ktag a.1.1) 10 && Nat.beq (ktag b.1.1) 10 && Nat.ble (stw a.2) 8) (cond (decide (¬ sp.1 < 0 ∧ ¬ dp.1 < 0 ∧ ¬ n.1 < 0 ∧ sp.1.toNatClampNeg + n.1.toNatClampNeg ≤ alen a.1.1 ∧ dp.1.toNatClampNeg + n.1.toNatClampNeg ≤ alen b.1.1))
    (K lv a.2 (sA w b.1.1 b.1.2 (va_cpy (w.1 a.1.1 a.1.2) (w.1 b.1.1 b.1.2) sp.1.toNatClampNeg dp.1.toNatClampNeg n.1.toNatClampNeg))) none) none
/-- a word into a row of words -/
def op_sw (K : Den ρ) : Den ρ := fun lv st w => (pO st).bind fun v => (pI v.2).bind fun x => (pO x.2).bind fun q => cond (Nat.beq q.1.1 65 && Nat.beq v.1.1 21) (cond (ib x.1 (alen q.1.1)) (K lv q.2 (sE w q.1.1 q.1.2 x.1.toNatClampNeg (some v.1.2))) none) none
variable {g : GG} {l : Launch} {Y : MD} {Q : Array Value → State → List Frame → ρ × Wd → State → Prop} {pc : Nat} {D : Den ρ}
theorem snd_max {index : Nat} (hd : decode Y.2.1 pc = .ok (.invokestatic index, 3)) (h1 : Cond.methodLink Y.1.cls index Lib.Math.max.name ∈ gw) (h2 : Cond.static Lib.Math.max.name ∈ gw) (h3 : Cond.initialized "java/lang/Math" ∈ gw) (h4 : Cond.code Lib.Math.max.name Lib.Math.max.code 2 (some .int) ∈ gw) (hR : (1 ≤ Y.2.2.2.2.1.frames ∧ 21 ≤ Y.2.2.2.2.1.locals) ∧ Y.2.2.2.2.2.1 ≤ Y.2.2.2.2.1.cells ∧ Y.2.2.2.2.2.2 ≤ Y.2.2.2.2.1.slots) (kk : Snd g l Y Q (pc + 3) D) : Snd g l Y Q pc (op_max D) := by
  intro p e s m args below meth c C lv st w res h hL hS H locs ls hW hA hl
  obtain ⟨⟨y, r⟩, q1, ha⟩ := Option.bind_eq_some_iff.mp h
  obtain ⟨⟨x, r2⟩, q2, ha⟩ := Option.bind_eq_some_iff.mp ha
  have e1 := pI_eq q1
  have e2 : r = .inl x :: r2 := pI_eq q2
  subst e2
  subst e1
  obtain ⟨hb, hc⟩ := cond_some ha
  have hts := C.2.2.2.2.2.1
  have hb2 := Nat.le_of_ble_eq_true hb
  dsimp only at hb2
  exact va_mmax C.1 C.2.1 (C.2.2.2.1.trans hl.1.symm) C.2.2.2.2.1 (hts _ h1) (hts _ h2) (hts _ h3) (hts _ h4) hR.1.1 (by rw [stw_eq]; omega) hR.2.1 hR.2.2 hd (kk p e s m args below meth c C lv (.inl (if x < y then y else x) :: r2) w res hc hL (okS_I (okS_tail (okS_tail hS))) H locs ls hW hA hl)
theorem snd_min {index : Nat} (hd : decode Y.2.1 pc = .ok (.invokestatic index, 3)) (h1 : Cond.methodLink Y.1.cls index Lib.Math.min.name ∈ gw) (h2 : Cond.static Lib.Math.min.name ∈ gw) (h3 : Cond.initialized "java/lang/Math" ∈ gw) (h4 : Cond.code Lib.Math.min.name Lib.Math.min.code 2 (some .int) ∈ gw) (hR : (1 ≤ Y.2.2.2.2.1.frames ∧ 21 ≤ Y.2.2.2.2.1.locals) ∧ Y.2.2.2.2.2.1 ≤ Y.2.2.2.2.1.cells ∧ Y.2.2.2.2.2.2 ≤ Y.2.2.2.2.1.slots) (kk : Snd g l Y Q (pc + 3) D) : Snd g l Y Q pc (op_min D) := by
  intro p e s m args below meth c C lv st w res h hL hS H locs ls hW hA hl
  obtain ⟨⟨y, r⟩, q1, ha⟩ := Option.bind_eq_some_iff.mp h
  obtain ⟨⟨x, r2⟩, q2, ha⟩ := Option.bind_eq_some_iff.mp ha
  have e1 := pI_eq q1
  have e2 : r = .inl x :: r2 := pI_eq q2
  subst e2
  subst e1
  obtain ⟨hb, hc⟩ := cond_some ha
  have hts := C.2.2.2.2.2.1
  have hb2 := Nat.le_of_ble_eq_true hb
  dsimp only at hb2
  exact va_mmin C.1 C.2.1 (C.2.2.2.1.trans hl.1.symm) C.2.2.2.2.1 (hts _ h1) (hts _ h2) (hts _ h3) (hts _ h4) hR.1.1 (by rw [stw_eq]; omega) hR.2.1 hR.2.2 hd (kk p e s m args below meth c C lv (.inl (if y < x then y else x) :: r2) w res hc hL (okS_I (okS_tail (okS_tail hS))) H locs ls hW hA hl)
theorem snd_cpy {index : Nat} (hd : decode Y.2.1 pc = .ok (.invokestatic index, 3)) (h1 : Cond.methodLink Y.1.cls index arraycopyName ∈ gw) (h2 : Cond.native arraycopyName ∈ gw) (h3 : Cond.static arraycopyName ∈ gw) (h4 : Cond.initialized "java/lang/System" ∈ gw) (hR : 1 ≤ Y.2.2.2.2.1.frames ∧ 8 + (nativeFrameWords "java/lang/System" "arraycopy" 5 + 11) ≤ Y.2.2.2.2.1.locals) (kk : Snd g l Y Q (pc + 3) D) : Snd g l Y Q pc (op_cpy D) := by
  intro p e s m args below meth c C lv st w res h hL hS H locs ls hW hA hl
  obtain ⟨⟨n, r0⟩, p0, ha⟩ := Option.bind_eq_some_iff.mp h
  obtain ⟨⟨dp, r1⟩, p1, ha⟩ := Option.bind_eq_some_iff.mp ha
  obtain ⟨⟨⟨κ1, i1⟩, r2⟩, p2, ha⟩ := Option.bind_eq_some_iff.mp ha
  obtain ⟨⟨sp, r3⟩, p3, ha⟩ := Option.bind_eq_some_iff.mp ha
  obtain ⟨⟨⟨κ0, i0⟩, r4⟩, p4, ha⟩ := Option.bind_eq_some_iff.mp ha
  have e0 := pI_eq p0
  have e1 : r0 = .inl dp :: r1 := pI_eq p1
  have e2 : r1 = .inr (.inr (some (κ1, i1))) :: r2 := pO_eq p2
  have e3 : r2 = .inl sp :: r3 := pI_eq p3
  have e4 : r3 = .inr (.inr (some (κ0, i0))) :: r4 := pO_eq p4
  subst e4
  subst e3
  subst e2
  subst e1
  subst e0
  obtain ⟨hb, hc⟩ := cond_some ha
  obtain ⟨hb2, hc⟩ := cond_some hc
  dsimp only at hb hb2 hc
  obtain ⟨b1, b3⟩ := (Bool.and_eq_true _ _).mp hb
  obtain ⟨b1, b2⟩ := (Bool.and_eq_true _ _).mp b1
  have k0 : ktag κ0 = 10 := Nat.eq_of_beq_eq_true b1
  have k1 : ktag κ1 = 10 := Nat.eq_of_beq_eq_true b2
  obtain ⟨c1, c2, c3, c4, c5⟩ := of_decide_eq_true hb2
  have hts := C.2.2.2.2.2.1
  have hST1 := okS_tail (okS_tail hS)
  have hi1 : i1 < cntK κ1 := by rw [← cntV_a (by rw [k1]; decide)]; exact hST1 _ List.mem_cons_self
  have hST2 := okS_tail (okS_tail hST1)
  have hi0 : i0 < cntK κ0 := by rw [← cntV_a (by rw [k0]; decide)]; exact hST2 _ List.mem_cons_self
  obtain ⟨q0, hq0⟩ := wls_get C.2.2.2.2.2.2.2.1 w hi0
  obtain ⟨q1, hq1⟩ := wls_get C.2.2.2.2.2.2.2.1 w hi1
  have hset : (wls g w).set q1 (g.1 κ1 i1, .inl (g.2.2.2.2 (acl 10), alen κ1, .inl (va_cpy (w.1 κ0 i0) (w.1 κ1 i1) sp.toNatClampNeg dp.toNatClampNeg n.toNatClampNeg))) = wls g (sA w κ1 i1 (va_cpy (w.1 κ0 i0) (w.1 κ1 i1) sp.toNatClampNeg dp.toNatClampNeg n.toNatClampNeg)) :=
    wls_set C.2.2.2.2.2.2.2.1 hi1 hq1 (by rw [cell_int (Or.inl rfl) k1, sA_row]) (fun f' i' hn => cell_sA_a (Or.inl k1) hn)
  rw [cell_int (Or.inl rfl) k0] at hq0
  rw [cell_int (Or.inl rfl) k1] at hq1
  have hsz := Nat.le_of_ble_eq_true b3
  exact va_copyi (ty := .int) C.1 C.2.1 (C.2.2.2.1.trans hl.1.symm) C.2.2.2.2.1 (hts _ h1) (hts _ h2) (hts _ h3) (hts _ h4) C.2.2.2.2.2.2.2.2.1 hW.2 (wls_Ds C.2.2.2.2.2.2.2.1 w) hA q0 q1 0 0 hq0 hq1 (gtys_at (by decide)) (gtys_at (by decide)) rfl c1 c2 c3 c4 c5 (fun _ _ => rfl) hR.1 (by rw [stw_eq]; omega) hd (fun H1 locs1 hP1 _ hS1 => kk p e s m args below meth c C lv r4 _ res hc hL (okS_tail hST2) H1 locs1 ls ⟨okW_sA hW.1 _ _ _, by rw [← hset]; exact hP1⟩ hS1 hl)
theorem snd_sw (hd : decode Y.2.1 pc = .ok (.aastore, 1)) (kk : Snd g l Y Q (pc + 1) D) : Snd g l Y Q pc (op_sw D) := by
  intro p e s m args below meth c C lv st w res h hL hS H locs ls hW hA hl
  obtain ⟨⟨⟨a, j⟩, r0⟩, h0, ha⟩ := Option.bind_eq_some_iff.mp h
  obtain ⟨⟨x, r⟩, h1, ha⟩ := Option.bind_eq_some_iff.mp ha
  obtain ⟨⟨⟨κ, i⟩, r2⟩, h2, ha⟩ := Option.bind_eq_some_iff.mp ha
  have e0 := pO_eq h0
  have e1 : r0 = .inl x :: r := pI_eq h1
  have e2 : r = .inr (.inr (some (κ, i))) :: r2 := pO_eq h2
  subst e2
  subst e1
  subst e0
  obtain ⟨hb, hc⟩ := cond_some ha
  obtain ⟨hi, hc2⟩ := cond_some hc
  dsimp only at hb hi hc2
  obtain ⟨b1, b2⟩ := (Bool.and_eq_true _ _).mp hb
  have k1 : κ = 65 := Nat.eq_of_beq_eq_true b1
  have k2 : a = 21 := Nat.eq_of_beq_eq_true b2
  subst k1
  subst k2
  have hj : j < 28 := hS _ List.mem_cons_self
  have hik : i < cntK 65 := by rw [← cntV_a (by decide)]; exact okS_tail (okS_tail hS) _ List.mem_cons_self
  obtain ⟨kq, hkq⟩ := wls_get C.2.2.2.2.2.2.2.1 w hik
  have hk15 : ktag 65 = 15 := by decide
  have hset : (wls g w).set kq (g.1 65 i, .inl (g.2.2.2.2 (acls 65), alen 65, .inr (.inr (.inr (.inr (va_up (fun k => (rfs 65 i k w).map fun q => g.1 q.1 q.2) x.toNatClampNeg (some (g.1 21 j)))))))) = wls g (sE w 65 i x.toNatClampNeg (some j)) := by
    refine wls_set C.2.2.2.2.2.2.2.1 hik hkq ?_ (fun f' i' hn => cell_sE_a hk15 hn)
    rw [cell_refs (Or.inr hk15)]
    refine congrArg (fun z => (Sum.inl (g.2.2.2.2 (acls 65), alen 65, .inr (.inr (.inr (.inr z)))) : va_E)) ?_
    funext k
    unfold rfs va_up
    rw [hk15]
    by_cases hk : k = x.toNatClampNeg
    · simp [sE, hk, Nat.beq]
    · simp [sE, hk, Nat.beq]
  rw [cell_refs (Or.inr hk15)] at hkq
  obtain ⟨cell, g1, g2, g3, -⟩ := (C.2.2.2.2.2.2.2.2.2.2.1.1 j hj).2.1.kept hA.2.1
  exact vb_astq (E := RX9) (C := RX9) C.1 C.2.1 C.2.2.2.2.2.2.2.2.1 hW.2 (wls_Ds C.2.2.2.2.2.2.2.1 w) hA kq 7 hkq (gtys_at (by decide)) ⟨cell, g1, g2, g3⟩ (fun c1 c2 q1 q2 => by rw [q1] at q2; cases q2; exact va_asg _ _) (ib_in hi) hd (fun H1 locs1 hP1 _ hS1 => kk p e s m args below meth c C lv r2 _ res hc2 hL (okS_tail (okS_tail (okS_tail hS))) H1 locs1 ls ⟨okW_sE hW.1 _ _ _ _ (fun z hz => by cases hz; exact hj), by rw [← hset]; exact hP1⟩ hS1 hl)
theorem tsel_cases {d : Den ρ} {x : Int32} {lv : Lv} {st : List VV} {w : Wd} {res : ρ × Wd} : ∀ (Ds : List (Den ρ)) (lo : Int32), tsel Ds d lo x lv st w = some res → (∃ (j : Nat) (E : Den ρ), Ds[j]? = some E ∧ x = lo + nI j ∧ E lv st w = some res) ∨ ((∀ j, j < Ds.length → x ≠ lo + nI j) ∧ d lv st w = some res)
  | [], lo, h => Or.inr ⟨fun j hj => by simp at hj, h⟩
  | E :: r, lo, h => by
    simp only [tsel] at h
    by_cases hx : x = lo
    · rw [if_pos hx] at h
      exact Or.inl ⟨0, E, rfl, by rw [nI_0, hx]; simp, h⟩
    · rw [if_neg hx] at h
      rcases tsel_cases r (lo + 1) h with ⟨j, F, h1, h2, h3⟩ | ⟨h1, h2⟩
      · exact Or.inl ⟨j + 1, F, h1, by rw [h2, ← nI_1, Int32.add_assoc, Int32.add_comm 1], h3⟩
      · refine Or.inr ⟨fun j hj => ?_, h2⟩
        match j, hj with
        | 0, _ => rw [nI_0]; simpa using hx
        | j + 1, hj =>
          have := h1 j (by simpa using hj)
          rw [← nI_1]
          rw [Int32.add_assoc, Int32.add_comm 1] at this
          exact this
theorem snd_tsw {dflt lo hi : Int} {offs : Array Int} {len tgd : Nat} {lo' : Int32} {Ds : List (Den ρ)} {d : Den ρ} (hd : decode Y.2.1 pc = .ok (.tableswitch dflt lo hi offs, len)) (hlo : lo'.toInt = lo) (hn : hi = lo + (Ds.length : Int) - 1) (hsm : -1000 ≤ lo ∧ lo ≤ 1000 ∧ Ds.length ≤ 1000) (htd : (pc : Int) + dflt = (tgd : Int)) (kd : Snd g l Y Q tgd d)
    (kk : ∀ (j : Nat) (E : Den ρ), Ds[j]? = some E → ∃ (off : Int) (tgt : Nat), offs[j]? = some off ∧ (pc : Int) + off = (tgt : Int) ∧ Snd g l Y Q tgt E) : Snd g l Y Q pc (op_tsw lo' Ds d) := by
  intro p e s m args below meth c C lv st w res h hL hS H locs ls hW hA hl
  obtain ⟨⟨x, r⟩, h1, ha⟩ := Option.bind_eq_some_iff.mp h
  have e1 := pI_eq h1
  subst e1
  dsimp only at ha
  have hI : ∀ j : Nat, j ≤ 1000 → (lo' + nI j).toInt = lo + j := fun j hj => by
    rw [Int32.toInt_add, nI_toInt (by omega), hlo]
    exact Int.bmod_eq_of_le (by omega) (by omega)
  rcases tsel_cases Ds lo' ha with ⟨j, E, h2, h3, h4⟩ | ⟨h2, h3⟩
  · obtain ⟨off, tgt, o1, o2, o3⟩ := kk j E h2
    have hjl : j < Ds.length := (List.getElem?_eq_some_iff.mp h2).1
    have hx : x.toInt = lo + j := by rw [h3]; exact hI j (by omega)
    exact lv_tableIn C.1 C.2.1 hd (by dsimp only; omega) (by dsimp only; omega) (by dsimp only; rw [hx, show (lo + (j : Int) - lo).toNat = j by omega]; exact o1) o2 (o3 p e s m args below meth c C lv r w res h4 hL (okS_tail hS) H locs ls hW hA hl)
  · refine lv_tableOut C.1 C.2.1 hd ?_ htd (kd p e s m args below meth c C lv r w res h3 hL (okS_tail hS) H locs ls hW hA hl)
    dsimp only
    by_cases q1 : x.toInt < lo
    · exact Or.inl q1
    · right
      by_cases q2 : hi < x.toInt
      · exact q2
      · exfalso
        refine h2 (x.toInt - lo).toNat (by omega) (Int32.toInt_inj.mp ?_)
        rw [hI _ (by omega)]
        omega
end MORE
