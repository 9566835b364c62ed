/-! ===== operations on numbers and locals, and that each is sound ===== -/
section OPS
variable {ρ : Type}
def op_ci (v : Int32) (K : Den ρ) : Den ρ := fun lv st w => K lv (.inl v :: st) w
def op_cl (v : Int64) (K : Den ρ) : Den ρ := fun lv st w => K lv (.inr (.inl v) :: st) w
def op_cn (K : Den ρ) : Den ρ := fun lv st w => K lv (.inr (.inr none) :: st) w
def lgI (lv : Lv) (i : Nat) : Option Int32 := match lget lv i with
  | some (.inl x) => some x
  | _ => none
def lgJ (lv : Lv) (i : Nat) : Option Int64 := match lget lv i with
  | some (.inr (.inl x)) => some x
  | _ => none
def lgR (lv : Lv) (i : Nat) : Option (Option (Nat × Nat)) := match lget lv i with
  | some (.inr (.inr x)) => some x
  | _ => none
def op_il (i : Nat) (K : Den ρ) : Den ρ := fun lv st w => (lgI lv i).bind fun x => K lv (.inl x :: st) w
def op_ll (i : Nat) (K : Den ρ) : Den ρ := fun lv st w => (lgJ lv i).bind fun x => K lv (.inr (.inl x) :: st) w
def op_al (i : Nat) (K : Den ρ) : Den ρ := fun lv st w => (lgR lv i).bind fun x => K lv (.inr (.inr x) :: st) w
def op_is (i : Nat) (K : Den ρ) : Den ρ := fun lv st w => (pI st).bind fun q => K (ls1 lv i (.inl q.1)) q.2 w
def op_ls (i : Nat) (K : Den ρ) : Den ρ := fun lv st w => (pJ st).bind fun q => K (ls2 lv i (.inr (.inl q.1))) q.2 w
def op_as (i : Nat) (K : Den ρ) : Den ρ := fun lv st w => (pR st).bind fun q => K (ls1 lv i (.inr (.inr q.1))) q.2 w
def op_inc (i : Nat) (n : Int32) (K : Den ρ) : Den ρ := fun lv st w => (lgI lv i).bind fun x => K (ls1 lv i (.inl (x + n))) st w
def op_kill (i : Nat) (K : Den ρ) : Den ρ := fun lv st w => K (lkill lv i) st w
def pV (st : List VV) : Option (VV × List VV) := match st with
  | [] => none
  | v :: r => cond (isLg (some v)) none (some (v, r))
def op_dup (K : Den ρ) : Den ρ := fun lv st w => (pV st).bind fun q => K lv (q.1 :: q.1 :: q.2) w
def op_pop (K : Den ρ) : Den ρ := fun lv st w => (pV st).bind fun q => K lv q.2 w
def op_dup2 (K : Den ρ) : Den ρ := fun lv st w => (pV st).bind fun q => (pV q.2).bind fun q2 => K lv (q.1 :: q2.1 :: q.1 :: q2.1 :: q2.2) w
def op_goto (K : Den ρ) : Den ρ := K
def op_iadd (K : Den ρ) : Den ρ := fun lv st w => (pI st).bind fun q => (pI q.2).bind fun q2 => K lv (.inl (q2.1 + q.1) :: q2.2) w
def op_isub (K : Den ρ) : Den ρ := fun lv st w => (pI st).bind fun q => (pI q.2).bind fun q2 => K lv (.inl (q2.1 - q.1) :: q2.2) w
def op_imul (K : Den ρ) : Den ρ := fun lv st w => (pI st).bind fun q => (pI q.2).bind fun q2 => K lv (.inl (q2.1 * q.1) :: q2.2) w
def op_iand (K : Den ρ) : Den ρ := fun lv st w => (pI st).bind fun q => (pI q.2).bind fun q2 => K lv (.inl (q2.1 &&& q.1) :: q2.2) w
def op_ior (K : Den ρ) : Den ρ := fun lv st w => (pI st).bind fun q => (pI q.2).bind fun q2 => K lv (.inl (q2.1 ||| q.1) :: q2.2) w
def op_ixor (K : Den ρ) : Den ρ := fun lv st w => (pI st).bind fun q => (pI q.2).bind fun q2 => K lv (.inl (q2.1 ^^^ q.1) :: q2.2) w
def op_ishl (K : Den ρ) : Den ρ := fun lv st w => (pI st).bind fun q => (pI q.2).bind fun q2 => K lv (.inl (q2.1 <<< (q.1 &&& 31)) :: q2.2) w
def op_ishr (K : Den ρ) : Den ρ := fun lv st w => (pI st).bind fun q => (pI q.2).bind fun q2 => K lv (.inl (q2.1 >>> (q.1 &&& 31)) :: q2.2) w
def op_iushr (K : Den ρ) : Den ρ := fun lv st w => (pI st).bind fun q => (pI q.2).bind fun q2 => K lv (.inl (q2.1.toUInt32 >>> (q.1.toUInt32 &&& Int32.toUInt32 31)).toInt32 :: q2.2) w
def op_idiv (K : Den ρ) : Den ρ := fun lv st w => (pI st).bind fun q => (pI q.2).bind fun q2 => if q.1 = 0 then none else K lv (.inl (q2.1 / q.1) :: q2.2) w
def op_irem (K : Den ρ) : Den ρ := fun lv st w => (pI st).bind fun q => (pI q.2).bind fun q2 => if q.1 = 0 then none else K lv (.inl (q2.1 - q2.1 / q.1 * q.1) :: q2.2) w
def op_ineg (K : Den ρ) : Den ρ := fun lv st w => (pI st).bind fun q => K lv (.inl (-q.1) :: q.2) w
def op_ladd (K : Den ρ) : Den ρ := fun lv st w => (pJ st).bind fun q => (pJ q.2).bind fun q2 => K lv (.inr (.inl (q2.1 + q.1)) :: q2.2) w
def op_lsub (K : Den ρ) : Den ρ := fun lv st w => (pJ st).bind fun q => (pJ q.2).bind fun q2 => K lv (.inr (.inl (q2.1 - q.1)) :: q2.2) w
def op_lmul (K : Den ρ) : Den ρ := fun lv st w => (pJ st).bind fun q => (pJ q.2).bind fun q2 => K lv (.inr (.inl (q2.1 * q.1)) :: q2.2) w
def op_land (K : Den ρ) : Den ρ := fun lv st w => (pJ st).bind fun q => (pJ q.2).bind fun q2 => K lv (.inr (.inl (q2.1 &&& q.1)) :: q2.2) w
def op_lor (K : Den ρ) : Den ρ := fun lv st w => (pJ st).bind fun q => (pJ q.2).bind fun q2 => K lv (.inr (.inl (q2.1 ||| q.1)) :: q2.2) w
def op_ldiv (K : Den ρ) : Den ρ := fun lv st w => (pJ st).bind fun q => (pJ q.2).bind fun q2 => if q.1 = 0 then none else K lv (.inr (.inl (q2.1 / q.1)) :: q2.2) w
def op_lrem (K : Den ρ) : Den ρ := fun lv st w => (pJ st).bind fun q => (pJ q.2).bind fun q2 => if q.1 = 0 then none else K lv (.inr (.inl (q2.1 - q2.1 / q.1 * q.1)) :: q2.2) w
def op_lcmp (K : Den ρ) : Den ρ := fun lv st w => (pJ st).bind fun q => (pJ q.2).bind fun q2 => K lv (.inl (lg_cmp q2.1 q.1) :: q2.2) w
def op_lshl (K : Den ρ) : Den ρ := fun lv st w => (pI st).bind fun q => (pJ q.2).bind fun q2 => K lv (.inr (.inl (q2.1 <<< (q.1.toInt64 &&& 63))) :: q2.2) w
def op_lshr (K : Den ρ) : Den ρ := fun lv st w => (pI st).bind fun q => (pJ q.2).bind fun q2 => K lv (.inr (.inl (q2.1 >>> (q.1.toInt64 &&& 63))) :: q2.2) w
def op_i2l (K : Den ρ) : Den ρ := fun lv st w => (pI st).bind fun q => K lv (.inr (.inl q.1.toInt64) :: q.2) w
def op_l2i (K : Den ρ) : Den ρ := fun lv st w => (pJ st).bind fun q => K lv (.inl q.1.toInt32 :: q.2) w
def op_i2c (K : Den ρ) : Den ρ := fun lv st w => (pI st).bind fun q => K lv (.inl (q.1.toUInt32 % 65536).toInt32 :: q.2) w
def op_ifeq (T E : Den ρ) : Den ρ := fun lv st w => (pI st).bind fun q => if q.1 = 0 then T lv q.2 w else E lv q.2 w
def op_iceq (T E : Den ρ) : Den ρ := fun lv st w => (pI st).bind fun q => (pI q.2).bind fun q2 => if q2.1 = q.1 then T lv q2.2 w else E lv q2.2 w
def op_ifne (T E : Den ρ) : Den ρ := fun lv st w => (pI st).bind fun q => if q.1 = 0 then E lv q.2 w else T lv q.2 w
def op_icne (T E : Den ρ) : Den ρ := fun lv st w => (pI st).bind fun q => (pI q.2).bind fun q2 => if q2.1 = q.1 then E lv q2.2 w else T lv q2.2 w
def op_iflt (T E : Den ρ) : Den ρ := fun lv st w => (pI st).bind fun q => if q.1 < 0 then T lv q.2 w else E lv q.2 w
def op_iclt (T E : Den ρ) : Den ρ := fun lv st w => (pI st).bind fun q => (pI q.2).bind fun q2 => if q2.1 < q.1 then T lv q2.2 w else E lv q2.2 w
def op_ifge (T E : Den ρ) : Den ρ := fun lv st w => (pI st).bind fun q => if 0 ≤ q.1 then T lv q.2 w else E lv q.2 w
def op_icge (T E : Den ρ) : Den ρ := fun lv st w => (pI st).bind fun q => (pI q.2).bind fun q2 => if q.1 ≤ q2.1 then T lv q2.2 w else E lv q2.2 w
def op_ifgt (T E : Den ρ) : Den ρ := fun lv st w => (pI st).bind fun q => if 0 < q.1 then T lv q.2 w else E lv q.2 w
def op_icgt (T E : Den ρ) : Den ρ := fun lv st w => (pI st).bind fun q => (pI q.2).bind fun q2 => if q.1 < q2.1 then T lv q2.2 w else E lv q2.2 w
def op_ifle (T E : Den ρ) : Den ρ := fun lv st w => (pI st).bind fun q => if q.1 ≤ 0 then T lv q.2 w else E lv q.2 w
def op_icle (T E : Den ρ) : Den ρ := fun lv st w => (pI st).bind fun q => (pI q.2).bind fun q2 => if q2.1 ≤ q.1 then T lv q2.2 w else E lv q2.2 w
def op_nul (T E : Den ρ) : Den ρ := fun lv st w => (pR st).bind fun q => match q.1 with
  | none => T lv q.2 w
  | some _ => E lv q.2 w
/-- a switch over lo, lo + 1 .. -/
def tsel (Ds : List (Den ρ)) (d : Den ρ) (lo x : Int32) : Den ρ := match Ds with
  | [] => d
  | D :: r => fun lv st w => if x = lo then D lv st w else tsel r d (lo + 1) x lv st w
def op_tsw (lo : Int32) (Ds : List (Den ρ)) (d : Den ρ) : Den ρ := fun lv st w => (pI st).bind fun q => tsel Ds d lo q.1 lv q.2 w
variable {g : GG} {l : Launch} {Y : MD} {Q : Array Value → State → List Frame → ρ × Wd → State → Prop} {pc : Nat} {D : Den ρ}
theorem snd_iconst {n : Int} {v : Int32} (hd : decode Y.2.1 pc = .ok (.iconst n, 1)) (hv : Int32.ofInt n = v) (k : Snd g l Y Q (pc + 1) D) : Snd g l Y Q pc (op_ci v D) := by
  intro p e s m args below meth c C lv st w res h hL hS H locs ls hW hA hl
  exact lv_iconst C.1 C.2.1 hd hv (k p e s m args below meth c C lv (.inl v :: st) w res h hL (okS_I hS) H locs ls hW hA hl)
theorem snd_bipush {n : Int} {v : Int32} (hd : decode Y.2.1 pc = .ok (.bipush n, 2)) (hv : (Int8.ofInt n).toInt32 = v) (k : Snd g l Y Q (pc + 2) D) : Snd g l Y Q pc (op_ci v D) := by
  intro p e s m args below meth c C lv st w res h hL hS H locs ls hW hA hl
  exact lv_bipush C.1 C.2.1 hd hv (k p e s m args below meth c C lv (.inl v :: st) w res h hL (okS_I hS) H locs ls hW hA hl)
theorem snd_sipush {n : Int} {v : Int32} (hd : decode Y.2.1 pc = .ok (.sipush n, 3)) (hv : (Int16.ofInt n).toInt32 = v) (k : Snd g l Y Q (pc + 3) D) : Snd g l Y Q pc (op_ci v D) := by
  intro p e s m args below meth c C lv st w res h hL hS H locs ls hW hA hl
  exact lv_sipush C.1 C.2.1 hd hv (k p e s m args below meth c C lv (.inl v :: st) w res h hL (okS_I hS) H locs ls hW hA hl)
theorem snd_ldc {index : Nat} {v : Int32} (hd : decode Y.2.1 pc = .ok (.ldc index, 2)) (hw : Cond.constant Y.1.cls index v ∈ gw) (k : Snd g l Y Q (pc + 2) D) : Snd g l Y Q pc (op_ci v D) := by
  intro p e s m args below meth c C lv st w res h hL hS H locs ls hW hA hl
  exact lv_ldc C.1 C.2.1 C.2.2.2.2.1 (C.2.2.2.2.2.1 _ hw) hd (k p e s m args below meth c C lv (.inl v :: st) w res h hL (okS_I hS) H locs ls hW hA hl)
theorem snd_ldcw {index : Nat} {v : Int32} (hd : decode Y.2.1 pc = .ok (.ldc_w index, 3)) (hw : Cond.constant Y.1.cls index v ∈ gw) (k : Snd g l Y Q (pc + 3) D) : Snd g l Y Q pc (op_ci v D) := by
  intro p e s m args below meth c C lv st w res h hL hS H locs ls hW hA hl
  exact lv_ldcw C.1 C.2.1 C.2.2.2.2.1 (C.2.2.2.2.2.1 _ hw) hd (k p e s m args below meth c C lv (.inl v :: st) w res h hL (okS_I hS) H locs ls hW hA hl)
theorem snd_ldc2 {index : Nat} {v : Int64} (hd : decode Y.2.1 pc = .ok (.ldc2_w index, 3)) (hw : Cond.constantLong Y.1.cls index v ∈ gw) (k : Snd g l Y Q (pc + 3) D) : Snd g l Y Q pc (op_cl v D) := by
  intro p e s m args below meth c C lv st w res h hL hS H locs ls hW hA hl
  exact lv_ldc2 C.1 C.2.1 C.2.2.2.2.1 (C.2.2.2.2.2.1 _ hw) hd (k p e s m args below meth c C lv (.inr (.inl v) :: st) w res h hL (okS_J hS) H locs ls hW hA hl)
theorem snd_lconst {n : Fin 2} {v : Int64} (hd : decode Y.2.1 pc = .ok (.lconst n, 1)) (hv : Int64.ofNat (n : Nat) = v) (k : Snd g l Y Q (pc + 1) D) : Snd g l Y Q pc (op_cl v D) := by
  intro p e s m args below meth c C lv st w res h hL hS H locs ls hW hA hl
  exact lv_lconst C.1 C.2.1 hd hv (k p e s m args below meth c C lv (.inr (.inl v) :: st) w res h hL (okS_J hS) H locs ls hW hA hl)
theorem snd_null (hd : decode Y.2.1 pc = .ok (.aconst_null, 1)) (k : Snd g l Y Q (pc + 1) D) : Snd g l Y Q pc (op_cn D) := by
  intro p e s m args below meth c C lv st w res h hL hS H locs ls hW hA hl
  exact lv_null C.1 C.2.1 hd (k p e s m args below meth c C lv (.inr (.inr none) :: st) w res h hL (okS_cons trivial hS) H locs ls hW hA hl)
theorem lgI_eq {lv : Lv} {i : Nat} {x : Int32} (h : lgI lv i = some x) : lget lv i = some (.inl x) := by
  unfold lgI at h
  split at h
  · cases h; assumption
  · cases h
theorem lgJ_eq {lv : Lv} {i : Nat} {x : Int64} (h : lgJ lv i = some x) : lget lv i = some (.inr (.inl x)) := by
  unfold lgJ at h
  split at h
  · cases h; assumption
  · cases h
theorem lgR_eq {lv : Lv} {i : Nat} {x : Option (Nat × Nat)} (h : lgR lv i = some x) : lget lv i = some (.inr (.inr x)) := by
  unfold lgR at h
  split at h
  · cases h; assumption
  · cases h
theorem snd_iln {j : Fin 4} {i : Nat} (hd : decode Y.2.1 pc = .ok (.iload_n j, 1)) (hi : (j : Nat) = i) (k : Snd g l Y Q (pc + 1) D) : Snd g l Y Q pc (op_il i D) := by
  intro p e s m args below meth c C lv st w res h hL hS H locs ls hW hA hl
  obtain ⟨x, h1, ha⟩ := Option.bind_eq_some_iff.mp h
  clear h
  have h := ha
  clear ha
  try dsimp only at h
  exact lv_iload_n C.1 C.2.1 hd hi (lv_has_get hl (lgI_eq h1)) (k p e s m args below meth c C lv (.inl x :: st) w res h hL (okS_I hS) H locs ls hW hA hl)
theorem snd_lln {j : Fin 4} {i : Nat} (hd : decode Y.2.1 pc = .ok (.lload_n j, 1)) (hi : (j : Nat) = i) (k : Snd g l Y Q (pc + 1) D) : Snd g l Y Q pc (op_ll i D) := by
  intro p e s m args below meth c C lv st w res h hL hS H locs ls hW hA hl
  obtain ⟨x, h1, ha⟩ := Option.bind_eq_some_iff.mp h
  clear h
  have h := ha
  clear ha
  try dsimp only at h
  exact lv_lload_n C.1 C.2.1 hd hi (lv_has_get hl (lgJ_eq h1)) (k p e s m args below meth c C lv (.inr (.inl x) :: st) w res h hL (okS_J hS) H locs ls hW hA hl)
theorem snd_aln {j : Fin 4} {i : Nat} (hd : decode Y.2.1 pc = .ok (.aload_n j, 1)) (hi : (j : Nat) = i) (k : Snd g l Y Q (pc + 1) D) : Snd g l Y Q pc (op_al i D) := by
  intro p e s m args below meth c C lv st w res h hL hS H locs ls hW hA hl
  obtain ⟨x, h1, ha⟩ := Option.bind_eq_some_iff.mp h
  clear h
  have h := ha
  clear ha
  try dsimp only at h
  have h2 := lv_has_get hl (lgR_eq h1)
  have h3 := okL_get hL (lgR_eq h1)
  cases x with
  | none => exact lv_aload_nN C.1 C.2.1 hd hi h2 (k p e s m args below meth c C lv (.inr (.inr none) :: st) w res h hL (okS_cons h3 hS) H locs ls hW hA hl)
  | some q => exact lv_aload_n C.1 C.2.1 hd hi h2 (k p e s m args below meth c C lv (.inr (.inr (some q)) :: st) w res h hL (okS_cons h3 hS) H locs ls hW hA hl)
theorem snd_il {i : Nat} (hd : decode Y.2.1 pc = .ok (.iload i, 2)) (k : Snd g l Y Q (pc + 2) D) : Snd g l Y Q pc (op_il i D) := by
  intro p e s m args below meth c C lv st w res h hL hS H locs ls hW hA hl
  obtain ⟨x, h1, ha⟩ := Option.bind_eq_some_iff.mp h
  clear h
  have h := ha
  clear ha
  try dsimp only at h
  exact lv_iload C.1 C.2.1 hd (lv_has_get hl (lgI_eq h1)) (k p e s m args below meth c C lv (.inl x :: st) w res h hL (okS_I hS) H locs ls hW hA hl)
theorem snd_ll {i : Nat} (hd : decode Y.2.1 pc = .ok (.lload i, 2)) (k : Snd g l Y Q (pc + 2) D) : Snd g l Y Q pc (op_ll i D) := by
  intro p e s m args below meth c C lv st w res h hL hS H locs ls hW hA hl
  obtain ⟨x, h1, ha⟩ := Option.bind_eq_some_iff.mp h
  clear h
  have h := ha
  clear ha
  try dsimp only at h
  exact lv_lload C.1 C.2.1 hd (lv_has_get hl (lgJ_eq h1)) (k p e s m args below meth c C lv (.inr (.inl x) :: st) w res h hL (okS_J hS) H locs ls hW hA hl)
theorem snd_al {i : Nat} (hd : decode Y.2.1 pc = .ok (.aload i, 2)) (k : Snd g l Y Q (pc + 2) D) : Snd g l Y Q pc (op_al i D) := by
  intro p e s m args below meth c C lv st w res h hL hS H locs ls hW hA hl
  obtain ⟨x, h1, ha⟩ := Option.bind_eq_some_iff.mp h
  clear h
  have h := ha
  clear ha
  try dsimp only at h
  have h2 := lv_has_get hl (lgR_eq h1)
  have h3 := okL_get hL (lgR_eq h1)
  cases x with
  | none => exact lv_aloadN C.1 C.2.1 hd h2 (k p e s m args below meth c C lv (.inr (.inr none) :: st) w res h hL (okS_cons h3 hS) H locs ls hW hA hl)
  | some q => exact lv_aload C.1 C.2.1 hd h2 (k p e s m args below meth c C lv (.inr (.inr (some q)) :: st) w res h hL (okS_cons h3 hS) H locs ls hW hA hl)
theorem snd_isn {j : Fin 4} {i : Nat} (hd : decode Y.2.1 pc = .ok (.istore_n j, 1)) (hi : (j : Nat) = i) (hn : i < Y.2.2.1) (k : Snd g l Y Q (pc + 1) D) : Snd g l Y Q pc (op_is i D) := by
  intro p e s m args below meth c C lv st w res h hL hS H locs ls hW hA hl
  obtain ⟨⟨x, r⟩, h1, ha⟩ := Option.bind_eq_some_iff.mp h
  clear h
  have h := ha
  clear ha
  try dsimp only at h
  have e1 := pI_eq h1
  subst e1
  exact lv_istore_n C.1 C.2.1 hd hi hl hn rfl (fun ls' hl' => k p e s m args below meth c C (ls1 lv i (.inl x)) r w res h (okL_ls1 hL i trivial) (okS_tail hS) H locs ls' hW hA (lv_has_mono hl' plv_ls1))
theorem snd_lsn {j : Fin 4} {i : Nat} (hd : decode Y.2.1 pc = .ok (.lstore_n j, 1)) (hi : (j : Nat) = i) (hn : i + 1 < Y.2.2.1) (k : Snd g l Y Q (pc + 1) D) : Snd g l Y Q pc (op_ls i D) := by
  intro p e s m args below meth c C lv st w res h hL hS H locs ls hW hA hl
  obtain ⟨⟨x, r⟩, h1, ha⟩ := Option.bind_eq_some_iff.mp h
  clear h
  have h := ha
  clear ha
  try dsimp only at h
  have e1 := pJ_eq h1
  subst e1
  exact lv_lstore_n C.1 C.2.1 hd hi hl hn rfl (fun ls' hl' => k p e s m args below meth c C (ls2 lv i (.inr (.inl x))) r w res h (okL_ls2 hL i trivial) (okS_tail hS) H locs ls' hW hA (lv_has_mono hl' plv_ls2))
theorem snd_asn {j : Fin 4} {i : Nat} (hd : decode Y.2.1 pc = .ok (.astore_n j, 1)) (hi : (j : Nat) = i) (hn : i < Y.2.2.1) (k : Snd g l Y Q (pc + 1) D) : Snd g l Y Q pc (op_as i D) := by
  intro p e s m args below meth c C lv st w res h hL hS H locs ls hW hA hl
  obtain ⟨⟨x, r⟩, h1, ha⟩ := Option.bind_eq_some_iff.mp h
  clear h
  have h := ha
  clear ha
  try dsimp only at h
  have e1 := pR_eq h1
  subst e1
  cases x with
  | none => exact lv_astore_nN C.1 C.2.1 hd hi hl hn rfl (fun ls' hl' => k p e s m args below meth c C (ls1 lv i (.inr (.inr none))) r w res h (okL_ls1 hL i (hS _ List.mem_cons_self)) (okS_tail hS) H locs ls' hW hA (lv_has_mono hl' plv_ls1))
  | some q => exact lv_astore_n C.1 C.2.1 hd hi hl hn rfl (fun ls' hl' => k p e s m args below meth c C (ls1 lv i (.inr (.inr (some q)))) r w res h (okL_ls1 hL i (hS _ List.mem_cons_self)) (okS_tail hS) H locs ls' hW hA (lv_has_mono hl' plv_ls1))
theorem snd_is {i : Nat} (hd : decode Y.2.1 pc = .ok (.istore i, 2)) (hn : i < Y.2.2.1) (k : Snd g l Y Q (pc + 2) D) : Snd g l Y Q pc (op_is i D) := by
  intro p e s m args below meth c C lv st w res h hL hS H locs ls hW hA hl
  obtain ⟨⟨x, r⟩, h1, ha⟩ := Option.bind_eq_some_iff.mp h
  clear h
  have h := ha
  clear ha
  try dsimp only at h
  have e1 := pI_eq h1
  subst e1
  exact lv_istore C.1 C.2.1 hd hl hn rfl (fun ls' hl' => k p e s m args below meth c C (ls1 lv i (.inl x)) r w res h (okL_ls1 hL i trivial) (okS_tail hS) H locs ls' hW hA (lv_has_mono hl' plv_ls1))
theorem snd_ls {i : Nat} (hd : decode Y.2.1 pc = .ok (.lstore i, 2)) (hn : i + 1 < Y.2.2.1) (k : Snd g l Y Q (pc + 2) D) : Snd g l Y Q pc (op_ls i D) := by
  intro p e s m args below meth c C lv st w res h hL hS H locs ls hW hA hl
  obtain ⟨⟨x, r⟩, h1, ha⟩ := Option.bind_eq_some_iff.mp h
  clear h
  have h := ha
  clear ha
  try dsimp only at h
  have e1 := pJ_eq h1
  subst e1
  exact lv_lstore C.1 C.2.1 hd hl hn rfl (fun ls' hl' => k p e s m args below meth c C (ls2 lv i (.inr (.inl x))) r w res h (okL_ls2 hL i trivial) (okS_tail hS) H locs ls' hW hA (lv_has_mono hl' plv_ls2))
theorem snd_as {i : Nat} (hd : decode Y.2.1 pc = .ok (.astore i, 2)) (hn : i < Y.2.2.1) (k : Snd g l Y Q (pc + 2) D) : Snd g l Y Q pc (op_as i D) := by
  intro p e s m args below meth c C lv st w res h hL hS H locs ls hW hA hl
  obtain ⟨⟨x, r⟩, h1, ha⟩ := Option.bind_eq_some_iff.mp h
  clear h
  have h := ha
  clear ha
  try dsimp only at h
  have e1 := pR_eq h1
  subst e1
  cases x with
  | none => exact lv_astoreN C.1 C.2.1 hd hl hn rfl (fun ls' hl' => k p e s m args below meth c C (ls1 lv i (.inr (.inr none))) r w res h (okL_ls1 hL i (hS _ List.mem_cons_self)) (okS_tail hS) H locs ls' hW hA (lv_has_mono hl' plv_ls1))
  | some q => exact lv_astore C.1 C.2.1 hd hl hn rfl (fun ls' hl' => k p e s m args below meth c C (ls1 lv i (.inr (.inr (some q)))) r w res h (okL_ls1 hL i (hS _ List.mem_cons_self)) (okS_tail hS) H locs ls' hW hA (lv_has_mono hl' plv_ls1))
theorem snd_inc {i : Nat} {n : Int} {v : Int32} (hd : decode Y.2.1 pc = .ok (.iinc i n, 3)) (hv : Int32.ofInt n = v) (hn : i < Y.2.2.1) (k : Snd g l Y Q (pc + 3) D) : Snd g l Y Q pc (op_inc i v D) := by
  intro p e s m args below meth c C lv st w res h hL hS H locs ls hW hA hl
  obtain ⟨x, h1, ha⟩ := Option.bind_eq_some_iff.mp h
  clear h
  have h := ha
  clear ha
  try dsimp only at h
  subst hv
  obtain ⟨j, hj⟩ := List.getElem?_of_mem ((plv_mem lv 0).mpr ⟨i, .inl x, lgI_eq h1, by rw [Nat.zero_add]⟩)
  exact lv_iinc C.1 C.2.1 hd hl hj rfl hn rfl (fun ls' hl' => k p e s m args below meth c C (ls1 lv i (.inl (x + Int32.ofInt n))) st w res h (okL_ls1 hL i trivial) hS H locs ls' hW hA (lv_has_mono hl' plv_ls1))
theorem snd_kill (i : Nat) (k : Snd g l Y Q pc D) : Snd g l Y Q pc (op_kill i D) := by
  intro p e s m args below meth c C lv st w res h hL hS H locs ls hW hA hl
  exact k p e s m args below meth c C (lkill lv i) st w res h (okL_kill hL i) hS H locs ls hW hA (lv_has_mono hl (fun q hq => by
      obtain ⟨j, x, hx, rfl⟩ := (plv_mem _ 0).mp hq
      exact (plv_mem _ 0).mpr ⟨j, x, lkill_get lv i j x hx, rfl⟩))
theorem pV_eq {st : List VV} {q : VV × List VV} (h : pV st = some q) : st = q.1 :: q.2 ∧ ∀ g : GG, (phys g q.1).category = 1 := by
  unfold pV at h
  split at h
  · cases h
  · rename_i v r
    cases hv : isLg (some v) with
    | true => rw [hv] at h; cases h
    | false =>
      rw [hv] at h
      cases h
      refine ⟨rfl, fun g => ?_⟩
      rcases lv_cat (phys g v) with h1 | h1
      · exact h1
      · rw [vcat_phys.mp h1] at hv
        cases hv
theorem snd_dup (hd : decode Y.2.1 pc = .ok (.dup, 1)) (k : Snd g l Y Q (pc + 1) D) : Snd g l Y Q pc (op_dup D) := by
  intro p e s m args below meth c C lv st w res h hL hS H locs ls hW hA hl
  obtain ⟨⟨x, r⟩, h1, ha⟩ := Option.bind_eq_some_iff.mp h
  clear h
  have h := ha
  clear ha
  try dsimp only at h
  obtain ⟨rfl, hc⟩ := pV_eq h1
  exact lv_dup C.1 C.2.1 hd (hc g) (k p e s m args below meth c C lv (x :: x :: r) w res h hL (okS_cons (hS _ List.mem_cons_self) hS) H locs ls hW hA hl)
theorem snd_pop (hd : decode Y.2.1 pc = .ok (.pop, 1)) (k : Snd g l Y Q (pc + 1) D) : Snd g l Y Q pc (op_pop D) := by
  intro p e s m args below meth c C lv st w res h hL hS H locs ls hW hA hl
  obtain ⟨⟨x, r⟩, h1, ha⟩ := Option.bind_eq_some_iff.mp h
  clear h
  have h := ha
  clear ha
  try dsimp only at h
  obtain ⟨rfl, hc⟩ := pV_eq h1
  exact lv_pop C.1 C.2.1 hd (hc g) (k p e s m args below meth c C lv (r) w res h hL (okS_tail hS) H locs ls hW hA hl)
theorem snd_dup2 (hd : decode Y.2.1 pc = .ok (.dup2, 1)) (k : Snd g l Y Q (pc + 1) D) : Snd g l Y Q pc (op_dup2 D) := by
  intro p e s m args below meth c C lv st w res h hL hS H locs ls hW hA hl
  obtain ⟨⟨x, r⟩, h1, ha⟩ := Option.bind_eq_some_iff.mp h
  clear h
  obtain ⟨⟨y, r2⟩, h2, h⟩ := Option.bind_eq_some_iff.mp ha
  clear ha
  dsimp only at h2 h
  obtain ⟨rfl, hc⟩ := pV_eq h1
  obtain ⟨e2, hc2⟩ := pV_eq h2
  have e2 : r = y :: r2 := e2
  subst e2
  exact lv_dup2_11 C.1 C.2.1 hd (hc g) (hc2 g) (k p e s m args below meth c C lv (x :: y :: x :: y :: r2) w res h hL (okS_cons (hS _ List.mem_cons_self) (okS_cons (okS_tail hS _ List.mem_cons_self) hS)) H locs ls hW hA hl)
theorem snd_goto {off : Int} {tgt : Nat} (hd : decode Y.2.1 pc = .ok (.goto off, 3)) (ht : (pc : Int) + off = (tgt : Int)) (k : Snd g l Y Q tgt D) : Snd g l Y Q pc (op_goto D) := by
  intro p e s m args below meth c C lv st w res h hL hS H locs ls hW hA hl
  exact lv_goto C.1 C.2.1 hd ht (k p e s m args below meth c C lv (st) w res h hL hS H locs ls hW hA hl)
theorem snd_iadd (hd : decode Y.2.1 pc = .ok (.iadd, 1)) (k : Snd g l Y Q (pc + 1) D) : Snd g l Y Q pc (op_iadd D) := by
  intro p e s m args below meth c C lv st w res h hL hS H locs ls hW hA hl
  obtain ⟨⟨y, r⟩, h1, ha⟩ := Option.bind_eq_some_iff.mp h
  clear h
  obtain ⟨⟨x, r2⟩, h2, h⟩ := Option.bind_eq_some_iff.mp ha
  clear ha
  dsimp only at h2 h
  have e1 := pI_eq h1
  have e2 : r = .inl x :: r2 := pI_eq h2
  subst e2
  subst e1
  exact lv_iadd C.1 C.2.1 hd (k p e s m args below meth c C lv (.inl (x + y) :: r2) w res h hL (okS_I (okS_tail (okS_tail hS))) H locs ls hW hA hl)
theorem snd_isub (hd : decode Y.2.1 pc = .ok (.isub, 1)) (k : Snd g l Y Q (pc + 1) D) : Snd g l Y Q pc (op_isub D) := by
  intro p e s m args below meth c C lv st w res h hL hS H locs ls hW hA hl
  obtain ⟨⟨y, r⟩, h1, ha⟩ := Option.bind_eq_some_iff.mp h
  clear h
  obtain ⟨⟨x, r2⟩, h2, h⟩ := Option.bind_eq_some_iff.mp ha
  clear ha
  dsimp only at h2 h
  have e1 := pI_eq h1
  have e2 : r = .inl x :: r2 := pI_eq h2
  subst e2
  subst e1
  exact lv_isub C.1 C.2.1 hd (k p e s m args below meth c C lv (.inl (x - y) :: r2) w res h hL (okS_I (okS_tail (okS_tail hS))) H locs ls hW hA hl)
theorem snd_imul (hd : decode Y.2.1 pc = .ok (.imul, 1)) (k : Snd g l Y Q (pc + 1) D) : Snd g l Y Q pc (op_imul D) := by
  intro p e s m args below meth c C lv st w res h hL hS H locs ls hW hA hl
  obtain ⟨⟨y, r⟩, h1, ha⟩ := Option.bind_eq_some_iff.mp h
  clear h
  obtain ⟨⟨x, r2⟩, h2, h⟩ := Option.bind_eq_some_iff.mp ha
  clear ha
  dsimp only at h2 h
  have e1 := pI_eq h1
  have e2 : r = .inl x :: r2 := pI_eq h2
  subst e2
  subst e1
  exact lv_imul C.1 C.2.1 hd (k p e s m args below meth c C lv (.inl (x * y) :: r2) w res h hL (okS_I (okS_tail (okS_tail hS))) H locs ls hW hA hl)
theorem snd_iand (hd : decode Y.2.1 pc = .ok (.iand, 1)) (k : Snd g l Y Q (pc + 1) D) : Snd g l Y Q pc (op_iand D) := by
  intro p e s m args below meth c C lv st w res h hL hS H locs ls hW hA hl
  obtain ⟨⟨y, r⟩, h1, ha⟩ := Option.bind_eq_some_iff.mp h
  clear h
  obtain ⟨⟨x, r2⟩, h2, h⟩ := Option.bind_eq_some_iff.mp ha
  clear ha
  dsimp only at h2 h
  have e1 := pI_eq h1
  have e2 : r = .inl x :: r2 := pI_eq h2
  subst e2
  subst e1
  exact lv_iand C.1 C.2.1 hd (k p e s m args below meth c C lv (.inl (x &&& y) :: r2) w res h hL (okS_I (okS_tail (okS_tail hS))) H locs ls hW hA hl)
theorem snd_ior (hd : decode Y.2.1 pc = .ok (.ior, 1)) (k : Snd g l Y Q (pc + 1) D) : Snd g l Y Q pc (op_ior D) := by
  intro p e s m args below meth c C lv st w res h hL hS H locs ls hW hA hl
  obtain ⟨⟨y, r⟩, h1, ha⟩ := Option.bind_eq_some_iff.mp h
  clear h
  obtain ⟨⟨x, r2⟩, h2, h⟩ := Option.bind_eq_some_iff.mp ha
  clear ha
  dsimp only at h2 h
  have e1 := pI_eq h1
  have e2 : r = .inl x :: r2 := pI_eq h2
  subst e2
  subst e1
  exact lv_ior C.1 C.2.1 hd (k p e s m args below meth c C lv (.inl (x ||| y) :: r2) w res h hL (okS_I (okS_tail (okS_tail hS))) H locs ls hW hA hl)
theorem snd_ixor (hd : decode Y.2.1 pc = .ok (.ixor, 1)) (k : Snd g l Y Q (pc + 1) D) : Snd g l Y Q pc (op_ixor D) := by
  intro p e s m args below meth c C lv st w res h hL hS H locs ls hW hA hl
  obtain ⟨⟨y, r⟩, h1, ha⟩ := Option.bind_eq_some_iff.mp h
  clear h
  obtain ⟨⟨x, r2⟩, h2, h⟩ := Option.bind_eq_some_iff.mp ha
  clear ha
  dsimp only at h2 h
  have e1 := pI_eq h1
  have e2 : r = .inl x :: r2 := pI_eq h2
  subst e2
  subst e1
  exact lv_ixor C.1 C.2.1 hd (k p e s m args below meth c C lv (.inl (x ^^^ y) :: r2) w res h hL (okS_I (okS_tail (okS_tail hS))) H locs ls hW hA hl)
theorem snd_ishl (hd : decode Y.2.1 pc = .ok (.ishl, 1)) (k : Snd g l Y Q (pc + 1) D) : Snd g l Y Q pc (op_ishl D) := by
  intro p e s m args below meth c C lv st w res h hL hS H locs ls hW hA hl
  obtain ⟨⟨y, r⟩, h1, ha⟩ := Option.bind_eq_some_iff.mp h
  clear h
  obtain ⟨⟨x, r2⟩, h2, h⟩ := Option.bind_eq_some_iff.mp ha
  clear ha
  dsimp only at h2 h
  have e1 := pI_eq h1
  have e2 : r = .inl x :: r2 := pI_eq h2
  subst e2
  subst e1
  exact lv_ishl C.1 C.2.1 hd (k p e s m args below meth c C lv (.inl (x <<< (y &&& 31)) :: r2) w res h hL (okS_I (okS_tail (okS_tail hS))) H locs ls hW hA hl)
theorem snd_ishr (hd : decode Y.2.1 pc = .ok (.ishr, 1)) (k : Snd g l Y Q (pc + 1) D) : Snd g l Y Q pc (op_ishr D) := by
  intro p e s m args below meth c C lv st w res h hL hS H locs ls hW hA hl
  obtain ⟨⟨y, r⟩, h1, ha⟩ := Option.bind_eq_some_iff.mp h
  clear h
  obtain ⟨⟨x, r2⟩, h2, h⟩ := Option.bind_eq_some_iff.mp ha
  clear ha
  dsimp only at h2 h
  have e1 := pI_eq h1
  have e2 : r = .inl x :: r2 := pI_eq h2
  subst e2
  subst e1
  exact lv_ishr C.1 C.2.1 hd (k p e s m args below meth c C lv (.inl (x >>> (y &&& 31)) :: r2) w res h hL (okS_I (okS_tail (okS_tail hS))) H locs ls hW hA hl)
theorem snd_iushr (hd : decode Y.2.1 pc = .ok (.iushr, 1)) (k : Snd g l Y Q (pc + 1) D) : Snd g l Y Q pc (op_iushr D) := by
  intro p e s m args below meth c C lv st w res h hL hS H locs ls hW hA hl
  obtain ⟨⟨y, r⟩, h1, ha⟩ := Option.bind_eq_some_iff.mp h
  clear h
  obtain ⟨⟨x, r2⟩, h2, h⟩ := Option.bind_eq_some_iff.mp ha
  clear ha
  dsimp only at h2 h
  have e1 := pI_eq h1
  have e2 : r = .inl x :: r2 := pI_eq h2
  subst e2
  subst e1
  exact lv_iushr C.1 C.2.1 hd rfl (k p e s m args below meth c C lv (.inl (x.toUInt32 >>> (y.toUInt32 &&& Int32.toUInt32 31)).toInt32 :: r2) w res h hL (okS_I (okS_tail (okS_tail hS))) H locs ls hW hA hl)
theorem snd_idiv (hd : decode Y.2.1 pc = .ok (.idiv, 1)) (k : Snd g l Y Q (pc + 1) D) : Snd g l Y Q pc (op_idiv D) := by
  intro p e s m args below meth c C lv st w res h hL hS H locs ls hW hA hl
  obtain ⟨⟨y, r⟩, h1, ha⟩ := Option.bind_eq_some_iff.mp h
  clear h
  obtain ⟨⟨x, r2⟩, h2, h⟩ := Option.bind_eq_some_iff.mp ha
  clear ha
  dsimp only at h2 h
  have e1 := pI_eq h1
  have e2 : r = .inl x :: r2 := pI_eq h2
  subst e2
  subst e1
  by_cases h0 : y = 0
  · simp [h0] at h
  · simp only [if_neg h0] at h
    exact lv_idiv C.1 C.2.1 hd h0 (k p e s m args below meth c C lv (.inl (x / y) :: r2) w res h hL (okS_I (okS_tail (okS_tail hS))) H locs ls hW hA hl)
theorem snd_irem (hd : decode Y.2.1 pc = .ok (.irem, 1)) (k : Snd g l Y Q (pc + 1) D) : Snd g l Y Q pc (op_irem D) := by
  intro p e s m args below meth c C lv st w res h hL hS H locs ls hW hA hl
  obtain ⟨⟨y, r⟩, h1, ha⟩ := Option.bind_eq_some_iff.mp h
  clear h
  obtain ⟨⟨x, r2⟩, h2, h⟩ := Option.bind_eq_some_iff.mp ha
  clear ha
  dsimp only at h2 h
  have e1 := pI_eq h1
  have e2 : r = .inl x :: r2 := pI_eq h2
  subst e2
  subst e1
  by_cases h0 : y = 0
  · simp [h0] at h
  · simp only [if_neg h0] at h
    exact lv_irem C.1 C.2.1 hd h0 (k p e s m args below meth c C lv (.inl (x - x / y * y) :: r2) w res h hL (okS_I (okS_tail (okS_tail hS))) H locs ls hW hA hl)
theorem snd_ineg (hd : decode Y.2.1 pc = .ok (.ineg, 1)) (k : Snd g l Y Q (pc + 1) D) : Snd g l Y Q pc (op_ineg D) := by
  intro p e s m args below meth c C lv st w res h hL hS H locs ls hW hA hl
  obtain ⟨⟨x, r⟩, h1, ha⟩ := Option.bind_eq_some_iff.mp h
  clear h
  have h := ha
  clear ha
  try dsimp only at h
  have e1 := pI_eq h1
  subst e1
  exact lv_ineg C.1 C.2.1 hd (k p e s m args below meth c C lv (.inl (-x) :: r) w res h hL (okS_I (okS_tail hS)) H locs ls hW hA hl)
theorem snd_ladd (hd : decode Y.2.1 pc = .ok (.ladd, 1)) (k : Snd g l Y Q (pc + 1) D) : Snd g l Y Q pc (op_ladd D) := by
  intro p e s m args below meth c C lv st w res h hL hS H locs ls hW hA hl
  obtain ⟨⟨y, r⟩, h1, ha⟩ := Option.bind_eq_some_iff.mp h
  clear h
  obtain ⟨⟨x, r2⟩, h2, h⟩ := Option.bind_eq_some_iff.mp ha
  clear ha
  dsimp only at h2 h
  have e1 := pJ_eq h1
  have e2 : r = .inr (.inl x) :: r2 := pJ_eq h2
  subst e2
  subst e1
  exact lv_ladd C.1 C.2.1 hd (k p e s m args below meth c C lv (.inr (.inl (x + y)) :: r2) w res h hL (okS_J (okS_tail (okS_tail hS))) H locs ls hW hA hl)
theorem snd_lsub (hd : decode Y.2.1 pc = .ok (.lsub, 1)) (k : Snd g l Y Q (pc + 1) D) : Snd g l Y Q pc (op_lsub D) := by
  intro p e s m args below meth c C lv st w res h hL hS H locs ls hW hA hl
  obtain ⟨⟨y, r⟩, h1, ha⟩ := Option.bind_eq_some_iff.mp h
  clear h
  obtain ⟨⟨x, r2⟩, h2, h⟩ := Option.bind_eq_some_iff.mp ha
  clear ha
  dsimp only at h2 h
  have e1 := pJ_eq h1
  have e2 : r = .inr (.inl x) :: r2 := pJ_eq h2
  subst e2
  subst e1
  exact lv_lsub C.1 C.2.1 hd (k p e s m args below meth c C lv (.inr (.inl (x - y)) :: r2) w res h hL (okS_J (okS_tail (okS_tail hS))) H locs ls hW hA hl)
theorem snd_lmul (hd : decode Y.2.1 pc = .ok (.lmul, 1)) (k : Snd g l Y Q (pc + 1) D) : Snd g l Y Q pc (op_lmul D) := by
  intro p e s m args below meth c C lv st w res h hL hS H locs ls hW hA hl
  obtain ⟨⟨y, r⟩, h1, ha⟩ := Option.bind_eq_some_iff.mp h
  clear h
  obtain ⟨⟨x, r2⟩, h2, h⟩ := Option.bind_eq_some_iff.mp ha
  clear ha
  dsimp only at h2 h
  have e1 := pJ_eq h1
  have e2 : r = .inr (.inl x) :: r2 := pJ_eq h2
  subst e2
  subst e1
  exact lv_lmul C.1 C.2.1 hd (k p e s m args below meth c C lv (.inr (.inl (x * y)) :: r2) w res h hL (okS_J (okS_tail (okS_tail hS))) H locs ls hW hA hl)
theorem snd_land (hd : decode Y.2.1 pc = .ok (.land, 1)) (k : Snd g l Y Q (pc + 1) D) : Snd g l Y Q pc (op_land D) := by
  intro p e s m args below meth c C lv st w res h hL hS H locs ls hW hA hl
  obtain ⟨⟨y, r⟩, h1, ha⟩ := Option.bind_eq_some_iff.mp h
  clear h
  obtain ⟨⟨x, r2⟩, h2, h⟩ := Option.bind_eq_some_iff.mp ha
  clear ha
  dsimp only at h2 h
  have e1 := pJ_eq h1
  have e2 : r = .inr (.inl x) :: r2 := pJ_eq h2
  subst e2
  subst e1
  exact lv_land C.1 C.2.1 hd (k p e s m args below meth c C lv (.inr (.inl (x &&& y)) :: r2) w res h hL (okS_J (okS_tail (okS_tail hS))) H locs ls hW hA hl)
theorem snd_lor (hd : decode Y.2.1 pc = .ok (.lor, 1)) (k : Snd g l Y Q (pc + 1) D) : Snd g l Y Q pc (op_lor D) := by
  intro p e s m args below meth c C lv st w res h hL hS H locs ls hW hA hl
  obtain ⟨⟨y, r⟩, h1, ha⟩ := Option.bind_eq_some_iff.mp h
  clear h
  obtain ⟨⟨x, r2⟩, h2, h⟩ := Option.bind_eq_some_iff.mp ha
  clear ha
  dsimp only at h2 h
  have e1 := pJ_eq h1
  have e2 : r = .inr (.inl x) :: r2 := pJ_eq h2
  subst e2
  subst e1
  exact lv_lor C.1 C.2.1 hd (k p e s m args below meth c C lv (.inr (.inl (x ||| y)) :: r2) w res h hL (okS_J (okS_tail (okS_tail hS))) H locs ls hW hA hl)
theorem snd_ldiv (hd : decode Y.2.1 pc = .ok (.ldiv, 1)) (k : Snd g l Y Q (pc + 1) D) : Snd g l Y Q pc (op_ldiv D) := by
  intro p e s m args below meth c C lv st w res h hL hS H locs ls hW hA hl
  obtain ⟨⟨y, r⟩, h1, ha⟩ := Option.bind_eq_some_iff.mp h
  clear h
  obtain ⟨⟨x, r2⟩, h2, h⟩ := Option.bind_eq_some_iff.mp ha
  clear ha
  dsimp only at h2 h
  have e1 := pJ_eq h1
  have e2 : r = .inr (.inl x) :: r2 := pJ_eq h2
  subst e2
  subst e1
  by_cases h0 : y = 0
  · simp [h0] at h
  · simp only [if_neg h0] at h
    exact lv_ldiv C.1 C.2.1 hd h0 (k p e s m args below meth c C lv (.inr (.inl (x / y)) :: r2) w res h hL (okS_J (okS_tail (okS_tail hS))) H locs ls hW hA hl)
theorem snd_lrem (hd : decode Y.2.1 pc = .ok (.lrem, 1)) (k : Snd g l Y Q (pc + 1) D) : Snd g l Y Q pc (op_lrem D) := by
  intro p e s m args below meth c C lv st w res h hL hS H locs ls hW hA hl
  obtain ⟨⟨y, r⟩, h1, ha⟩ := Option.bind_eq_some_iff.mp h
  clear h
  obtain ⟨⟨x, r2⟩, h2, h⟩ := Option.bind_eq_some_iff.mp ha
  clear ha
  dsimp only at h2 h
  have e1 := pJ_eq h1
  have e2 : r = .inr (.inl x) :: r2 := pJ_eq h2
  subst e2
  subst e1
  by_cases h0 : y = 0
  · simp [h0] at h
  · simp only [if_neg h0] at h
    exact lv_lrem C.1 C.2.1 hd h0 (k p e s m args below meth c C lv (.inr (.inl (x - x / y * y)) :: r2) w res h hL (okS_J (okS_tail (okS_tail hS))) H locs ls hW hA hl)
theorem snd_lcmp (hd : decode Y.2.1 pc = .ok (.lcmp, 1)) (k : Snd g l Y Q (pc + 1) D) : Snd g l Y Q pc (op_lcmp D) := by
  intro p e s m args below meth c C lv st w res h hL hS H locs ls hW hA hl
  obtain ⟨⟨y, r⟩, h1, ha⟩ := Option.bind_eq_some_iff.mp h
  clear h
  obtain ⟨⟨x, r2⟩, h2, h⟩ := Option.bind_eq_some_iff.mp ha
  clear ha
  dsimp only at h2 h
  have e1 := pJ_eq h1
  have e2 : r = .inr (.inl x) :: r2 := pJ_eq h2
  subst e2
  subst e1
  exact W.lcmp C.1 C.2.1 hd (k p e s m args below meth c C lv (.inl (lg_cmp x y) :: r2) w res h hL (okS_I (okS_tail (okS_tail hS))) H locs ls hW hA hl)
theorem snd_lshl (hd : decode Y.2.1 pc = .ok (.lshl, 1)) (k : Snd g l Y Q (pc + 1) D) : Snd g l Y Q pc (op_lshl D) := by
  intro p e s m args below meth c C lv st w res h hL hS H locs ls hW hA hl
  obtain ⟨⟨y, r⟩, h1, ha⟩ := Option.bind_eq_some_iff.mp h
  clear h
  obtain ⟨⟨x, r2⟩, h2, h⟩ := Option.bind_eq_some_iff.mp ha
  clear ha
  dsimp only at h2 h
  have e1 := pI_eq h1
  have e2 : r = .inr (.inl x) :: r2 := pJ_eq h2
  subst e2
  subst e1
  exact lv_lshl C.1 C.2.1 hd rfl (k p e s m args below meth c C lv (.inr (.inl (x <<< (y.toInt64 &&& 63))) :: r2) w res h hL (okS_J (okS_tail (okS_tail hS))) H locs ls hW hA hl)
theorem snd_lshr (hd : decode Y.2.1 pc = .ok (.lshr, 1)) (k : Snd g l Y Q (pc + 1) D) : Snd g l Y Q pc (op_lshr D) := by
  intro p e s m args below meth c C lv st w res h hL hS H locs ls hW hA hl
  obtain ⟨⟨y, r⟩, h1, ha⟩ := Option.bind_eq_some_iff.mp h
  clear h
  obtain ⟨⟨x, r2⟩, h2, h⟩ := Option.bind_eq_some_iff.mp ha
  clear ha
  dsimp only at h2 h
  have e1 := pI_eq h1
  have e2 : r = .inr (.inl x) :: r2 := pJ_eq h2
  subst e2
  subst e1
  exact lv_lshr C.1 C.2.1 hd rfl (k p e s m args below meth c C lv (.inr (.inl (x >>> (y.toInt64 &&& 63))) :: r2) w res h hL (okS_J (okS_tail (okS_tail hS))) H locs ls hW hA hl)
theorem snd_i2l (hd : decode Y.2.1 pc = .ok (.i2l, 1)) (k : Snd g l Y Q (pc + 1) D) : Snd g l Y Q pc (op_i2l D) := by
  intro p e s m args below meth c C lv st w res h hL hS H locs ls hW hA hl
  obtain ⟨⟨x, r⟩, h1, ha⟩ := Option.bind_eq_some_iff.mp h
  clear h
  have h := ha
  clear ha
  try dsimp only at h
  have e1 := pI_eq h1
  subst e1
  exact lv_i2l C.1 C.2.1 hd rfl (k p e s m args below meth c C lv (.inr (.inl x.toInt64) :: r) w res h hL (okS_J (okS_tail hS)) H locs ls hW hA hl)
theorem snd_l2i (hd : decode Y.2.1 pc = .ok (.l2i, 1)) (k : Snd g l Y Q (pc + 1) D) : Snd g l Y Q pc (op_l2i D) := by
  intro p e s m args below meth c C lv st w res h hL hS H locs ls hW hA hl
  obtain ⟨⟨x, r⟩, h1, ha⟩ := Option.bind_eq_some_iff.mp h
  clear h
  have h := ha
  clear ha
  try dsimp only at h
  have e1 := pJ_eq h1
  subst e1
  exact lv_l2i C.1 C.2.1 hd rfl (k p e s m args below meth c C lv (.inl x.toInt32 :: r) w res h hL (okS_I (okS_tail hS)) H locs ls hW hA hl)
theorem snd_i2c (hd : decode Y.2.1 pc = .ok (.i2c, 1)) (k : Snd g l Y Q (pc + 1) D) : Snd g l Y Q pc (op_i2c D) := by
  intro p e s m args below meth c C lv st w res h hL hS H locs ls hW hA hl
  obtain ⟨⟨x, r⟩, h1, ha⟩ := Option.bind_eq_some_iff.mp h
  clear h
  have h := ha
  clear ha
  try dsimp only at h
  have e1 := pI_eq h1
  subst e1
  exact lv_i2c C.1 C.2.1 hd rfl (k p e s m args below meth c C lv (.inl (x.toUInt32 % 65536).toInt32 :: r) w res h hL (okS_I (okS_tail hS)) H locs ls hW hA hl)
theorem snd_ifeq {off : Int} {tgt : Nat} {T E : Den ρ} (hd : decode Y.2.1 pc = .ok (.ifCond .eq off, 3)) (ht : (pc : Int) + off = (tgt : Int)) (kt : Snd g l Y Q tgt T) (kf : Snd g l Y Q (pc + 3) E) : Snd g l Y Q pc (op_ifeq T E) := by
  intro p e s m args below meth c C lv st w res h hL hS H locs ls hW hA hl
  obtain ⟨⟨x, r⟩, h1, ha⟩ := Option.bind_eq_some_iff.mp h
  clear h
  have h := ha
  clear ha
  try dsimp only at h
  have e1 := pI_eq h1
  subst e1
  exact lv_if_eq C.1 C.2.1 hd ht (fun hc => kt p e s m args below meth c C lv r w res (by rw [if_pos hc] at h; exact h) hL (okS_tail hS) H locs ls hW hA hl) (fun hc => kf p e s m args below meth c C lv r w res (by rw [if_neg hc] at h; exact h) hL (okS_tail hS) H locs ls hW hA hl)
theorem snd_iceq {off : Int} {tgt : Nat} {T E : Den ρ} (hd : decode Y.2.1 pc = .ok (.if_icmp .eq off, 3)) (ht : (pc : Int) + off = (tgt : Int)) (kt : Snd g l Y Q tgt T) (kf : Snd g l Y Q (pc + 3) E) : Snd g l Y Q pc (op_iceq T E) := by
  intro p e s m args below meth c C lv st w res h hL hS H locs ls hW hA hl
  obtain ⟨⟨y, r⟩, h1, ha⟩ := Option.bind_eq_some_iff.mp h
  clear h
  obtain ⟨⟨x, r2⟩, h2, h⟩ := Option.bind_eq_some_iff.mp ha
  clear ha
  dsimp only at h2 h
  have e1 := pI_eq h1
  have e2 : r = .inl x :: r2 := pI_eq h2
  subst e2
  subst e1
  exact lv_icmp_eq C.1 C.2.1 hd ht (fun hc => kt p e s m args below meth c C lv r2 w res (by rw [if_pos hc] at h; exact h) hL (okS_tail (okS_tail hS)) H locs ls hW hA hl) (fun hc => kf p e s m args below meth c C lv r2 w res (by rw [if_neg hc] at h; exact h) hL (okS_tail (okS_tail hS)) H locs ls hW hA hl)
theorem snd_ifne {off : Int} {tgt : Nat} {T E : Den ρ} (hd : decode Y.2.1 pc = .ok (.ifCond .ne off, 3)) (ht : (pc : Int) + off = (tgt : Int)) (kt : Snd g l Y Q tgt T) (kf : Snd g l Y Q (pc + 3) E) : Snd g l Y Q pc (op_ifne T E) := by
  intro p e s m args below meth c C lv st w res h hL hS H locs ls hW hA hl
  obtain ⟨⟨x, r⟩, h1, ha⟩ := Option.bind_eq_some_iff.mp h
  clear h
  have h := ha
  clear ha
  try dsimp only at h
  have e1 := pI_eq h1
  subst e1
  exact lv_if_ne C.1 C.2.1 hd ht (fun hc => kt p e s m args below meth c C lv r w res (by rw [if_neg hc] at h; exact h) hL (okS_tail hS) H locs ls hW hA hl) (fun hc => kf p e s m args below meth c C lv r w res (by rw [if_pos hc] at h; exact h) hL (okS_tail hS) H locs ls hW hA hl)
theorem snd_icne {off : Int} {tgt : Nat} {T E : Den ρ} (hd : decode Y.2.1 pc = .ok (.if_icmp .ne off, 3)) (ht : (pc : Int) + off = (tgt : Int)) (kt : Snd g l Y Q tgt T) (kf : Snd g l Y Q (pc + 3) E) : Snd g l Y Q pc (op_icne T E) := by
  intro p e s m args below meth c C lv st w res h hL hS H locs ls hW hA hl
  obtain ⟨⟨y, r⟩, h1, ha⟩ := Option.bind_eq_some_iff.mp h
  clear h
  obtain ⟨⟨x, r2⟩, h2, h⟩ := Option.bind_eq_some_iff.mp ha
  clear ha
  dsimp only at h2 h
  have e1 := pI_eq h1
  have e2 : r = .inl x :: r2 := pI_eq h2
  subst e2
  subst e1
  exact lv_icmp_ne C.1 C.2.1 hd ht (fun hc => kt p e s m args below meth c C lv r2 w res (by rw [if_neg hc] at h; exact h) hL (okS_tail (okS_tail hS)) H locs ls hW hA hl) (fun hc => kf p e s m args below meth c C lv r2 w res (by rw [if_pos hc] at h; exact h) hL (okS_tail (okS_tail hS)) H locs ls hW hA hl)
theorem snd_iflt {off : Int} {tgt : Nat} {T E : Den ρ} (hd : decode Y.2.1 pc = .ok (.ifCond .lt off, 3)) (ht : (pc : Int) + off = (tgt : Int)) (kt : Snd g l Y Q tgt T) (kf : Snd g l Y Q (pc + 3) E) : Snd g l Y Q pc (op_iflt T E) := by
  intro p e s m args below meth c C lv st w res h hL hS H locs ls hW hA hl
  obtain ⟨⟨x, r⟩, h1, ha⟩ := Option.bind_eq_some_iff.mp h
  clear h
  have h := ha
  clear ha
  try dsimp only at h
  have e1 := pI_eq h1
  subst e1
  exact lv_if_lt C.1 C.2.1 hd ht (fun hc => kt p e s m args below meth c C lv r w res (by rw [if_pos hc] at h; exact h) hL (okS_tail hS) H locs ls hW hA hl) (fun hc => kf p e s m args below meth c C lv r w res (by rw [if_neg hc] at h; exact h) hL (okS_tail hS) H locs ls hW hA hl)
theorem snd_iclt {off : Int} {tgt : Nat} {T E : Den ρ} (hd : decode Y.2.1 pc = .ok (.if_icmp .lt off, 3)) (ht : (pc : Int) + off = (tgt : Int)) (kt : Snd g l Y Q tgt T) (kf : Snd g l Y Q (pc + 3) E) : Snd g l Y Q pc (op_iclt T E) := by
  intro p e s m args below meth c C lv st w res h hL hS H locs ls hW hA hl
  obtain ⟨⟨y, r⟩, h1, ha⟩ := Option.bind_eq_some_iff.mp h
  clear h
  obtain ⟨⟨x, r2⟩, h2, h⟩ := Option.bind_eq_some_iff.mp ha
  clear ha
  dsimp only at h2 h
  have e1 := pI_eq h1
  have e2 : r = .inl x :: r2 := pI_eq h2
  subst e2
  subst e1
  exact lv_icmp_lt C.1 C.2.1 hd ht (fun hc => kt p e s m args below meth c C lv r2 w res (by rw [if_pos hc] at h; exact h) hL (okS_tail (okS_tail hS)) H locs ls hW hA hl) (fun hc => kf p e s m args below meth c C lv r2 w res (by rw [if_neg hc] at h; exact h) hL (okS_tail (okS_tail hS)) H locs ls hW hA hl)
theorem snd_ifge {off : Int} {tgt : Nat} {T E : Den ρ} (hd : decode Y.2.1 pc = .ok (.ifCond .ge off, 3)) (ht : (pc : Int) + off = (tgt : Int)) (kt : Snd g l Y Q tgt T) (kf : Snd g l Y Q (pc + 3) E) : Snd g l Y Q pc (op_ifge T E) := by
  intro p e s m args below meth c C lv st w res h hL hS H locs ls hW hA hl
  obtain ⟨⟨x, r⟩, h1, ha⟩ := Option.bind_eq_some_iff.mp h
  clear h
  have h := ha
  clear ha
  try dsimp only at h
  have e1 := pI_eq h1
  subst e1
  exact lv_if_ge C.1 C.2.1 hd ht (fun hc => kt p e s m args below meth c C lv r w res (by rw [if_pos hc] at h; exact h) hL (okS_tail hS) H locs ls hW hA hl) (fun hc => kf p e s m args below meth c C lv r w res (by rw [if_neg hc] at h; exact h) hL (okS_tail hS) H locs ls hW hA hl)
theorem snd_icge {off : Int} {tgt : Nat} {T E : Den ρ} (hd : decode Y.2.1 pc = .ok (.if_icmp .ge off, 3)) (ht : (pc : Int) + off = (tgt : Int)) (kt : Snd g l Y Q tgt T) (kf : Snd g l Y Q (pc + 3) E) : Snd g l Y Q pc (op_icge T E) := by
  intro p e s m args below meth c C lv st w res h hL hS H locs ls hW hA hl
  obtain ⟨⟨y, r⟩, h1, ha⟩ := Option.bind_eq_some_iff.mp h
  clear h
  obtain ⟨⟨x, r2⟩, h2, h⟩ := Option.bind_eq_some_iff.mp ha
  clear ha
  dsimp only at h2 h
  have e1 := pI_eq h1
  have e2 : r = .inl x :: r2 := pI_eq h2
  subst e2
  subst e1
  exact lv_icmp_ge C.1 C.2.1 hd ht (fun hc => kt p e s m args below meth c C lv r2 w res (by rw [if_pos hc] at h; exact h) hL (okS_tail (okS_tail hS)) H locs ls hW hA hl) (fun hc => kf p e s m args below meth c C lv r2 w res (by rw [if_neg hc] at h; exact h) hL (okS_tail (okS_tail hS)) H locs ls hW hA hl)
theorem snd_ifgt {off : Int} {tgt : Nat} {T E : Den ρ} (hd : decode Y.2.1 pc = .ok (.ifCond .gt off, 3)) (ht : (pc : Int) + off = (tgt : Int)) (kt : Snd g l Y Q tgt T) (kf : Snd g l Y Q (pc + 3) E) : Snd g l Y Q pc (op_ifgt T E) := by
  intro p e s m args below meth c C lv st w res h hL hS H locs ls hW hA hl
  obtain ⟨⟨x, r⟩, h1, ha⟩ := Option.bind_eq_some_iff.mp h
  clear h
  have h := ha
  clear ha
  try dsimp only at h
  have e1 := pI_eq h1
  subst e1
  exact lv_if_gt C.1 C.2.1 hd ht (fun hc => kt p e s m args below meth c C lv r w res (by rw [if_pos hc] at h; exact h) hL (okS_tail hS) H locs ls hW hA hl) (fun hc => kf p e s m args below meth c C lv r w res (by rw [if_neg hc] at h; exact h) hL (okS_tail hS) H locs ls hW hA hl)
theorem snd_icgt {off : Int} {tgt : Nat} {T E : Den ρ} (hd : decode Y.2.1 pc = .ok (.if_icmp .gt off, 3)) (ht : (pc : Int) + off = (tgt : Int)) (kt : Snd g l Y Q tgt T) (kf : Snd g l Y Q (pc + 3) E) : Snd g l Y Q pc (op_icgt T E) := by
  intro p e s m args below meth c C lv st w res h hL hS H locs ls hW hA hl
  obtain ⟨⟨y, r⟩, h1, ha⟩ := Option.bind_eq_some_iff.mp h
  clear h
  obtain ⟨⟨x, r2⟩, h2, h⟩ := Option.bind_eq_some_iff.mp ha
  clear ha
  dsimp only at h2 h
  have e1 := pI_eq h1
  have e2 : r = .inl x :: r2 := pI_eq h2
  subst e2
  subst e1
  exact lv_icmp_gt C.1 C.2.1 hd ht (fun hc => kt p e s m args below meth c C lv r2 w res (by rw [if_pos hc] at h; exact h) hL (okS_tail (okS_tail hS)) H locs ls hW hA hl) (fun hc => kf p e s m args below meth c C lv r2 w res (by rw [if_neg hc] at h; exact h) hL (okS_tail (okS_tail hS)) H locs ls hW hA hl)
theorem snd_ifle {off : Int} {tgt : Nat} {T E : Den ρ} (hd : decode Y.2.1 pc = .ok (.ifCond .le off, 3)) (ht : (pc : Int) + off = (tgt : Int)) (kt : Snd g l Y Q tgt T) (kf : Snd g l Y Q (pc + 3) E) : Snd g l Y Q pc (op_ifle T E) := by
  intro p e s m args below meth c C lv st w res h hL hS H locs ls hW hA hl
  obtain ⟨⟨x, r⟩, h1, ha⟩ := Option.bind_eq_some_iff.mp h
  clear h
  have h := ha
  clear ha
  try dsimp only at h
  have e1 := pI_eq h1
  subst e1
  exact lv_if_le C.1 C.2.1 hd ht (fun hc => kt p e s m args below meth c C lv r w res (by rw [if_pos hc] at h; exact h) hL (okS_tail hS) H locs ls hW hA hl) (fun hc => kf p e s m args below meth c C lv r w res (by rw [if_neg hc] at h; exact h) hL (okS_tail hS) H locs ls hW hA hl)
theorem snd_icle {off : Int} {tgt : Nat} {T E : Den ρ} (hd : decode Y.2.1 pc = .ok (.if_icmp .le off, 3)) (ht : (pc : Int) + off = (tgt : Int)) (kt : Snd g l Y Q tgt T) (kf : Snd g l Y Q (pc + 3) E) : Snd g l Y Q pc (op_icle T E) := by
  intro p e s m args below meth c C lv st w res h hL hS H locs ls hW hA hl
  obtain ⟨⟨y, r⟩, h1, ha⟩ := Option.bind_eq_some_iff.mp h
  clear h
  obtain ⟨⟨x, r2⟩, h2, h⟩ := Option.bind_eq_some_iff.mp ha
  clear ha
  dsimp only at h2 h
  have e1 := pI_eq h1
  have e2 : r = .inl x :: r2 := pI_eq h2
  subst e2
  subst e1
  exact lv_icmp_le C.1 C.2.1 hd ht (fun hc => kt p e s m args below meth c C lv r2 w res (by rw [if_pos hc] at h; exact h) hL (okS_tail (okS_tail hS)) H locs ls hW hA hl) (fun hc => kf p e s m args below meth c C lv r2 w res (by rw [if_neg hc] at h; exact h) hL (okS_tail (okS_tail hS)) H locs ls hW hA hl)
theorem snd_nul {off : Int} {tgt : Nat} {T E : Den ρ} (hd : decode Y.2.1 pc = .ok (.ifnull off, 3)) (ht : (pc : Int) + off = (tgt : Int)) (kt : Snd g l Y Q tgt T) (kf : Snd g l Y Q (pc + 3) E) : Snd g l Y Q pc (op_nul T E) := by
  intro p e s m args below meth c C lv st w res h hL hS H locs ls hW hA hl
  obtain ⟨⟨x, r⟩, h1, ha⟩ := Option.bind_eq_some_iff.mp h
  clear h
  have h := ha
  clear ha
  try dsimp only at h
  have e1 := pR_eq h1
  subst e1
  cases x with
  | none => exact lv_ifnullN C.1 C.2.1 hd ht (kt p e s m args below meth c C lv r w res h hL (okS_tail hS) H locs ls hW hA hl)
  | some q => exact lv_ifnull C.1 C.2.1 hd (kf p e s m args below meth c C lv r w res h hL (okS_tail hS) H locs ls hW hA hl)
end OPS
