/-! ===== one-step equations: for runs by rewriting ===== -/
section STEPS
variable {ρ σ : Type} {K T E : Den ρ} {lv t : Lv} {st r : List VV} {w : Wd} {a : Option VV} {x y z : Int32} {p q : Int64} {o o2 : Option (Nat × Nat)} {i j k n c f : Nat} {v v2 : VV}
theorem lgI_0 {x : Int32} : lgI (some (.inl x) :: t) 0 = some x := id rfl
theorem lgI_s : lgI (a :: t) (n + 1) = lgI t n := id rfl
theorem lgJ_0 : lgJ (some (.inr (.inl p)) :: t) 0 = some p := id rfl
theorem lgJ_s : lgJ (a :: t) (n + 1) = lgJ t n := id rfl
theorem lgR_0 : lgR (some (.inr (.inr o)) :: t) 0 = some o := id rfl
theorem lgR_s : lgR (a :: t) (n + 1) = lgR t n := id rfl
theorem ls1_0 : ls1 (a :: t) 0 v = some v :: t := id rfl
theorem ls1_1 : ls1 (a :: t) 1 v = (cond (isLg a) none a) :: ls1 t 0 v := id rfl
theorem ls1_s : ls1 (a :: t) (n + 2) v = a :: ls1 t (n + 1) v := id rfl
theorem ls2_0 {a2 : Option VV} : ls2 (a :: a2 :: t) 0 v = some v :: none :: t := id rfl
theorem ls2_1 {a2 : Option VV} : ls2 (a :: a2 :: t) 1 v = (cond (isLg a) none a) :: ls2 (a2 :: t) 0 v := id rfl
theorem ls2_s {a2 : Option VV} : ls2 (a :: a2 :: t) (n + 2) v = a :: ls2 (a2 :: t) (n + 1) v := id rfl
theorem lk_0 : lkill (a :: t) 0 = none :: t := id rfl
theorem lk_s : lkill (a :: t) (n + 1) = a :: lkill t n := id rfl
theorem isLg_n : isLg none = false := id rfl
theorem isLg_I : isLg (some (.inl x)) = false := id rfl
theorem isLg_J : isLg (some (.inr (.inl p))) = true := id rfl
theorem isLg_R : isLg (some (.inr (.inr o))) = false := id rfl
theorem pI_c : pI (.inl x :: r) = some (x, r) := id rfl
theorem pJ_c : pJ (.inr (.inl p) :: r) = some (p, r) := id rfl
theorem pR_c : pR (.inr (.inr o) :: r) = some (o, r) := id rfl
theorem pO_c {b : Nat × Nat} : pO (.inr (.inr (some b)) :: r) = some (b, r) := id rfl
theorem pV_I : pV (.inl x :: r) = some (.inl x, r) := id rfl
theorem pV_R : pV (.inr (.inr o) :: r) = some (.inr (.inr o), r) := id rfl
theorem x_ci {v : Int32} {K : Den ρ} : op_ci v K lv st w = K lv (.inl v :: st) w := id rfl
theorem x_cl {v : Int64} {K : Den ρ} : op_cl v K lv st w = K lv (.inr (.inl v) :: st) w := id rfl
theorem x_cn {K : Den ρ} : op_cn K lv st w = K lv (.inr (.inr none) :: st) w := id rfl
theorem x_is {i : Nat} {K : Den ρ} {u0 : Int32} : op_is i K lv (.inl u0 :: r) w = K (ls1 lv i (.inl u0)) r w := id rfl
theorem x_ls {i : Nat} {K : Den ρ} {u0 : Int64} : op_ls i K lv (.inr (.inl u0) :: r) w = K (ls2 lv i (.inr (.inl u0))) r w := id rfl
theorem x_as {i : Nat} {K : Den ρ} {u0 : Option (Nat × Nat)} : op_as i K lv (.inr (.inr u0) :: r) w = K (ls1 lv i (.inr (.inr u0))) r w := id rfl
theorem x_kill {i : Nat} {K : Den ρ} : op_kill i K lv st w = K (lkill lv i) st w := id rfl
theorem x_iadd {K : Den ρ} {u0 : Int32} {u1 : Int32} : op_iadd K lv (.inl u0 :: .inl u1 :: r) w = K lv (.inl (u1 + u0) :: r) w := id rfl
theorem x_isub {K : Den ρ} {u0 : Int32} {u1 : Int32} : op_isub K lv (.inl u0 :: .inl u1 :: r) w = K lv (.inl (u1 - u0) :: r) w := id rfl
theorem x_imul {K : Den ρ} {u0 : Int32} {u1 : Int32} : op_imul K lv (.inl u0 :: .inl u1 :: r) w = K lv (.inl (u1 * u0) :: r) w := id rfl
theorem x_iand {K : Den ρ} {u0 : Int32} {u1 : Int32} : op_iand K lv (.inl u0 :: .inl u1 :: r) w = K lv (.inl (u1 &&& u0) :: r) w := id rfl
theorem x_ior {K : Den ρ} {u0 : Int32} {u1 : Int32} : op_ior K lv (.inl u0 :: .inl u1 :: r) w = K lv (.inl (u1 ||| u0) :: r) w := id rfl
theorem x_ixor {K : Den ρ} {u0 : Int32} {u1 : Int32} : op_ixor K lv (.inl u0 :: .inl u1 :: r) w = K lv (.inl (u1 ^^^ u0) :: r) w := id rfl
theorem x_ishl {K : Den ρ} {u0 : Int32} {u1 : Int32} : op_ishl K lv (.inl u0 :: .inl u1 :: r) w = K lv (.inl (u1 <<< (u0 &&& 31)) :: r) w := id rfl
theorem x_ishr {K : Den ρ} {u0 : Int32} {u1 : Int32} : op_ishr K lv (.inl u0 :: .inl u1 :: r) w = K lv (.inl (u1 >>> (u0 &&& 31)) :: r) w := id rfl
theorem x_iushr {K : Den ρ} {u0 : Int32} {u1 : Int32} : op_iushr K lv (.inl u0 :: .inl u1 :: r) w = K lv (.inl (u1.toUInt32 >>> (u0.toUInt32 &&& Int32.toUInt32 31)).toInt32 :: r) w := id rfl
theorem x_idiv {K : Den ρ} {u0 : Int32} {u1 : Int32} : op_idiv K lv (.inl u0 :: .inl u1 :: r) w = if u0 = 0 then none else K lv (.inl (u1 / u0) :: r) w := id rfl
theorem x_irem {K : Den ρ} {u0 : Int32} {u1 : Int32} : op_irem K lv (.inl u0 :: .inl u1 :: r) w = if u0 = 0 then none else K lv (.inl (u1 - u1 / u0 * u0) :: r) w := id rfl
theorem x_ineg {K : Den ρ} {u0 : Int32} : op_ineg K lv (.inl u0 :: r) w = K lv (.inl (-u0) :: r) w := id rfl
theorem x_ladd {K : Den ρ} {u0 : Int64} {u1 : Int64} : op_ladd K lv (.inr (.inl u0) :: .inr (.inl u1) :: r) w = K lv (.inr (.inl (u1 + u0)) :: r) w := id rfl
theorem x_lsub {K : Den ρ} {u0 : Int64} {u1 : Int64} : op_lsub K lv (.inr (.inl u0) :: .inr (.inl u1) :: r) w = K lv (.inr (.inl (u1 - u0)) :: r) w := id rfl
theorem x_lmul {K : Den ρ} {u0 : Int64} {u1 : Int64} : op_lmul K lv (.inr (.inl u0) :: .inr (.inl u1) :: r) w = K lv (.inr (.inl (u1 * u0)) :: r) w := id rfl
theorem x_land {K : Den ρ} {u0 : Int64} {u1 : Int64} : op_land K lv (.inr (.inl u0) :: .inr (.inl u1) :: r) w = K lv (.inr (.inl (u1 &&& u0)) :: r) w := id rfl
theorem x_lor {K : Den ρ} {u0 : Int64} {u1 : Int64} : op_lor K lv (.inr (.inl u0) :: .inr (.inl u1) :: r) w = K lv (.inr (.inl (u1 ||| u0)) :: r) w := id rfl
theorem x_ldiv {K : Den ρ} {u0 : Int64} {u1 : Int64} : op_ldiv K lv (.inr (.inl u0) :: .inr (.inl u1) :: r) w = if u0 = 0 then none else K lv (.inr (.inl (u1 / u0)) :: r) w := id rfl
theorem x_lrem {K : Den ρ} {u0 : Int64} {u1 : Int64} : op_lrem K lv (.inr (.inl u0) :: .inr (.inl u1) :: r) w = if u0 = 0 then none else K lv (.inr (.inl (u1 - u1 / u0 * u0)) :: r) w := id rfl
theorem x_lcmp {K : Den ρ} {u0 : Int64} {u1 : Int64} : op_lcmp K lv (.inr (.inl u0) :: .inr (.inl u1) :: r) w = K lv (.inl (lg_cmp u1 u0) :: r) w := id rfl
theorem x_lshl {K : Den ρ} {u0 : Int32} {u1 : Int64} : op_lshl K lv (.inl u0 :: .inr (.inl u1) :: r) w = K lv (.inr (.inl (u1 <<< (u0.toInt64 &&& 63))) :: r) w := id rfl
theorem x_lshr {K : Den ρ} {u0 : Int32} {u1 : Int64} : op_lshr K lv (.inl u0 :: .inr (.inl u1) :: r) w = K lv (.inr (.inl (u1 >>> (u0.toInt64 &&& 63))) :: r) w := id rfl
theorem x_i2l {K : Den ρ} {u0 : Int32} : op_i2l K lv (.inl u0 :: r) w = K lv (.inr (.inl u0.toInt64) :: r) w := id rfl
theorem x_l2i {K : Den ρ} {u0 : Int64} : op_l2i K lv (.inr (.inl u0) :: r) w = K lv (.inl u0.toInt32 :: r) w := id rfl
theorem x_i2c {K : Den ρ} {u0 : Int32} : op_i2c K lv (.inl u0 :: r) w = K lv (.inl (u0.toUInt32 % 65536).toInt32 :: r) w := id rfl
theorem x_ifeq {T E : Den ρ} {u0 : Int32} : op_ifeq T E lv (.inl u0 :: r) w = if u0 = 0 then T lv r w else E lv r w := id rfl
theorem x_iceq {T E : Den ρ} {u0 : Int32} {u1 : Int32} : op_iceq T E lv (.inl u0 :: .inl u1 :: r) w = if u1 = u0 then T lv r w else E lv r w := id rfl
theorem x_ifne {T E : Den ρ} {u0 : Int32} : op_ifne T E lv (.inl u0 :: r) w = if u0 = 0 then E lv r w else T lv r w := id rfl
theorem x_icne {T E : Den ρ} {u0 : Int32} {u1 : Int32} : op_icne T E lv (.inl u0 :: .inl u1 :: r) w = if u1 = u0 then E lv r w else T lv r w := id rfl
theorem x_iflt {T E : Den ρ} {u0 : Int32} : op_iflt T E lv (.inl u0 :: r) w = if u0 < 0 then T lv r w else E lv r w := id rfl
theorem x_iclt {T E : Den ρ} {u0 : Int32} {u1 : Int32} : op_iclt T E lv (.inl u0 :: .inl u1 :: r) w = if u1 < u0 then T lv r w else E lv r w := id rfl
theorem x_ifge {T E : Den ρ} {u0 : Int32} : op_ifge T E lv (.inl u0 :: r) w = if 0 ≤ u0 then T lv r w else E lv r w := id rfl
theorem x_icge {T E : Den ρ} {u0 : Int32} {u1 : Int32} : op_icge T E lv (.inl u0 :: .inl u1 :: r) w = if u0 ≤ u1 then T lv r w else E lv r w := id rfl
theorem x_ifgt {T E : Den ρ} {u0 : Int32} : op_ifgt T E lv (.inl u0 :: r) w = if 0 < u0 then T lv r w else E lv r w := id rfl
theorem x_icgt {T E : Den ρ} {u0 : Int32} {u1 : Int32} : op_icgt T E lv (.inl u0 :: .inl u1 :: r) w = if u0 < u1 then T lv r w else E lv r w := id rfl
theorem x_ifle {T E : Den ρ} {u0 : Int32} : op_ifle T E lv (.inl u0 :: r) w = if u0 ≤ 0 then T lv r w else E lv r w := id rfl
theorem x_icle {T E : Den ρ} {u0 : Int32} {u1 : Int32} : op_icle T E lv (.inl u0 :: .inl u1 :: r) w = if u1 ≤ u0 then T lv r w else E lv r w := id rfl
theorem x_gf {c k : Nat} {K : Den ρ} {u0f u0i : Nat} : op_gf c k K lv (.inr (.inr (some (u0f, u0i))) :: r) w = cond (Nat.beq u0f c) (K lv (fv c k u0i w :: r) w) none := id rfl
theorem x_pf {c k : Nat} {K : Den ρ} {u0 : Int32} {u1f u1i : Nat} : op_pf c k K lv (.inl u0 :: .inr (.inr (some (u1f, u1i))) :: r) w = cond (Nat.beq u1f c) (K lv r (sI w (32 * (c + 1) + k) u1i 0 u0)) none := id rfl
theorem x_pz {c k : Nat} {K : Den ρ} {u0 : Int32} {u1f u1i : Nat} : op_pz c k K lv (.inl u0 :: .inr (.inr (some (u1f, u1i))) :: r) w = cond (Nat.beq u1f c) (if u0 = 0 ∨ u0 = 1 then K lv r (sI w (32 * (c + 1) + k) u1i 0 u0) else none) none := id rfl
theorem x_pj {c k : Nat} {K : Den ρ} {u0 : Int64} {u1f u1i : Nat} : op_pj c k K lv (.inr (.inl u0) :: .inr (.inr (some (u1f, u1i))) :: r) w = cond (Nat.beq u1f c) (K lv r (sJ w (32 * (c + 1) + k) u1i 0 u0)) none := id rfl
theorem x_pe {c k κ : Nat} {K : Den ρ} {u0 : Option (Nat × Nat)} {u1f u1i : Nat} : op_pe c k κ K lv (.inr (.inr u0) :: .inr (.inr (some (u1f, u1i))) :: r) w = cond (Nat.beq u1f c) (cond (rk κ u0) (K lv r (sE w (32 * (c + 1) + k) u1i 0 (u0.map fun z => z.2))) none) none := id rfl
theorem x_aa {t : Nat} {K : Den ρ} {u0 : Int32} {u1f u1i : Nat} : op_aa t K lv (.inl u0 :: .inr (.inr (some (u1f, u1i))) :: r) w = cond (Nat.beq (ktag u1f) t) (cond (ib u0 (alen u1f)) (K lv (.inl (w.1 u1f u1i u0.toNatClampNeg) :: r) w) none) none := id rfl
theorem x_ja {K : Den ρ} {u0 : Int32} {u1f u1i : Nat} : op_ja K lv (.inl u0 :: .inr (.inr (some (u1f, u1i))) :: r) w = cond (Nat.beq (ktag u1f) 13) (cond (ib u0 (alen u1f)) (K lv (.inr (.inl (w.2.1 u1f u1i u0.toNatClampNeg)) :: r) w) none) none := id rfl
theorem x_ra {K : Den ρ} {u0 : Int32} {u1f u1i : Nat} : op_ra K lv (.inl u0 :: .inr (.inr (some (u1f, u1i))) :: r) w = cond (Nat.beq (ktag u1f) 14 || Nat.beq (ktag u1f) 15) (cond (ib u0 (alen u1f)) (K lv (.inr (.inr (rfs u1f u1i u0.toNatClampNeg w)) :: r) w) none) none := id rfl
theorem x_sa {t : Nat} {K : Den ρ} {u0 : Int32} {u1 : Int32} {u2f u2i : Nat} : op_sa t K lv (.inl u0 :: .inl u1 :: .inr (.inr (some (u2f, u2i))) :: r) w = cond (Nat.beq (ktag u2f) t) (cond (ib u1 (alen u2f)) (K lv r (sI w u2f u2i u1.toNatClampNeg (nar t u0))) none) none := id rfl
theorem x_sj {K : Den ρ} {u0 : Int64} {u1 : Int32} {u2f u2i : Nat} : op_sj K lv (.inr (.inl u0) :: .inl u1 :: .inr (.inr (some (u2f, u2i))) :: r) w = cond (Nat.beq (ktag u2f) 13) (cond (ib u1 (alen u2f)) (K lv r (sJ w u2f u2i u1.toNatClampNeg u0)) none) none := id rfl
theorem x_len {K : Den ρ} {u0f u0i : Nat} : op_len K lv (.inr (.inr (some (u0f, u0i))) :: r) w = cond (Nat.blt 9 (ktag u0f) && Nat.blt (ktag u0f) 16) (K lv (.inl (Int32.ofNat (alen u0f)) :: r) w) none := id rfl
theorem x_ge {j : Nat} {K : Den ρ} : op_ge j K lv st w = K lv (.inr (.inr (some (21, j))) :: st) w := id rfl
theorem x_ace {T E : Den ρ} {u0 : Option (Nat × Nat)} {u1 : Option (Nat × Nat)} : op_ace T E lv (.inr (.inr u0) :: .inr (.inr u1) :: r) w = cond (rk 21 u1 && rk 21 u0) (if u1 = u0 then T lv r w else E lv r w) none := id rfl
theorem x_acn {T E : Den ρ} {u0 : Option (Nat × Nat)} {u1 : Option (Nat × Nat)} : op_acn T E lv (.inr (.inr u0) :: .inr (.inr u1) :: r) w = cond (rk 21 u1 && rk 21 u0) (if u1 = u0 then E lv r w else T lv r w) none := id rfl
theorem x_max {K : Den ρ} {u0 : Int32} {u1 : Int32} : op_max K lv (.inl u0 :: .inl u1 :: r) w = cond (Nat.ble (stw r) 8) (K lv (.inl (if u1 < u0 then u0 else u1) :: r) w) none := id rfl
theorem x_min {K : Den ρ} {u0 : Int32} {u1 : Int32} : op_min K lv (.inl u0 :: .inl u1 :: r) w = cond (Nat.ble (stw r) 8) (K lv (.inl (if u0 < u1 then u0 else u1) :: r) w) none := id rfl
theorem x_sw {K : Den ρ} {u0f u0i : Nat} {u1 : Int32} {u2f u2i : Nat} : op_sw K lv (.inr (.inr (some (u0f, u0i))) :: .inl u1 :: .inr (.inr (some (u2f, u2i))) :: r) w = cond (Nat.beq u2f 65 && Nat.beq u0f 21) (cond (ib u1 (alen u2f)) (K lv r (sE w u2f u2i u1.toNatClampNeg (some u0i))) none) none := id rfl
theorem x_kn {K : Den ρ} : op_kn K lv st w = K lv (.inr (.inr (some (23, 0))) :: st) w := id rfl
theorem x_tx {K : Den ρ} : op_tx K lv st w = K lv (.inr (.inr (some (24, 0))) :: st) w := id rfl
theorem x_lenS {K : Den ρ} {u0f u0i : Nat} : op_lenS K lv (.inr (.inr (some (u0f, u0i))) :: r) w = cond (Nat.beq u0f 23) (K lv (.inl 28 :: r) w) (cond (Nat.beq u0f 25) (K lv (.inl 8 :: r) w) none) := id rfl
theorem x_kna {K : Den ρ} {u0 : Int32} {u1f u1i : Nat} : op_kna K lv (.inl u0 :: .inr (.inr (some (u1f, u1i))) :: r) w = cond (Nat.beq u1f 23) (cond (ib u0 28) (K lv (.inr (.inr (some (21, u0.toNatClampNeg))) :: r) w) none) none := id rfl
theorem x_ecd {K : Den ρ} {u0f u0i : Nat} : op_ecd K lv (.inr (.inr (some (u0f, u0i))) :: r) w = cond (Nat.beq u0f 21) (K lv (.inr (.inl (eCd.getD u0i 0)) :: r) w) none := id rfl
theorem x_sv {K : Den ρ} {u0f u0i : Nat} : op_sv K lv (.inr (.inr (some (u0f, u0i))) :: r) w = cond (Nat.beq u0f 24) (K lv (.inr (.inr (some (25, 0))) :: r) w) none := id rfl
theorem x_sc {K : Den ρ} {u0f u0i : Nat} : op_sc K lv (.inr (.inr (some (u0f, u0i))) :: r) w = cond (Nat.beq u0f 24) (K lv (.inl 0 :: r) w) none := id rfl
theorem x_sb {K : Den ρ} {u0 : Int32} {u1f u1i : Nat} : op_sb K lv (.inl u0 :: .inr (.inr (some (u1f, u1i))) :: r) w = cond (Nat.beq u1f 25) (cond (ib u0 8) (K lv (.inl (([40, 41, 60, 61, 43, 45, 42, 59] : List Int32).getD u0.toNatClampNeg 0) :: r) w) none) none := id rfl
theorem x_i2b {K : Den ρ} {u0 : Int32} : op_i2b K lv (.inl u0 :: r) w = K lv (.inl u0.toInt8.toInt32 :: r) w := id rfl
theorem x_il0 : op_il 0 K (some (.inl x) :: t) st w = K (some (.inl x) :: t) (.inl x :: st) w := id rfl
theorem x_ll0 : op_ll 0 K (some (.inr (.inl p)) :: t) st w = K (some (.inr (.inl p)) :: t) (.inr (.inl p) :: st) w := id rfl
theorem x_al0 : op_al 0 K (some (.inr (.inr o)) :: t) st w = K (some (.inr (.inr o)) :: t) (.inr (.inr o) :: st) w := id rfl
theorem x_inc0 {n : Int32} : op_inc 0 n K (some (.inl x) :: t) st w = K (ls1 (some (.inl x) :: t) 0 (.inl (x + n))) st w := id rfl
theorem x_il1 {a0 : Option VV} : op_il 1 K (a0 :: some (.inl x) :: t) st w = K (a0 :: some (.inl x) :: t) (.inl x :: st) w := id rfl
theorem x_ll1 {a0 : Option VV} : op_ll 1 K (a0 :: some (.inr (.inl p)) :: t) st w = K (a0 :: some (.inr (.inl p)) :: t) (.inr (.inl p) :: st) w := id rfl
theorem x_al1 {a0 : Option VV} : op_al 1 K (a0 :: some (.inr (.inr o)) :: t) st w = K (a0 :: some (.inr (.inr o)) :: t) (.inr (.inr o) :: st) w := id rfl
theorem x_inc1 {a0 : Option VV} {n : Int32} : op_inc 1 n K (a0 :: some (.inl x) :: t) st w = K (ls1 (a0 :: some (.inl x) :: t) 1 (.inl (x + n))) st w := id rfl
theorem x_il2 {a0 a1 : Option VV} : op_il 2 K (a0 :: a1 :: some (.inl x) :: t) st w = K (a0 :: a1 :: some (.inl x) :: t) (.inl x :: st) w := id rfl
theorem x_ll2 {a0 a1 : Option VV} : op_ll 2 K (a0 :: a1 :: some (.inr (.inl p)) :: t) st w = K (a0 :: a1 :: some (.inr (.inl p)) :: t) (.inr (.inl p) :: st) w := id rfl
theorem x_al2 {a0 a1 : Option VV} : op_al 2 K (a0 :: a1 :: some (.inr (.inr o)) :: t) st w = K (a0 :: a1 :: some (.inr (.inr o)) :: t) (.inr (.inr o) :: st) w := id rfl
theorem x_inc2 {a0 a1 : Option VV} {n : Int32} : op_inc 2 n K (a0 :: a1 :: some (.inl x) :: t) st w = K (ls1 (a0 :: a1 :: some (.inl x) :: t) 2 (.inl (x + n))) st w := id rfl
theorem x_il3 {a0 a1 a2 : Option VV} : op_il 3 K (a0 :: a1 :: a2 :: some (.inl x) :: t) st w = K (a0 :: a1 :: a2 :: some (.inl x) :: t) (.inl x :: st) w := id rfl
theorem x_ll3 {a0 a1 a2 : Option VV} : op_ll 3 K (a0 :: a1 :: a2 :: some (.inr (.inl p)) :: t) st w = K (a0 :: a1 :: a2 :: some (.inr (.inl p)) :: t) (.inr (.inl p) :: st) w := id rfl
theorem x_al3 {a0 a1 a2 : Option VV} : op_al 3 K (a0 :: a1 :: a2 :: some (.inr (.inr o)) :: t) st w = K (a0 :: a1 :: a2 :: some (.inr (.inr o)) :: t) (.inr (.inr o) :: st) w := id rfl
theorem x_inc3 {a0 a1 a2 : Option VV} {n : Int32} : op_inc 3 n K (a0 :: a1 :: a2 :: some (.inl x) :: t) st w = K (ls1 (a0 :: a1 :: a2 :: some (.inl x) :: t) 3 (.inl (x + n))) st w := id rfl
theorem x_il4 {a0 a1 a2 a3 : Option VV} : op_il 4 K (a0 :: a1 :: a2 :: a3 :: some (.inl x) :: t) st w = K (a0 :: a1 :: a2 :: a3 :: some (.inl x) :: t) (.inl x :: st) w := id rfl
theorem x_ll4 {a0 a1 a2 a3 : Option VV} : op_ll 4 K (a0 :: a1 :: a2 :: a3 :: some (.inr (.inl p)) :: t) st w = K (a0 :: a1 :: a2 :: a3 :: some (.inr (.inl p)) :: t) (.inr (.inl p) :: st) w := id rfl
theorem x_al4 {a0 a1 a2 a3 : Option VV} : op_al 4 K (a0 :: a1 :: a2 :: a3 :: some (.inr (.inr o)) :: t) st w = K (a0 :: a1 :: a2 :: a3 :: some (.inr (.inr o)) :: t) (.inr (.inr o) :: st) w := id rfl
theorem x_inc4 {a0 a1 a2 a3 : Option VV} {n : Int32} : op_inc 4 n K (a0 :: a1 :: a2 :: a3 :: some (.inl x) :: t) st w = K (ls1 (a0 :: a1 :: a2 :: a3 :: some (.inl x) :: t) 4 (.inl (x + n))) st w := id rfl
theorem x_il5 {a0 a1 a2 a3 a4 : Option VV} : op_il 5 K (a0 :: a1 :: a2 :: a3 :: a4 :: some (.inl x) :: t) st w = K (a0 :: a1 :: a2 :: a3 :: a4 :: some (.inl x) :: t) (.inl x :: st) w := id rfl
theorem x_ll5 {a0 a1 a2 a3 a4 : Option VV} : op_ll 5 K (a0 :: a1 :: a2 :: a3 :: a4 :: some (.inr (.inl p)) :: t) st w = K (a0 :: a1 :: a2 :: a3 :: a4 :: some (.inr (.inl p)) :: t) (.inr (.inl p) :: st) w := id rfl
theorem x_al5 {a0 a1 a2 a3 a4 : Option VV} : op_al 5 K (a0 :: a1 :: a2 :: a3 :: a4 :: some (.inr (.inr o)) :: t) st w = K (a0 :: a1 :: a2 :: a3 :: a4 :: some (.inr (.inr o)) :: t) (.inr (.inr o) :: st) w := id rfl
theorem x_inc5 {a0 a1 a2 a3 a4 : Option VV} {n : Int32} : op_inc 5 n K (a0 :: a1 :: a2 :: a3 :: a4 :: some (.inl x) :: t) st w = K (ls1 (a0 :: a1 :: a2 :: a3 :: a4 :: some (.inl x) :: t) 5 (.inl (x + n))) st w := id rfl
theorem x_il6 {a0 a1 a2 a3 a4 a5 : Option VV} : op_il 6 K (a0 :: a1 :: a2 :: a3 :: a4 :: a5 :: some (.inl x) :: t) st w = K (a0 :: a1 :: a2 :: a3 :: a4 :: a5 :: some (.inl x) :: t) (.inl x :: st) w := id rfl
theorem x_ll6 {a0 a1 a2 a3 a4 a5 : Option VV} : op_ll 6 K (a0 :: a1 :: a2 :: a3 :: a4 :: a5 :: some (.inr (.inl p)) :: t) st w = K (a0 :: a1 :: a2 :: a3 :: a4 :: a5 :: some (.inr (.inl p)) :: t) (.inr (.inl p) :: st) w := id rfl
theorem x_al6 {a0 a1 a2 a3 a4 a5 : Option VV} : op_al 6 K (a0 :: a1 :: a2 :: a3 :: a4 :: a5 :: some (.inr (.inr o)) :: t) st w = K (a0 :: a1 :: a2 :: a3 :: a4 :: a5 :: some (.inr (.inr o)) :: t) (.inr (.inr o) :: st) w := id rfl
theorem x_inc6 {a0 a1 a2 a3 a4 a5 : Option VV} {n : Int32} : op_inc 6 n K (a0 :: a1 :: a2 :: a3 :: a4 :: a5 :: some (.inl x) :: t) st w = K (ls1 (a0 :: a1 :: a2 :: a3 :: a4 :: a5 :: some (.inl x) :: t) 6 (.inl (x + n))) st w := id rfl
theorem x_il7 {a0 a1 a2 a3 a4 a5 a6 : Option VV} : op_il 7 K (a0 :: a1 :: a2 :: a3 :: a4 :: a5 :: a6 :: some (.inl x) :: t) st w = K (a0 :: a1 :: a2 :: a3 :: a4 :: a5 :: a6 :: some (.inl x) :: t) (.inl x :: st) w := id rfl
theorem x_ll7 {a0 a1 a2 a3 a4 a5 a6 : Option VV} : op_ll 7 K (a0 :: a1 :: a2 :: a3 :: a4 :: a5 :: a6 :: some (.inr (.inl p)) :: t) st w = K (a0 :: a1 :: a2 :: a3 :: a4 :: a5 :: a6 :: some (.inr (.inl p)) :: t) (.inr (.inl p) :: st) w := id rfl
theorem x_al7 {a0 a1 a2 a3 a4 a5 a6 : Option VV} : op_al 7 K (a0 :: a1 :: a2 :: a3 :: a4 :: a5 :: a6 :: some (.inr (.inr o)) :: t) st w = K (a0 :: a1 :: a2 :: a3 :: a4 :: a5 :: a6 :: some (.inr (.inr o)) :: t) (.inr (.inr o) :: st) w := id rfl
theorem x_inc7 {a0 a1 a2 a3 a4 a5 a6 : Option VV} {n : Int32} : op_inc 7 n K (a0 :: a1 :: a2 :: a3 :: a4 :: a5 :: a6 :: some (.inl x) :: t) st w = K (ls1 (a0 :: a1 :: a2 :: a3 :: a4 :: a5 :: a6 :: some (.inl x) :: t) 7 (.inl (x + n))) st w := id rfl
theorem x_il8 {a0 a1 a2 a3 a4 a5 a6 a7 : Option VV} : op_il 8 K (a0 :: a1 :: a2 :: a3 :: a4 :: a5 :: a6 :: a7 :: some (.inl x) :: t) st w = K (a0 :: a1 :: a2 :: a3 :: a4 :: a5 :: a6 :: a7 :: some (.inl x) :: t) (.inl x :: st) w := id rfl
theorem x_ll8 {a0 a1 a2 a3 a4 a5 a6 a7 : Option VV} : op_ll 8 K (a0 :: a1 :: a2 :: a3 :: a4 :: a5 :: a6 :: a7 :: some (.inr (.inl p)) :: t) st w = K (a0 :: a1 :: a2 :: a3 :: a4 :: a5 :: a6 :: a7 :: some (.inr (.inl p)) :: t) (.inr (.inl p) :: st) w := id rfl
theorem x_al8 {a0 a1 a2 a3 a4 a5 a6 a7 : Option VV} : op_al 8 K (a0 :: a1 :: a2 :: a3 :: a4 :: a5 :: a6 :: a7 :: some (.inr (.inr o)) :: t) st w = K (a0 :: a1 :: a2 :: a3 :: a4 :: a5 :: a6 :: a7 :: some (.inr (.inr o)) :: t) (.inr (.inr o) :: st) w := id rfl
theorem x_inc8 {a0 a1 a2 a3 a4 a5 a6 a7 : Option VV} {n : Int32} : op_inc 8 n K (a0 :: a1 :: a2 :: a3 :: a4 :: a5 :: a6 :: a7 :: some (.inl x) :: t) st w = K (ls1 (a0 :: a1 :: a2 :: a3 :: a4 :: a5 :: a6 :: a7 :: some (.inl x) :: t) 8 (.inl (x + n))) st w := id rfl
theorem x_il9 {a0 a1 a2 a3 a4 a5 a6 a7 a8 : Option VV} : op_il 9 K (a0 :: a1 :: a2 :: a3 :: a4 :: a5 :: a6 :: a7 :: a8 :: some (.inl x) :: t) st w = K (a0 :: a1 :: a2 :: a3 :: a4 :: a5 :: a6 :: a7 :: a8 :: some (.inl x) :: t) (.inl x :: st) w := id rfl
theorem x_ll9 {a0 a1 a2 a3 a4 a5 a6 a7 a8 : Option VV} : op_ll 9 K (a0 :: a1 :: a2 :: a3 :: a4 :: a5 :: a6 :: a7 :: a8 :: some (.inr (.inl p)) :: t) st w = K (a0 :: a1 :: a2 :: a3 :: a4 :: a5 :: a6 :: a7 :: a8 :: some (.inr (.inl p)) :: t) (.inr (.inl p) :: st) w := id rfl
theorem x_al9 {a0 a1 a2 a3 a4 a5 a6 a7 a8 : Option VV} : op_al 9 K (a0 :: a1 :: a2 :: a3 :: a4 :: a5 :: a6 :: a7 :: a8 :: some (.inr (.inr o)) :: t) st w = K (a0 :: a1 :: a2 :: a3 :: a4 :: a5 :: a6 :: a7 :: a8 :: some (.inr (.inr o)) :: t) (.inr (.inr o) :: st) w := id rfl
theorem x_inc9 {a0 a1 a2 a3 a4 a5 a6 a7 a8 : Option VV} {n : Int32} : op_inc 9 n K (a0 :: a1 :: a2 :: a3 :: a4 :: a5 :: a6 :: a7 :: a8 :: some (.inl x) :: t) st w = K (ls1 (a0 :: a1 :: a2 :: a3 :: a4 :: a5 :: a6 :: a7 :: a8 :: some (.inl x) :: t) 9 (.inl (x + n))) st w := id rfl
theorem x_il10 {a0 a1 a2 a3 a4 a5 a6 a7 a8 a9 : Option VV} : op_il 10 K (a0 :: a1 :: a2 :: a3 :: a4 :: a5 :: a6 :: a7 :: a8 :: a9 :: some (.inl x) :: t) st w = K (a0 :: a1 :: a2 :: a3 :: a4 :: a5 :: a6 :: a7 :: a8 :: a9 :: some (.inl x) :: t) (.inl x :: st) w := id rfl
theorem x_ll10 {a0 a1 a2 a3 a4 a5 a6 a7 a8 a9 : Option VV} : op_ll 10 K (a0 :: a1 :: a2 :: a3 :: a4 :: a5 :: a6 :: a7 :: a8 :: a9 :: some (.inr (.inl p)) :: t) st w = K (a0 :: a1 :: a2 :: a3 :: a4 :: a5 :: a6 :: a7 :: a8 :: a9 :: some (.inr (.inl p)) :: t) (.inr (.inl p) :: st) w := id rfl
theorem x_al10 {a0 a1 a2 a3 a4 a5 a6 a7 a8 a9 : Option VV} : op_al 10 K (a0 :: a1 :: a2 :: a3 :: a4 :: a5 :: a6 :: a7 :: a8 :: a9 :: some (.inr (.inr o)) :: t) st w = K (a0 :: a1 :: a2 :: a3 :: a4 :: a5 :: a6 :: a7 :: a8 :: a9 :: some (.inr (.inr o)) :: t) (.inr (.inr o) :: st) w := id rfl
theorem x_inc10 {a0 a1 a2 a3 a4 a5 a6 a7 a8 a9 : Option VV} {n : Int32} : op_inc 10 n K (a0 :: a1 :: a2 :: a3 :: a4 :: a5 :: a6 :: a7 :: a8 :: a9 :: some (.inl x) :: t) st w = K (ls1 (a0 :: a1 :: a2 :: a3 :: a4 :: a5 :: a6 :: a7 :: a8 :: a9 :: some (.inl x) :: t) 10 (.inl (x + n))) st w := id rfl
theorem x_il11 {a0 a1 a2 a3 a4 a5 a6 a7 a8 a9 a10 : Option VV} : op_il 11 K (a0 :: a1 :: a2 :: a3 :: a4 :: a5 :: a6 :: a7 :: a8 :: a9 :: a10 :: some (.inl x) :: t) st w = K (a0 :: a1 :: a2 :: a3 :: a4 :: a5 :: a6 :: a7 :: a8 :: a9 :: a10 :: some (.inl x) :: t) (.inl x :: st) w := id rfl
theorem x_ll11 {a0 a1 a2 a3 a4 a5 a6 a7 a8 a9 a10 : Option VV} : op_ll 11 K (a0 :: a1 :: a2 :: a3 :: a4 :: a5 :: a6 :: a7 :: a8 :: a9 :: a10 :: some (.inr (.inl p)) :: t) st w = K (a0 :: a1 :: a2 :: a3 :: a4 :: a5 :: a6 :: a7 :: a8 :: a9 :: a10 :: some (.inr (.inl p)) :: t) (.inr (.inl p) :: st) w := id rfl
theorem x_al11 {a0 a1 a2 a3 a4 a5 a6 a7 a8 a9 a10 : Option VV} : op_al 11 K (a0 :: a1 :: a2 :: a3 :: a4 :: a5 :: a6 :: a7 :: a8 :: a9 :: a10 :: some (.inr (.inr o)) :: t) st w = K (a0 :: a1 :: a2 :: a3 :: a4 :: a5 :: a6 :: a7 :: a8 :: a9 :: a10 :: some (.inr (.inr o)) :: t) (.inr (.inr o) :: st) w := id rfl
theorem x_inc11 {a0 a1 a2 a3 a4 a5 a6 a7 a8 a9 a10 : Option VV} {n : Int32} : op_inc 11 n K (a0 :: a1 :: a2 :: a3 :: a4 :: a5 :: a6 :: a7 :: a8 :: a9 :: a10 :: some (.inl x) :: t) st w = K (ls1 (a0 :: a1 :: a2 :: a3 :: a4 :: a5 :: a6 :: a7 :: a8 :: a9 :: a10 :: some (.inl x) :: t) 11 (.inl (x + n))) st w := id rfl
theorem x_il12 {a0 a1 a2 a3 a4 a5 a6 a7 a8 a9 a10 a11 : Option VV} : op_il 12 K (a0 :: a1 :: a2 :: a3 :: a4 :: a5 :: a6 :: a7 :: a8 :: a9 :: a10 :: a11 :: some (.inl x) :: t) st w = K (a0 :: a1 :: a2 :: a3 :: a4 :: a5 :: a6 :: a7 :: a8 :: a9 :: a10 :: a11 :: some (.inl x) :: t) (.inl x :: st) w := id rfl
theorem x_ll12 {a0 a1 a2 a3 a4 a5 a6 a7 a8 a9 a10 a11 : Option VV} : op_ll 12 K (a0 :: a1 :: a2 :: a3 :: a4 :: a5 :: a6 :: a7 :: a8 :: a9 :: a10 :: a11 :: some (.inr (.inl p)) :: t) st w = K (a0 :: a1 :: a2 :: a3 :: a4 :: a5 :: a6 :: a7 :: a8 :: a9 :: a10 :: a11 :: some (.inr (.inl p)) :: t) (.inr (.inl p) :: st) w := id rfl
theorem x_al12 {a0 a1 a2 a3 a4 a5 a6 a7 a8 a9 a10 a11 : Option VV} : op_al 12 K (a0 :: a1 :: a2 :: a3 :: a4 :: a5 :: a6 :: a7 :: a8 :: a9 :: a10 :: a11 :: some (.inr (.inr o)) :: t) st w = K (a0 :: a1 :: a2 :: a3 :: a4 :: a5 :: a6 :: a7 :: a8 :: a9 :: a10 :: a11 :: some (.inr (.inr o)) :: t) (.inr (.inr o) :: st) w := id rfl
theorem x_inc12 {a0 a1 a2 a3 a4 a5 a6 a7 a8 a9 a10 a11 : Option VV} {n : Int32} : op_inc 12 n K (a0 :: a1 :: a2 :: a3 :: a4 :: a5 :: a6 :: a7 :: a8 :: a9 :: a10 :: a11 :: some (.inl x) :: t) st w = K (ls1 (a0 :: a1 :: a2 :: a3 :: a4 :: a5 :: a6 :: a7 :: a8 :: a9 :: a10 :: a11 :: some (.inl x) :: t) 12 (.inl (x + n))) st w := id rfl
theorem x_il13 {a0 a1 a2 a3 a4 a5 a6 a7 a8 a9 a10 a11 a12 : Option VV} : op_il 13 K (a0 :: a1 :: a2 :: a3 :: a4 :: a5 :: a6 :: a7 :: a8 :: a9 :: a10 :: a11 :: a12 :: some (.inl x) :: t) st w = K (a0 :: a1 :: a2 :: a3 :: a4 :: a5 :: a6 :: a7 :: a8 :: a9 :: a10 :: a11 :: a12 :: some (.inl x) :: t) (.inl x :: st) w := id rfl
theorem x_ll13 {a0 a1 a2 a3 a4 a5 a6 a7 a8 a9 a10 a11 a12 : Option VV} : op_ll 13 K (a0 :: a1 :: a2 :: a3 :: a4 :: a5 :: a6 :: a7 :: a8 :: a9 :: a10 :: a11 :: a12 :: some (.inr (.inl p)) :: t) st w = K (a0 :: a1 :: a2 :: a3 :: a4 :: a5 :: a6 :: a7 :: a8 :: a9 :: a10 :: a11 :: a12 :: some (.inr (.inl p)) :: t) (.inr (.inl p) :: st) w := id rfl
theorem x_al13 {a0 a1 a2 a3 a4 a5 a6 a7 a8 a9 a10 a11 a12 : Option VV} : op_al 13 K (a0 :: a1 :: a2 :: a3 :: a4 :: a5 :: a6 :: a7 :: a8 :: a9 :: a10 :: a11 :: a12 :: some (.inr (.inr o)) :: t) st w = K (a0 :: a1 :: a2 :: a3 :: a4 :: a5 :: a6 :: a7 :: a8 :: a9 :: a10 :: a11 :: a12 :: some (.inr (.inr o)) :: t) (.inr (.inr o) :: st) w := id rfl
theorem x_inc13 {a0 a1 a2 a3 a4 a5 a6 a7 a8 a9 a10 a11 a12 : Option VV} {n : Int32} : op_inc 13 n K (a0 :: a1 :: a2 :: a3 :: a4 :: a5 :: a6 :: a7 :: a8 :: a9 :: a10 :: a11 :: a12 :: some (.inl x) :: t) st w = K (ls1 (a0 :: a1 :: a2 :: a3 :: a4 :: a5 :: a6 :: a7 :: a8 :: a9 :: a10 :: a11 :: a12 :: some (.inl x) :: t) 13 (.inl (x + n))) st w := id rfl
theorem x_dupI : op_dup K lv (.inl x :: r) w = K lv (.inl x :: .inl x :: r) w := id rfl
theorem x_popI : op_pop K lv (.inl x :: r) w = K lv r w := id rfl
theorem x_dupR : op_dup K lv (.inr (.inr o) :: r) w = K lv (.inr (.inr o) :: .inr (.inr o) :: r) w := id rfl
theorem x_popR : op_pop K lv (.inr (.inr o) :: r) w = K lv r w := id rfl
theorem x_dup2IR : op_dup2 K lv (.inl x :: .inr (.inr o) :: r) w = K lv (.inl x :: .inr (.inr o) :: .inl x :: .inr (.inr o) :: r) w := id rfl
theorem x_dup2II : op_dup2 K lv (.inl x :: .inl y :: r) w = K lv (.inl x :: .inl y :: .inl x :: .inl y :: r) w := id rfl
theorem x_goto : op_goto K = K := id rfl
theorem x_ret {w : Wd} : op_ret lv [] w = some ((), w) := id rfl
theorem x_iret {w : Wd} : op_iret lv [.inl x] w = some (x, w) := id rfl
theorem x_zret {w : Wd} : op_zret lv [.inl x] w = if x = 0 ∨ x = 1 then some (x, w) else none := id rfl
theorem x_jret {w : Wd} : op_jret lv [.inr (.inl p)] w = some (p, w) := id rfl
theorem x_rret {w : Wd} : op_rret lv [.inr (.inr o)] w = some (o, w) := id rfl
theorem x_nulN {T E : Den ρ} : op_nul T E lv (.inr (.inr none) :: r) w = T lv r w := id rfl
theorem x_nulS {T E : Den ρ} {b : Nat × Nat} : op_nul T E lv (.inr (.inr (some b)) :: r) w = E lv r w := id rfl
def thn (F : Option (σ × Wd)) (ij : IJ σ) (K : Den ρ) (lv : Lv) (r : List VV) : Option (ρ × Wd) := F.bind fun q => K lv ((ij q.1).toList ++ r) q.2
theorem thn_s {ij : IJ σ} {b : σ} : thn (some (b, w)) ij K lv r = K lv ((ij b).toList ++ r) w := id rfl
theorem x_call0 {ij : IJ σ} {F : List VV → Wd → Option (σ × Wd)} : op_call ij F 0 K lv r w = cond (Nat.ble (stw r) 8) (thn (F [] w) ij K lv r) none := by
  unfold op_call
  rw [show Nat.ble 0 r.length = true from Nat.ble_eq_true_of_le (Nat.zero_le _)]
  rfl
theorem x_call1 {ij : IJ σ} {F : List VV → Wd → Option (σ × Wd)} {v0 : VV} : op_call ij F 1 K lv (v0 :: r) w = cond (Nat.ble (stw r) 8) (thn (F [v0] w) ij K lv r) none := by
  unfold op_call
  rw [show Nat.ble 1 (v0 :: r).length = true from Nat.ble_eq_true_of_le (by simp only [List.length_cons]; omega)]
  rfl
theorem x_callV1 {ij : IJ σ} {F : List VV → Wd → Option (σ × Wd)} : op_callV c ij F 1 K lv (.inr (.inr (some (c, i))) :: r) w = cond (Nat.ble (stw r) 8) (thn (F [.inr (.inr (some (c, i)))] w) ij K lv r) none := by
  unfold op_callV
  rw [x_call1]
  show cond (Nat.beq c c) _ _ = _
  rw [Nat.beq_refl]
  rfl
theorem x_call2 {ij : IJ σ} {F : List VV → Wd → Option (σ × Wd)} {v0 v1 : VV} : op_call ij F 2 K lv (v1 :: v0 :: r) w = cond (Nat.ble (stw r) 8) (thn (F [v0, v1] w) ij K lv r) none := by
  unfold op_call
  rw [show Nat.ble 2 (v1 :: v0 :: r).length = true from Nat.ble_eq_true_of_le (by simp only [List.length_cons]; omega)]
  rfl
theorem x_callV2 {ij : IJ σ} {F : List VV → Wd → Option (σ × Wd)} {v1 : VV} : op_callV c ij F 2 K lv (v1 :: .inr (.inr (some (c, i))) :: r) w = cond (Nat.ble (stw r) 8) (thn (F [.inr (.inr (some (c, i))), v1] w) ij K lv r) none := by
  unfold op_callV
  rw [x_call2]
  show cond (Nat.beq c c) _ _ = _
  rw [Nat.beq_refl]
  rfl
theorem x_call3 {ij : IJ σ} {F : List VV → Wd → Option (σ × Wd)} {v0 v1 v2 : VV} : op_call ij F 3 K lv (v2 :: v1 :: v0 :: r) w = cond (Nat.ble (stw r) 8) (thn (F [v0, v1, v2] w) ij K lv r) none := by
  unfold op_call
  rw [show Nat.ble 3 (v2 :: v1 :: v0 :: r).length = true from Nat.ble_eq_true_of_le (by simp only [List.length_cons]; omega)]
  rfl
theorem x_callV3 {ij : IJ σ} {F : List VV → Wd → Option (σ × Wd)} {v1 v2 : VV} : op_callV c ij F 3 K lv (v2 :: v1 :: .inr (.inr (some (c, i))) :: r) w = cond (Nat.ble (stw r) 8) (thn (F [.inr (.inr (some (c, i))), v1, v2] w) ij K lv r) none := by
  unfold op_callV
  rw [x_call3]
  show cond (Nat.beq c c) _ _ = _
  rw [Nat.beq_refl]
  rfl
theorem x_call4 {ij : IJ σ} {F : List VV → Wd → Option (σ × Wd)} {v0 v1 v2 v3 : VV} : op_call ij F 4 K lv (v3 :: v2 :: v1 :: v0 :: r) w = cond (Nat.ble (stw r) 8) (thn (F [v0, v1, v2, v3] w) ij K lv r) none := by
  unfold op_call
  rw [show Nat.ble 4 (v3 :: v2 :: v1 :: v0 :: r).length = true from Nat.ble_eq_true_of_le (by simp only [List.length_cons]; omega)]
  rfl
theorem x_callV4 {ij : IJ σ} {F : List VV → Wd → Option (σ × Wd)} {v1 v2 v3 : VV} : op_callV c ij F 4 K lv (v3 :: v2 :: v1 :: .inr (.inr (some (c, i))) :: r) w = cond (Nat.ble (stw r) 8) (thn (F [.inr (.inr (some (c, i))), v1, v2, v3] w) ij K lv r) none := by
  unfold op_callV
  rw [x_call4]
  show cond (Nat.beq c c) _ _ = _
  rw [Nat.beq_refl]
  rfl
theorem x_call5 {ij : IJ σ} {F : List VV → Wd → Option (σ × Wd)} {v0 v1 v2 v3 v4 : VV} : op_call ij F 5 K lv (v4 :: v3 :: v2 :: v1 :: v0 :: r) w = cond (Nat.ble (stw r) 8) (thn (F [v0, v1, v2, v3, v4] w) ij K lv r) none := by
  unfold op_call
  rw [show Nat.ble 5 (v4 :: v3 :: v2 :: v1 :: v0 :: r).length = true from Nat.ble_eq_true_of_le (by simp only [List.length_cons]; omega)]
  rfl
theorem x_callV5 {ij : IJ σ} {F : List VV → Wd → Option (σ × Wd)} {v1 v2 v3 v4 : VV} : op_callV c ij F 5 K lv (v4 :: v3 :: v2 :: v1 :: .inr (.inr (some (c, i))) :: r) w = cond (Nat.ble (stw r) 8) (thn (F [.inr (.inr (some (c, i))), v1, v2, v3, v4] w) ij K lv r) none := by
  unfold op_callV
  rw [x_call5]
  show cond (Nat.beq c c) _ _ = _
  rw [Nat.beq_refl]
  rfl
theorem x_call6 {ij : IJ σ} {F : List VV → Wd → Option (σ × Wd)} {v0 v1 v2 v3 v4 v5 : VV} : op_call ij F 6 K lv (v5 :: v4 :: v3 :: v2 :: v1 :: v0 :: r) w = cond (Nat.ble (stw r) 8) (thn (F [v0, v1, v2, v3, v4, v5] w) ij K lv r) none := by
  unfold op_call
  rw [show Nat.ble 6 (v5 :: v4 :: v3 :: v2 :: v1 :: v0 :: r).length = true from Nat.ble_eq_true_of_le (by simp only [List.length_cons]; omega)]
  rfl
theorem x_callV6 {ij : IJ σ} {F : List VV → Wd → Option (σ × Wd)} {v1 v2 v3 v4 v5 : VV} : op_callV c ij F 6 K lv (v5 :: v4 :: v3 :: v2 :: v1 :: .inr (.inr (some (c, i))) :: r) w = cond (Nat.ble (stw r) 8) (thn (F [.inr (.inr (some (c, i))), v1, v2, v3, v4, v5] w) ij K lv r) none := by
  unfold op_callV
  rw [x_call6]
  show cond (Nat.beq c c) _ _ = _
  rw [Nat.beq_refl]
  rfl
theorem x_call7 {ij : IJ σ} {F : List VV → Wd → Option (σ × Wd)} {v0 v1 v2 v3 v4 v5 v6 : VV} : op_call ij F 7 K lv (v6 :: v5 :: v4 :: v3 :: v2 :: v1 :: v0 :: r) w = cond (Nat.ble (stw r) 8) (thn (F [v0, v1, v2, v3, v4, v5, v6] w) ij K lv r) none := by
  unfold op_call
  rw [show Nat.ble 7 (v6 :: v5 :: v4 :: v3 :: v2 :: v1 :: v0 :: r).length = true from Nat.ble_eq_true_of_le (by simp only [List.length_cons]; omega)]
  rfl
theorem x_callV7 {ij : IJ σ} {F : List VV → Wd → Option (σ × Wd)} {v1 v2 v3 v4 v5 v6 : VV} : op_callV c ij F 7 K lv (v6 :: v5 :: v4 :: v3 :: v2 :: v1 :: .inr (.inr (some (c, i))) :: r) w = cond (Nat.ble (stw r) 8) (thn (F [.inr (.inr (some (c, i))), v1, v2, v3, v4, v5, v6] w) ij K lv r) none := by
  unfold op_callV
  rw [x_call7]
  show cond (Nat.beq c c) _ _ = _
  rw [Nat.beq_refl]
  rfl
theorem tl_I : (ijI x).toList ++ st = .inl x :: st := id rfl
theorem tl_J : (ijJ p).toList ++ st = .inr (.inl p) :: st := id rfl
theorem tl_R : (ijR o).toList ++ st = .inr (.inr o) :: st := id rfl
theorem tl_U {u : Unit} : (ijU u).toList ++ st = st := id rfl
theorem stw_0 : stw [] = 0 := id rfl
theorem stw_I : stw (.inl x :: st) = 1 + stw st := by simp only [stw, List.map_cons, List.sum_cons, isLg, cond_false]
theorem stw_J : stw (.inr (.inl p) :: st) = 2 + stw st := by simp only [stw, List.map_cons, List.sum_cons, isLg, cond_true]
theorem stw_R : stw (.inr (.inr o) :: st) = 1 + stw st := by simp only [stw, List.map_cons, List.sum_cons, isLg, cond_false]
theorem ble_0 : Nat.ble 0 8 = true := id rfl
theorem ble_1 : Nat.ble 1 8 = true := id rfl
theorem ble_2 : Nat.ble 2 8 = true := id rfl
theorem ble_3 : Nat.ble 3 8 = true := id rfl
theorem ble_4 : Nat.ble 4 8 = true := id rfl
theorem ble_5 : Nat.ble 5 8 = true := id rfl
theorem ble_6 : Nat.ble 6 8 = true := id rfl
theorem ble_7 : Nat.ble 7 8 = true := id rfl
theorem ble_8 : Nat.ble 8 8 = true := id rfl
theorem beq_r {n : Nat} : Nat.beq n n = true := Nat.beq_refl n
theorem rk_n {κ : Nat} : rk κ none = true := id rfl
theorem rk_s {κ j : Nat} : rk κ (some (κ, j)) = true := Nat.beq_refl κ
end STEPS
theorem fv_0_0 (i : Nat) (w : Wd) : fv 0 0 i w = .inl (w.1 32 i 0) := id rfl
theorem fv_0_1 (i : Nat) (w : Wd) : fv 0 1 i w = .inr (.inr (some (33, i))) := id rfl
theorem kt_33 : ktag 33 = 13 := by decide +kernel
theorem al_33 : alen 33 = 7 := by decide +kernel
theorem fv_0_2 (i : Nat) (w : Wd) : fv 0 2 i w = .inr (.inr (some (34, i))) := id rfl
theorem kt_34 : ktag 34 = 10 := by decide +kernel
theorem al_34 : alen 34 = 7 := by decide +kernel
theorem fv_0_3 (i : Nat) (w : Wd) : fv 0 3 i w = .inl (w.1 35 i 0) := id rfl
theorem fv_0_4 (i : Nat) (w : Wd) : fv 0 4 i w = .inr (.inr (some (36, i))) := id rfl
theorem kt_36 : ktag 36 = 10 := by decide +kernel
theorem al_36 : alen 36 = 8 := by decide +kernel
theorem fv_0_5 (i : Nat) (w : Wd) : fv 0 5 i w = .inr (.inr (some (37, i))) := id rfl
theorem kt_37 : ktag 37 = 10 := by decide +kernel
theorem al_37 : alen 37 = 8 := by decide +kernel
theorem fv_0_6 (i : Nat) (w : Wd) : fv 0 6 i w = .inr (.inr (some (38, i))) := id rfl
theorem kt_38 : ktag 38 = 10 := by decide +kernel
theorem al_38 : alen 38 = 8 := by decide +kernel
theorem fv_0_7 (i : Nat) (w : Wd) : fv 0 7 i w = .inr (.inr (some (39, i))) := id rfl
theorem kt_39 : ktag 39 = 11 := by decide +kernel
theorem al_39 : alen 39 = 8 := by decide +kernel
theorem fv_0_8 (i : Nat) (w : Wd) : fv 0 8 i w = .inl (w.1 40 i 0) := id rfl
theorem fv_0_9 (i : Nat) (w : Wd) : fv 0 9 i w = .inr (.inr (some (41, i))) := id rfl
theorem kt_41 : ktag 41 = 13 := by decide +kernel
theorem al_41 : alen 41 = 4 := by decide +kernel
theorem fv_0_10 (i : Nat) (w : Wd) : fv 0 10 i w = .inr (.inr (some (42, i))) := id rfl
theorem kt_42 : ktag 42 = 10 := by decide +kernel
theorem al_42 : alen 42 = 4 := by decide +kernel
theorem fv_0_11 (i : Nat) (w : Wd) : fv 0 11 i w = .inr (.inr (some (43, i))) := id rfl
theorem kt_43 : ktag 43 = 10 := by decide +kernel
theorem al_43 : alen 43 = 4 := by decide +kernel
theorem fv_0_12 (i : Nat) (w : Wd) : fv 0 12 i w = .inl (w.1 44 i 0) := id rfl
theorem fv_0_13 (i : Nat) (w : Wd) : fv 0 13 i w = .inr (.inr (some (45, i))) := id rfl
theorem kt_45 : ktag 45 = 10 := by decide +kernel
theorem al_45 : alen 45 = 12 := by decide +kernel
theorem fv_0_14 (i : Nat) (w : Wd) : fv 0 14 i w = .inl (w.1 46 i 0) := id rfl
theorem fv_0_15 (i : Nat) (w : Wd) : fv 0 15 i w = .inr (.inr (some (3, i))) := id rfl
theorem fv_1_0 (i : Nat) (w : Wd) : fv 1 0 i w = .inl (w.1 64 i 0) := id rfl
theorem fv_1_1 (i : Nat) (w : Wd) : fv 1 1 i w = .inr (.inr (some (65, i))) := id rfl
theorem kt_65 : ktag 65 = 15 := by decide +kernel
theorem al_65 : alen 65 = 40 := by decide +kernel
theorem fv_1_2 (i : Nat) (w : Wd) : fv 1 2 i w = .inr (.inr (some (66, i))) := id rfl
theorem kt_66 : ktag 66 = 10 := by decide +kernel
theorem al_66 : alen 66 = 40 := by decide +kernel
theorem fv_1_3 (i : Nat) (w : Wd) : fv 1 3 i w = .inr (.inr (some (67, i))) := id rfl
theorem kt_67 : ktag 67 = 10 := by decide +kernel
theorem al_67 : alen 67 = 40 := by decide +kernel
theorem fv_1_4 (i : Nat) (w : Wd) : fv 1 4 i w = .inr (.inr (some (68, i))) := id rfl
theorem kt_68 : ktag 68 = 10 := by decide +kernel
theorem al_68 : alen 68 = 40 := by decide +kernel
theorem fv_2_0 (i : Nat) (w : Wd) : fv 2 0 i w = .inl (w.1 96 i 0) := id rfl
theorem fv_2_1 (i : Nat) (w : Wd) : fv 2 1 i w = .inr (.inr (some (97, i))) := id rfl
theorem kt_97 : ktag 97 = 10 := by decide +kernel
theorem al_97 : alen 97 = 8 := by decide +kernel
theorem fv_2_2 (i : Nat) (w : Wd) : fv 2 2 i w = .inr (.inr (some (98, i))) := id rfl
theorem kt_98 : ktag 98 = 10 := by decide +kernel
theorem al_98 : alen 98 = 8 := by decide +kernel
theorem fv_3_0 (i : Nat) (w : Wd) : fv 3 0 i w = .inr (.inr (some (128, i))) := id rfl
theorem kt_128 : ktag 128 = 10 := by decide +kernel
theorem al_128 : alen 128 = 1000 := by decide +kernel
theorem fv_3_1 (i : Nat) (w : Wd) : fv 3 1 i w = .inr (.inr (some (129, i))) := id rfl
theorem kt_129 : ktag 129 = 10 := by decide +kernel
theorem al_129 : alen 129 = 24 := by decide +kernel
theorem fv_3_2 (i : Nat) (w : Wd) : fv 3 2 i w = .inl (w.1 130 i 0) := id rfl
theorem fv_4_0 (i : Nat) (w : Wd) : fv 4 0 i w = .inr (.inr (some (160, i))) := id rfl
theorem kt_160 : ktag 160 = 14 := by decide +kernel
theorem al_160 : alen 160 = 17 := by decide +kernel
theorem fv_4_1 (i : Nat) (w : Wd) : fv 4 1 i w = .inl (w.1 161 i 0) := id rfl
theorem fv_4_2 (i : Nat) (w : Wd) : fv 4 2 i w = .inl (w.1 162 i 0) := id rfl
theorem fv_4_3 (i : Nat) (w : Wd) : fv 4 3 i w = .inr (.inr (some (163, i))) := id rfl
theorem kt_163 : ktag 163 = 14 := by decide +kernel
theorem al_163 : alen 163 = 4 := by decide +kernel
theorem fv_4_4 (i : Nat) (w : Wd) : fv 4 4 i w = .inr (.inr (some (164, i))) := id rfl
theorem kt_164 : ktag 164 = 14 := by decide +kernel
theorem al_164 : alen 164 = 4 := by decide +kernel
theorem fv_4_5 (i : Nat) (w : Wd) : fv 4 5 i w = .inl (w.1 165 i 0) := id rfl
theorem fv_5_0 (i : Nat) (w : Wd) : fv 5 0 i w = .inr (.inr (some (192, i))) := id rfl
theorem kt_192 : ktag 192 = 10 := by decide +kernel
theorem al_192 : alen 192 = 7 := by decide +kernel
theorem fv_6_0 (i : Nat) (w : Wd) : fv 6 0 i w = .inr (.inr (some (8, 0))) := id rfl
theorem fv_6_1 (i : Nat) (w : Wd) : fv 6 1 i w = .inl (w.1 225 i 0) := id rfl
theorem fv_6_2 (i : Nat) (w : Wd) : fv 6 2 i w = .inl (w.1 226 i 0) := id rfl
theorem fv_7_0 (i : Nat) (w : Wd) : fv 7 0 i w = .inl (w.1 256 i 0) := id rfl
theorem fv_7_1 (i : Nat) (w : Wd) : fv 7 1 i w = .inl (w.1 257 i 0) := id rfl
theorem fv_7_2 (i : Nat) (w : Wd) : fv 7 2 i w = .inl (w.1 258 i 0) := id rfl
theorem fv_7_3 (i : Nat) (w : Wd) : fv 7 3 i w = .inl (w.1 259 i 0) := id rfl
theorem fv_7_4 (i : Nat) (w : Wd) : fv 7 4 i w = .inr (.inr (some (260, i))) := id rfl
theorem kt_260 : ktag 260 = 10 := by decide +kernel
theorem al_260 : alen 260 = 4 := by decide +kernel
theorem fv_7_5 (i : Nat) (w : Wd) : fv 7 5 i w = .inr (.inr (some (261, i))) := id rfl
theorem kt_261 : ktag 261 = 10 := by decide +kernel
theorem al_261 : alen 261 = 4 := by decide +kernel
theorem fv_7_6 (i : Nat) (w : Wd) : fv 7 6 i w = .inr (.inr (some (262, i))) := id rfl
theorem kt_262 : ktag 262 = 10 := by decide +kernel
theorem al_262 : alen 262 = 4 := by decide +kernel
theorem fv_7_7 (i : Nat) (w : Wd) : fv 7 7 i w = .inr (.inr (some (263, i))) := id rfl
theorem kt_263 : ktag 263 = 10 := by decide +kernel
theorem al_263 : alen 263 = 8 := by decide +kernel
theorem fv_7_8 (i : Nat) (w : Wd) : fv 7 8 i w = .inr (.inr (some (264, i))) := id rfl
theorem kt_264 : ktag 264 = 10 := by decide +kernel
theorem al_264 : alen 264 = 7 := by decide +kernel
theorem fv_8_0 (i : Nat) (w : Wd) : fv 8 0 i w = .inr (.inr (some (288, i))) := id rfl
theorem kt_288 : ktag 288 = 12 := by decide +kernel
theorem al_288 : alen 288 = 1000 := by decide +kernel
theorem fv_8_1 (i : Nat) (w : Wd) : fv 8 1 i w = .inl (w.1 289 i 0) := id rfl
theorem fv_8_2 (i : Nat) (w : Wd) : fv 8 2 i w = .inl (w.1 290 i 0) := id rfl
theorem fv_8_3 (i : Nat) (w : Wd) : fv 8 3 i w = .inl (w.1 291 i 0) := id rfl
theorem fv_8_4 (i : Nat) (w : Wd) : fv 8 4 i w = .inl (w.1 292 i 0) := id rfl
theorem fv_8_5 (i : Nat) (w : Wd) : fv 8 5 i w = .inr (.inl (w.2.1 293 i 0)) := id rfl
theorem fv_8_6 (i : Nat) (w : Wd) : fv 8 6 i w = .inr (.inr ((w.2.2 294 i 0).map fun j => (21, j))) := id rfl
theorem fv_8_7 (i : Nat) (w : Wd) : fv 8 7 i w = .inl (w.1 295 i 0) := id rfl
theorem fv_9_0 (i : Nat) (w : Wd) : fv 9 0 i w = .inr (.inr (some (8, 0))) := id rfl
theorem fv_9_1 (i : Nat) (w : Wd) : fv 9 1 i w = .inr (.inr (some (6, 0))) := id rfl
theorem fv_9_2 (i : Nat) (w : Wd) : fv 9 2 i w = .inr (.inr ((w.2.2 322 i 0).map fun j => (0, j))) := id rfl
theorem fv_9_3 (i : Nat) (w : Wd) : fv 9 3 i w = .inr (.inr ((w.2.2 323 i 0).map fun j => (0, j))) := id rfl
theorem fv_9_4 (i : Nat) (w : Wd) : fv 9 4 i w = .inr (.inr ((w.2.2 324 i 0).map fun j => (1, j))) := id rfl
theorem fv_9_5 (i : Nat) (w : Wd) : fv 9 5 i w = .inr (.inr ((w.2.2 325 i 0).map fun j => (1, j))) := id rfl
theorem fv_9_6 (i : Nat) (w : Wd) : fv 9 6 i w = .inr (.inr (some (7, 0))) := id rfl
theorem fv_9_7 (i : Nat) (w : Wd) : fv 9 7 i w = .inr (.inr (some (7, 1))) := id rfl
theorem fv_9_8 (i : Nat) (w : Wd) : fv 9 8 i w = .inr (.inr (some (4, 0))) := id rfl
theorem fv_9_9 (i : Nat) (w : Wd) : fv 9 9 i w = .inr (.inr (some (2, 0))) := id rfl
theorem fv_9_10 (i : Nat) (w : Wd) : fv 9 10 i w = .inr (.inr (some (330, i))) := id rfl
theorem kt_330 : ktag 330 = 10 := by decide +kernel
theorem al_330 : alen 330 = 8 := by decide +kernel
theorem fv_9_11 (i : Nat) (w : Wd) : fv 9 11 i w = .inr (.inr (some (331, i))) := id rfl
theorem kt_331 : ktag 331 = 10 := by decide +kernel
theorem al_331 : alen 331 = 8 := by decide +kernel
theorem fv_9_12 (i : Nat) (w : Wd) : fv 9 12 i w = .inr (.inr (some (5, 0))) := id rfl
theorem fv_9_13 (i : Nat) (w : Wd) : fv 9 13 i w = .inr (.inr (some (333, i))) := id rfl
theorem kt_333 : ktag 333 = 14 := by decide +kernel
theorem al_333 : alen 333 = 4 := by decide +kernel
theorem fv_9_14 (i : Nat) (w : Wd) : fv 9 14 i w = .inr (.inr (some (334, i))) := id rfl
theorem kt_334 : ktag 334 = 14 := by decide +kernel
theorem al_334 : alen 334 = 4 := by decide +kernel
theorem fv_10_0 (i : Nat) (w : Wd) : fv 10 0 i w = .inl (w.1 352 i 0) := id rfl
theorem fv_10_1 (i : Nat) (w : Wd) : fv 10 1 i w = .inr (.inr (some (353, i))) := id rfl
theorem kt_353 : ktag 353 = 10 := by decide +kernel
theorem al_353 : alen 353 = 1000 := by decide +kernel
theorem fv_10_2 (i : Nat) (w : Wd) : fv 10 2 i w = .inl (w.1 354 i 0) := id rfl
theorem fv_10_3 (i : Nat) (w : Wd) : fv 10 3 i w = .inl (w.1 355 i 0) := id rfl
theorem fv_10_4 (i : Nat) (w : Wd) : fv 10 4 i w = .inr (.inr (some (356, i))) := id rfl
theorem kt_356 : ktag 356 = 10 := by decide +kernel
theorem al_356 : alen 356 = 1002 := by decide +kernel
theorem fv_10_5 (i : Nat) (w : Wd) : fv 10 5 i w = .inr (.inr (some (357, i))) := id rfl
theorem kt_357 : ktag 357 = 10 := by decide +kernel
theorem al_357 : alen 357 = 1002 := by decide +kernel
theorem fv_10_6 (i : Nat) (w : Wd) : fv 10 6 i w = .inr (.inr (some (358, i))) := id rfl
theorem kt_358 : ktag 358 = 13 := by decide +kernel
theorem al_358 : alen 358 = 1002 := by decide +kernel
theorem fv_10_7 (i : Nat) (w : Wd) : fv 10 7 i w = .inl (w.1 359 i 0) := id rfl
theorem fv_10_8 (i : Nat) (w : Wd) : fv 10 8 i w = .inl (w.1 360 i 0) := id rfl
theorem fv_10_9 (i : Nat) (w : Wd) : fv 10 9 i w = .inr (.inr (some (361, i))) := id rfl
theorem kt_361 : ktag 361 = 13 := by decide +kernel
theorem al_361 : alen 361 = 28 := by decide +kernel
theorem fv_10_10 (i : Nat) (w : Wd) : fv 10 10 i w = .inr (.inr (some (362, i))) := id rfl
theorem kt_362 : ktag 362 = 10 := by decide +kernel
theorem al_362 : alen 362 = 140 := by decide +kernel
theorem fv_10_11 (i : Nat) (w : Wd) : fv 10 11 i w = .inr (.inr (some (363, i))) := id rfl
theorem kt_363 : ktag 363 = 10 := by decide +kernel
theorem al_363 : alen 363 = 2200 := by decide +kernel
theorem fv_10_12 (i : Nat) (w : Wd) : fv 10 12 i w = .inr (.inr (some (364, i))) := id rfl
theorem kt_364 : ktag 364 = 10 := by decide +kernel
theorem al_364 : alen 364 = 2200 := by decide +kernel
theorem fv_10_13 (i : Nat) (w : Wd) : fv 10 13 i w = .inl (w.1 365 i 0) := id rfl
theorem fv_10_14 (i : Nat) (w : Wd) : fv 10 14 i w = .inr (.inr (some (366, i))) := id rfl
theorem kt_366 : ktag 366 = 13 := by decide +kernel
theorem al_366 : alen 366 = 11 := by decide +kernel
theorem fv_10_15 (i : Nat) (w : Wd) : fv 10 15 i w = .inr (.inr (some (367, i))) := id rfl
theorem kt_367 : ktag 367 = 13 := by decide +kernel
theorem al_367 : alen 367 = 11 := by decide +kernel
theorem fv_10_16 (i : Nat) (w : Wd) : fv 10 16 i w = .inr (.inr (some (368, i))) := id rfl
theorem kt_368 : ktag 368 = 10 := by decide +kernel
theorem al_368 : alen 368 = 11 := by decide +kernel
theorem fv_10_17 (i : Nat) (w : Wd) : fv 10 17 i w = .inr (.inr (some (369, i))) := id rfl
theorem kt_369 : ktag 369 = 10 := by decide +kernel
theorem al_369 : alen 369 = 11 := by decide +kernel
theorem fv_10_18 (i : Nat) (w : Wd) : fv 10 18 i w = .inl (w.1 370 i 0) := id rfl
theorem fv_10_19 (i : Nat) (w : Wd) : fv 10 19 i w = .inl (w.1 371 i 0) := id rfl
theorem fv_10_20 (i : Nat) (w : Wd) : fv 10 20 i w = .inl (w.1 372 i 0) := id rfl
theorem fv_10_21 (i : Nat) (w : Wd) : fv 10 21 i w = .inr (.inr (some (373, i))) := id rfl
theorem kt_373 : ktag 373 = 10 := by decide +kernel
theorem al_373 : alen 373 = 330 := by decide +kernel
theorem fv_10_22 (i : Nat) (w : Wd) : fv 10 22 i w = .inr (.inr (some (374, i))) := id rfl
theorem kt_374 : ktag 374 = 10 := by decide +kernel
theorem al_374 : alen 374 = 4 := by decide +kernel
theorem fv_10_23 (i : Nat) (w : Wd) : fv 10 23 i w = .inr (.inr (some (375, i))) := id rfl
theorem kt_375 : ktag 375 = 10 := by decide +kernel
theorem al_375 : alen 375 = 1100 := by decide +kernel
theorem fv_10_24 (i : Nat) (w : Wd) : fv 10 24 i w = .inr (.inr (some (376, i))) := id rfl
theorem kt_376 : ktag 376 = 10 := by decide +kernel
theorem al_376 : alen 376 = 1104 := by decide +kernel
theorem fv_10_25 (i : Nat) (w : Wd) : fv 10 25 i w = .inl (w.1 377 i 0) := id rfl
theorem fv_10_26 (i : Nat) (w : Wd) : fv 10 26 i w = .inr (.inr (some (378, i))) := id rfl
theorem kt_378 : ktag 378 = 11 := by decide +kernel
theorem al_378 : alen 378 = 4 := by decide +kernel
theorem fv_10_27 (i : Nat) (w : Wd) : fv 10 27 i w = .inr (.inr (some (379, i))) := id rfl
theorem kt_379 : ktag 379 = 10 := by decide +kernel
theorem al_379 : alen 379 = 7 := by decide +kernel
theorem fv_10_28 (i : Nat) (w : Wd) : fv 10 28 i w = .inr (.inl (w.2.1 380 i 0)) := id rfl
