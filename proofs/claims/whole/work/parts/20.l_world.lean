/-! ===== the law's own row joins the world; the law's first steps ===== -/
def nk (v : VV) : Prop := match v with
  | .inr (.inr (some q)) => q.1 ≠ 26
  | _ => True
theorem nkc {b : Bool} {x y : Nat × Nat} (hx : x.1 ≠ 26) (hy : y.1 ≠ 26) : (cond b x y).1 ≠ 26 := by cases b <;> assumption
theorem n26 {a b : Nat} (h : Nat.beq a 26 = false) : ((a, b) : Nat × Nat).1 ≠ 26 := Nat.ne_of_beq_eq_false h
theorem fref_nk (c k i : Nat) : (fref c k i).1 ≠ 26 := nkc (n26 rfl) (nkc (n26 rfl) (nkc (n26 rfl) (nkc (n26 rfl) (nkc (n26 rfl) (nkc (n26 rfl) (nkc (n26 rfl) (nkc (n26 rfl) (nkc (n26 rfl) (n26 rfl)))))))))
theorem rcon_nk (f k : Nat) : (rcon f k).1 ≠ 26 := nkc (n26 rfl) (nkc (n26 rfl) (nkc (n26 rfl) (nkc (n26 rfl) (nkc (n26 rfl) (n26 rfl)))))
theorem nk_map {κ : Nat} (h : Nat.beq κ 26 = false) (o : Option Nat) : nk (.inr (.inr (o.map fun j => (κ, j)))) := by
  cases o with
  | none => trivial
  | some j => exact Nat.ne_of_beq_eq_false h
theorem fv_nk (c k i : Nat) (w : Wd) : nk (fv c k i w) := by
  unfold fv
  split
  · trivial
  · trivial
  · exact fref_nk c k i
  · exact nk_map rfl _
  · exact nk_map rfl _
  · exact nk_map rfl _
  · trivial
  · show 32 * (c + 1) + k ≠ 26
    omega
section OUTW
variable {gb : GB} {as : List Nat} {ad : Nat → Nat} {aK aS aV b : Nat}
theorem ex_nk {o o' : Nat} {os os' : List Nat} {f i : Nat} (h : f ≠ 26) : (mkG gb as (exF ad aK aS aV b o) os).1 f i = (mkG gb as (exF ad aK aS aV b o') os').1 f i := by
  show cond (exk f) (exF ad aK aS aV b o f i) (as.getD (fp nmT (f, i)) 0) = cond (exk f) (exF ad aK aS aV b o' f i) (as.getD (fp nmT (f, i)) 0)
  cases hx : exk f with
  | false => rfl
  | true =>
    obtain ⟨h1, h2⟩ := (Bool.and_eq_true _ _).mp hx
    have h3 := Nat.le_of_ble_eq_true h1
    have h4 := Nat.le_of_ble_eq_true h2
    have h5 : f = 21 ∨ f = 22 ∨ f = 23 ∨ f = 24 ∨ f = 25 := by omega
    rcases h5 with rfl | rfl | rfl | rfl | rfl <;> rfl
theorem phys_nk {o o' : Nat} {os os' : List Nat} {v : VV} (h : nk v) : phys (mkG gb as (exF ad aK aS aV b o) os) v = phys (mkG gb as (exF ad aK aS aV b o') os') v := by
  match v, h with
  | .inl x, _ => rfl
  | .inr (.inl x), _ => rfl
  | .inr (.inr none), _ => rfl
  | .inr (.inr (some q)), h =>
    show Value.ref _ = Value.ref _
    rw [ex_nk (o' := o') (os' := os') h]
theorem cell_nk {o o' : Nat} {os os' : List Nat} {w : Wd} {f i : Nat} : cellOf (mkG gb as (exF ad aK aS aV b o) os) w f i = cellOf (mkG gb as (exF ad aK aS aV b o') os') w f i := by
  have hr : ∀ k, (rfs f i k w).map (fun q => (mkG gb as (exF ad aK aS aV b o) os).1 q.1 q.2) = (rfs f i k w).map (fun q => (mkG gb as (exF ad aK aS aV b o') os').1 q.1 q.2) := fun k => by
    unfold rfs
    cases Nat.beq (ktag f) 14 with
    | true =>
      exact congrArg some (ex_nk (rcon_nk f k))
    | false =>
      show ((w.2.2 f i k).map fun j => (21, j)).map _ = ((w.2.2 f i k).map fun j => (21, j)).map _
      cases w.2.2 f i k with
      | none => rfl
      | some j =>
        exact congrArg some (ex_nk (f := 21) (by decide))
  unfold cellOf
  split
  · refine congrArg (fun z => (Sum.inr (f, z) : va_E)) (List.map_congr_left fun k _ => phys_nk (fv_nk f k i w))
  · rfl
  · rfl
  · rfl
  · rfl
  · exact congrArg (fun z => (Sum.inl (gb.2.2 (acls f), alen f, .inr (.inr (.inr (.inr z)))) : va_E)) (funext hr)
  · exact congrArg (fun z => (Sum.inl (gb.2.2 (acls f), alen f, .inr (.inr (.inr (.inr z)))) : va_E)) (funext hr)
  · rfl
  · rfl
theorem nmT_nk (n : Nat) : (nmT.getD n (99, 0)).1 ≠ 26 := by
  rw [List.getD_eq_getElem?_getD]
  cases h : nmT[n]? with
  | none => exact n26 rfl
  | some q =>
    have := nm_3 q (List.mem_of_getElem? h)
    intro e
    have e : q.1 = 26 := e
    rw [e] at this
    cases this
theorem wls_lt {g : GG} {w : Wd} {H : Heap} (h : WH g w H) {a : Nat} (ha : a ∈ g.2.2.1) : a < H.size := by
  obtain ⟨k, hk⟩ := List.getElem?_of_mem ha
  have e : (wls g w)[k]? = some (a, cellOf g w (g.2.1 a).1 (g.2.1 a).2) := by
    unfold wls va_pl
    rw [List.getElem?_map, hk]
    rfl
  exact (h.2 k _ e).lt
theorem WH_out {o : Nat} {w : Wd} {H H1 : Heap} (h : WH (mkG gb as (exF ad aK aS aV b 0) []) w H) (ho : H.size = o) (hH : ∀ x, x < H.size → H1[x]? = H[x]?) (hc : H1[o]? = some (arrV (gb.2.2 1) 1 (fun _ => .long 0))) : WH (mkG gb as (exF ad aK aS aV b o) [o]) (sJ w 26 0 0 0) H1 := by
  have hP1 : va_P gb.2.1 cls12 (wls (mkG gb as (exF ad aK aS aV b 0) []) w) H1 := h.2.kept fun k x hx => hH x.1 ((h.2 k x hx).lt)
  refine ⟨okW_sJ h.1 _ _ _ _, fun k q hk => ?_⟩
  obtain ⟨h1, h2⟩ := wls_at hk
  have h1 : (as ++ [o])[k]? = some q.1 := h1
  obtain ⟨qa, qe⟩ := q
  dsimp only at h1 h2
  by_cases c : k < as.length
  · rw [List.getElem?_append_left c] at h1
    have hlt : qa < o := by rw [← ho]; exact wls_lt h (List.mem_append_left _ (List.mem_of_getElem? h1))
    have e1 : (mkG gb as (exF ad aK aS aV b o) [o]).2.1 qa = nmT.getD (fi as qa) (99, 0) := if_neg (fun z => by rw [List.mem_singleton] at z; omega)
    have e3 : (mkG gb as (exF ad aK aS aV b 0) []).2.1 qa = nmT.getD (fi as qa) (99, 0) := by
      show (if qa ∈ ([] : List Nat) then (26, 0) else nmT.getD (fi as qa) (99, 0)) = _
      rw [if_neg (by simp)]
    have e2 : (wls (mkG gb as (exF ad aK aS aV b 0) []) w)[k]? = some (qa, qe) := by
      have e4 : (as ++ [] : List Nat)[k]? = some qa := by rw [List.append_nil]; exact h1
      unfold wls va_pl
      rw [List.getElem?_map]
      show Option.map _ ((as ++ [] : List Nat)[k]?) = _
      rw [e4, h2]
      show some (qa, cellOf (mkG gb as (exF ad aK aS aV b 0) []) w ((mkG gb as (exF ad aK aS aV b 0) []).2.1 qa).1 ((mkG gb as (exF ad aK aS aV b 0) []).2.1 qa).2) = some (qa, _)
      rw [e1, e3, cell_sJ_a (Or.inr rfl) (fun z => nmT_nk _ z.1), cell_nk (o' := o) (os' := [o])]
    exact hP1 k _ e2
  · rw [List.getElem?_append_right (by omega)] at h1
    have hz : k - as.length < 1 := (List.getElem?_eq_some_iff.mp h1).1
    rw [show k - as.length = 0 by omega] at h1
    have e0 : o = qa := Option.some.inj h1
    subst e0
    have e1 : (mkG gb as (exF ad aK aS aV b o) [o]).2.1 o = (26, 0) := if_pos (List.mem_singleton.mpr rfl)
    rw [h2, e1]
    show H1[o]? = some (vp_cell (gb.2.2 1) (1, .inr (.inl ((sJ w 26 0 0 0).2.1 26 0))))
    rw [vp_cell_l, hc]
    refine congrArg some (arrV_congr fun j hj => ?_)
    have e : j = 0 := by omega
    subst e
    rw [sJ_21, if_pos ⟨rfl, rfl, rfl⟩]
end OUTW
section FIRST
variable {p : Program} {l : Launch} {e : Env} {R : Room} {s : State} {m : MethodId} {args : Array Value} {below : List Frame} {meth : Method} {c : Code} {H : Heap} {locs : List Loc} {cells slots : Nat} {Q : State → Prop} {pc : Nat} {ls : Array Slot} {rest : List Value} {gb : GB} {cc : ByteArray} {own : String}
theorem W_newC (hx : p.tables.exec = Jvm.exec) (hb : c.code = cc) (hown : s.vm.findClass own = some m.cls) (hts : ∀ w ∈ gw, w.before args s = true) (hK : va_K gb.2.1 cls12 (gtys (gas gb [])) s) {index ci N : Nat} {R0 : String} {T : u_T} {ty0 : Nat → FieldType} (hd : decode cc pc = .ok (.new index, 3)) (hF : FOK ci R0 T N) (hty : ∀ k, k < N → parseFieldDescriptor (T k).2.2.1 = some (ty0 k)) (hdf : ∀ k, k < N → defaultValue (ty0 k) = phys (gas gb []) (dfl (ftag ci k))) (hcl : Cond.classLink own index R0 ∈ gw) (hin : Cond.instantiable R0 N ∈ gw) (hini : Cond.initialized R0 ∈ gw) {as : List Nat} {cs : List CE} (hW : CH gb as cs H) (b1 : cells + 1 ≤ R.cells) (b2 : slots + N ≤ R.slots)
    (kk : ∀ H1 : Heap, CH gb (as ++ [H.size]) (cs ++ [ob0 ci]) H1 → H1.size = H.size + 1 → (∀ x, x < H.size → H1[x]? = H[x]?) → W p l e R s m args below meth c H1 locs (cells + 1) (slots + N) Q (F0 m (pc + 3) ls (.ref H.size :: rest))) : W p l e R s m args below meth c H locs cells slots Q (F0 m pc ls rest) := by
  obtain ⟨hc11, hc, hNs, hlay⟩ := hF
  have hKn := hK.1 ci _ hc
  refine W.newcK hx hb hown (hts _ hcl) (hts _ hin) (hts _ hini) rfl hd b1 b2 hKn.2.1 rfl fun H1 kC hkC e1 z1 o1 => ?_
  refine kk H1 ?_ z1 o1
  refine CH_push hW rfl o1 ?_ ?_
  · intro v hv
    obtain ⟨t, -, rfl⟩ := List.mem_map.mp hv
    unfold dfl
    split <;> trivial
  · refine ⟨_, hc, (u_born ty0 hts hlay hKn hkC e1 hty).to fun j hj => ?_⟩
    rw [hdf j hj]
    have h3 := dfl_at ci hc11 j (by rw [hNs]; exact hj)
    have h4 : vp_V (((FT.getD ci []).map dfl).map (phys (gas gb (as ++ [H.size])))) j = phys (gas gb (as ++ [H.size])) (dfl (ftag ci j)) := by
      unfold vp_V
      rw [List.getD_eq_getElem?_getD, List.getElem?_map, h3]
      rfl
    refine Eq.trans ?_ h4.symm
    rcases (show dfl (ftag ci j) = .inl 0 ∨ dfl (ftag ci j) = .inr (.inl 0) ∨ dfl (ftag ci j) = .inr (.inr none) by unfold dfl; split <;> simp) with q | q | q <;> rw [q] <;> rfl
theorem W_run {st0 : List Value} {mc ms : Nat} {Qa : State → Outcome → State → Prop} {free : Addr → Prop} (hr : va_Run p l e R s m args below meth c H locs cells slots mc ms (F0 m pc ls st0) rest Qa free)
    (kk : ∀ (v : Option Value) (t0 t : State) (L : List Loc), t0.heap = H → (∀ q ∈ L, free q.base) → Qa t0 (.returned v) t → W p l e R s m args below meth c t.heap (locs ++ L) (cells + mc) (slots + ms) Q (F0 m (pc + 3) ls (v.toList ++ rest))) : W p l e R s m args below meth c H locs cells slots Q (F0 m pc ls st0) := by
  intro T hT X
  obtain ⟨v, st₀, t, T', L, h0, X', hL, e1, e2, hq, st⟩ := hr T hT X
  obtain ⟨t2, a1, b1⟩ := kk v st₀ t L h0 hL hq T' e1 X'
  exact ⟨t2, st t2 a1, b1⟩
theorem goodC {Z : MD} {n : Nat} (hC : COC Z n) : GoodIn gw (wsU Z) := fun w hw => by
  obtain ⟨k1, k2, k3, k4, k5, k6⟩ := hC
  rcases List.mem_cons.mp hw with rfl | hw
  · rw [k2]; exact ⟨k1, gw_good k1⟩
  · exact ⟨hw, gw_good hw⟩
theorem nest_warm {U : State} (hwm : s.WarmedH U.vm) (h : ∀ w ∈ lw_tbl, isNest w = true → va_Nw w s) : ∀ w ∈ lw_tbl, isNest w = true → va_Nw w U := fun w hw hn => by
  have := h w hw hn
  cases w with
  | fieldLinkNest a b c d e f => exact va_Nw.warmF hwm this
  | methodLinkNest a b c d => exact va_Nw.warmM hwm this
  | _ => simp [isNest] at hn
theorem S_new {H0 H1 : Heap} (hS : va_S (fun q => H0.size ≤ q) H0 H locs) (z : H1.size = H.size + 1) (o : ∀ x, x < H.size → H1[x]? = H[x]?) : va_S (fun q => H0.size ≤ q) H0 H1 locs := ⟨Nat.le_trans hS.1 (by omega), fun x h1 h2 => (o x (Nat.lt_of_lt_of_le h1 hS.1)).trans (hS.2.1 x h1 h2), hS.2.2⟩
theorem S_run {H0 : Heap} {as : List Nat} {L : List Loc} {t0 t : State} (hS : va_S (fun q => H0.size ≤ q) H0 H locs) (h0 : t0.heap = H) (ha : ∀ a ∈ as, H0.size ≤ a) (hF : va_F (cA as t0.heap.size) t0 t) (hL : ∀ q ∈ L, cA as H.size q.base) : H.size ≤ t.heap.size ∧ va_S (fun q => H0.size ≤ q) H0 t.heap (locs ++ L) := by
  have hf : ∀ q, cA as H.size q → H0.size ≤ q := fun q hq => hq.elim (ha q) (Nat.le_trans hS.1)
  rw [h0] at hF
  have := vx_keep (T' := t) h0 rfl hS (fun q _ => hf q) hf hL hF
  exact ⟨this.1, this.2.2⟩
end FIRST
