/-! ===== the world behind both constructors ===== -/
def fi : List Nat → Nat → Nat
  | [], _ => 0
  | x :: r, a => if x = a then 0 else fi r a + 1
def fp : List (Nat × Nat) → Nat × Nat → Nat
  | [], _ => 0
  | x :: r, a => if x = a then 0 else fp r a + 1
theorem fi_get : ∀ {l : List Nat} {n a : Nat}, l.Nodup → l[n]? = some a → fi l a = n
  | [], n, a, _, h => by simp at h
  | x :: r, 0, a, hn, h => by simp at h; simp [fi, h]
  | x :: r, n + 1, a, hn, h => by
    have h1 : r[n]? = some a := by simpa using h
    have h2 := (List.nodup_cons.mp hn)
    have h3 : x ≠ a := fun q => h2.1 (q ▸ List.mem_of_getElem? h1)
    simp [fi, h3, fi_get h2.2 h1]
theorem fp_get : ∀ {l : List (Nat × Nat)} {n : Nat} {a : Nat × Nat}, l.Nodup → l[n]? = some a → fp l a = n
  | [], n, a, _, h => by simp at h
  | x :: r, 0, a, hn, h => by simp at h; simp [fp, h]
  | x :: r, n + 1, a, hn, h => by
    have h1 : r[n]? = some a := by simpa using h
    have h2 := (List.nodup_cons.mp hn)
    have h3 : x ≠ a := fun q => h2.1 (q ▸ List.mem_of_getElem? h1)
    simp [fp, h3, fp_get h2.2 h1]
/-- the kinds that lie outside the pool -/
def exk (f : Nat) : Bool := Nat.ble 21 f && Nat.ble f 26
def mkG (gb : GB) (as : List Nat) (ex : Nat → Nat → Nat) (os : List Nat) : GG :=
  (fun f i => cond (exk f) (ex f i) (as.getD (fp nmT (f, i)) 0), fun a => if a ∈ os then (26, 0) else nmT.getD (fi as a) (99, 0), as ++ os, gb.2.1, gb.2.2)
def ulc (c : CE) : List (Nat × VV) := match c with
  | .inl _ => []
  | .inr q => q.2.2
def w0 : Wd := (fun f i k => iAt (ulc (csF.getD (fp nmT (f, i)) ce0)) k, fun f i k => jAt (ulc (csF.getD (fp nmT (f, i)) ce0)) k, fun f i k => cond (Nat.beq f 322 || Nat.beq f 324) (some 0) (cond (Nat.beq f 323 || Nat.beq f 325) (some 1) none))
def relV (v : VV) : VV := match v with
  | .inr (.inr (some q)) => .inr (.inr (some (0, fp nmT q)))
  | v => v
def inp (v : VV) : Bool := match v with
  | .inr (.inr (some q)) => !exk q.1
  | _ => true
def dqL : DecidableEq (List VV) := inferInstance
def chk (n : Nat) : Bool := match csF.getD n ce0 with
  | .inl (ci, fs) => Nat.beq (nmT.getD n (99, 0)).1 ci && Nat.blt ci 11 && @decide _ (dqL fs ((List.range (NS.getD ci 0)).map fun k => relV (fv ci k (nmT.getD n (99, 0)).2 w0))) && (List.range (NS.getD ci 0)).all fun k => inp (fv ci k (nmT.getD n (99, 0)).2 w0)
  | .inr (j, len, u) => Nat.beq (alen (nmT.getD n (99, 0)).1) len && match ktag (nmT.getD n (99, 0)).1 with
    | 10 => Nat.beq j 0
    | 11 => Nat.beq j 2
    | 12 => Nat.beq j 3
    | 13 => Nat.beq j 1
    | 14 => Nat.beq j (acls (nmT.getD n (99, 0)).1) && (List.range len).all fun k => decide (rAt u k = some (0, fp nmT (rcon (nmT.getD n (99, 0)).1 k))) && !exk (rcon (nmT.getD n (99, 0)).1 k).1
    | 15 => Nat.beq j (acls (nmT.getD n (99, 0)).1) && u.isEmpty
    | _ => false
theorem chk_all : (List.range 240).all chk = true := by decide +kernel
theorem nm_3 : ∀ q ∈ nmT, exk q.1 = false := by decide +kernel
theorem cnt_ex {f : Nat} (h : exk f = true) : cntK f = 0 := by
  obtain ⟨h1, h2⟩ := (Bool.and_eq_true _ _).mp h
  have h3 := Nat.le_of_ble_eq_true h1
  have h4 := Nat.le_of_ble_eq_true h2
  have : ∀ f, f < 27 → 21 ≤ f → cntK f = 0 := by decide +kernel
  exact this f (by omega) h3
theorem cnt_big {f : Nat} (h : 384 ≤ f) : cntK f = 0 := by
  unfold cntK
  have h1 : Nat.blt f 32 = false := by
    cases hb : Nat.blt f 32 with
    | false => rfl
    | true =>
      have := Nat.le_of_ble_eq_true hb
      omega
  rw [h1, ktag_big h]
  rfl
theorem mk_at {gb : GB} {as : List Nat} {ex : Nat → Nat → Nat} {os : List Nat} {f i : Nat} (h : exk f = false) : (mkG gb as ex os).1 f i = as.getD (fp nmT (f, i)) 0 := by
  show cond (exk f) (ex f i) (as.getD (fp nmT (f, i)) 0) = _
  rw [h]
  rfl
theorem mk_ok {gb : GB} {as : List Nat} {ex : Nat → Nat → Nat} {os : List Nat} (hl : as.length = 240) (hn : (as ++ os).Nodup) (ho : ∀ a ∈ os, a = ex 26 0) : GOK (mkG gb as ex os) := by
  obtain ⟨n1, n2, n3⟩ := nm_1
  have hnd := List.nodup_append.mp hn
  refine ⟨fun f i hi => ?_, fun a ha => ?_, hn⟩
  · have hf : f < 384 := by
      rcases Nat.lt_or_ge f 384 with q | q
      · exact q
      · rw [cnt_big q] at hi; omega
    have hx : exk f = false := by
      cases q : exk f with
      | false => rfl
      | true => rw [cnt_ex q] at hi; omega
    obtain ⟨n, hn2⟩ := List.getElem?_of_mem (nm_2 f hf i hi)
    have hp := fp_get n3 hn2
    have hlt : n < as.length := by rw [hl, ← n1]; exact (List.getElem?_eq_some_iff.mp hn2).1
    have hg : as[n]? = some as[n] := List.getElem?_eq_getElem hlt
    have e1 : (mkG gb as ex os).1 f i = as[n] := by
      rw [mk_at hx, hp, List.getD_eq_getElem?_getD, hg]
      rfl
    rw [e1]
    refine ⟨List.mem_append_left _ (List.getElem_mem hlt), ?_⟩
    show (if as[n] ∈ os then (26, 0) else nmT.getD (fi as as[n]) (99, 0)) = (f, i)
    rw [if_neg (fun q => hnd.2.2 _ (List.getElem_mem hlt) _ q rfl), fi_get hnd.1 hg, List.getD_eq_getElem?_getD, hn2]
    rfl
  · show (mkG gb as ex os).1 (if a ∈ os then (26, 0) else nmT.getD (fi as a) (99, 0)).1 (if a ∈ os then (26, 0) else nmT.getD (fi as a) (99, 0)).2 = a
    by_cases hao : a ∈ os
    · rw [if_pos hao]
      exact (ho a hao).symm
    · rw [if_neg hao]
      rcases List.mem_append.mp ha with q | q
      · obtain ⟨n, hn2⟩ := List.getElem?_of_mem q
        have hlt : n < nmT.length := by rw [n1, ← hl]; exact (List.getElem?_eq_some_iff.mp hn2).1
        have hg : nmT[n]? = some nmT[n] := List.getElem?_eq_getElem hlt
        rw [fi_get hnd.1 hn2, List.getD_eq_getElem?_getD, hg]
        show (mkG gb as ex os).1 nmT[n].1 nmT[n].2 = a
        rw [mk_at (nm_3 _ (List.getElem_mem hlt)), show (nmT[n].1, nmT[n].2) = nmT[n] from rfl, fp_get n3 hg, List.getD_eq_getElem?_getD, hn2]
        rfl
      · exact absurd q hao
theorem phys_rel {gb : GB} {as : List Nat} {ex : Nat → Nat → Nat} {os : List Nat} {v : VV} (h : inp v = true) : phys (gas gb as) (relV v) = phys (mkG gb as ex os) v := by
  match v, h with
  | .inl x, _ => rfl
  | .inr (.inl x), _ => rfl
  | .inr (.inr none), _ => rfl
  | .inr (.inr (some q)), h =>
    have h1 : exk q.1 = false := by
      have : (!exk q.1) = true := h
      simpa using this
    show Value.ref (as.getD (fp nmT q) 0) = Value.ref ((mkG gb as ex os).1 q.1 q.2)
    rw [mk_at h1]
theorem arrV_congr {cA : ClassId} {n : Nat} {F G : Nat → Value} (h : ∀ j, j < n → F j = G j) : arrV cA n F = arrV cA n G := by
  unfold arrV
  congr 1
  apply Array.ext
  · simp
  · intro i h1 h2
    simp at h1
    simp [h i h1]
/-- the cell of a name, as it was made -/
theorem at_rel {gb : GB} {as : List Nat} {ex : Nat → Nat → Nat} {os : List Nat} {n a : Nat} {H : Heap} (hn : n < 240) (h : va_at gb.2.1 cls12 (a, ceE gb as (csF.getD n ce0)) H) : va_at gb.2.1 cls12 (a, cellOf (mkG gb as ex os) w0 (nmT.getD n (99, 0)).1 (nmT.getD n (99, 0)).2) H := by
  obtain ⟨n1, n2, n3⟩ := nm_1
  have hck : chk n = true := List.all_eq_true.mp chk_all n (List.mem_range.mpr hn)
  have hg : nmT[n]? = some (nmT.getD n (99, 0)) := by
    rw [List.getD_eq_getElem?_getD, List.getElem?_eq_getElem (by omega)]
    rfl
  have hfp := fp_get n3 hg
  generalize nmT.getD n (99, 0) = q at *
  obtain ⟨f, i⟩ := q
  dsimp only at *
  have hw1 : w0.1 f i = iAt (ulc (csF.getD n ce0)) := by
    funext k
    show iAt (ulc (csF.getD (fp nmT (f, i)) ce0)) k = _
    rw [hfp]
  have hw2 : w0.2.1 f i = jAt (ulc (csF.getD n ce0)) := by
    funext k
    show jAt (ulc (csF.getD (fp nmT (f, i)) ce0)) k = _
    rw [hfp]
  have hq : nmT.getD n (99, 0) = (f, i) := by rw [List.getD_eq_getElem?_getD, hg]; rfl
  unfold chk at hck
  rw [hq] at hck
  generalize csF.getD n ce0 = c at *
  match c, h, hck, hw1, hw2 with
  | .inl (ci, fs), h, hck, hw1, hw2 =>
    dsimp only at hck
    obtain ⟨c1, c4⟩ := (Bool.and_eq_true _ _).mp hck
    obtain ⟨c1, c3⟩ := (Bool.and_eq_true _ _).mp c1
    obtain ⟨c1, c2⟩ := (Bool.and_eq_true _ _).mp c1
    have e1 : f = ci := Nat.eq_of_beq_eq_true c1
    subst e1
    have e3 := @of_decide_eq_true _ (dqL _ _) c3
    rw [cell_obj (ktag_o f (Nat.le_of_ble_eq_true c2))]
    have e5 : (List.range (NS.getD f 0)).map (fun k => phys (mkG gb as ex os) (fv f k i w0)) = fs.map (phys (gas gb as)) := by
      rw [e3, List.map_map]
      refine List.map_congr_left fun k hk => ?_
      exact (phys_rel (List.all_eq_true.mp c4 k hk)).symm
    rw [e5]
    exact h
  | .inr (j, len, u), h, hck, hw1, hw2 =>
    dsimp only at hck
    obtain ⟨c1, c2⟩ := (Bool.and_eq_true _ _).mp hck
    have e1 : alen f = len := Nat.eq_of_beq_eq_true c1
    subst e1
    split at c2
    · rename_i ht
      have e2 := Nat.eq_of_beq_eq_true c2
      subst e2
      rw [cell_int (Or.inl rfl) ht, hw1]
      exact h
    · rename_i ht
      have e2 := Nat.eq_of_beq_eq_true c2
      subst e2
      rw [cell_int (Or.inr (Or.inl rfl)) ht, hw1]
      exact h
    · rename_i ht
      have e2 := Nat.eq_of_beq_eq_true c2
      subst e2
      rw [cell_int (Or.inr (Or.inr rfl)) ht, hw1]
      exact h
    · rename_i ht
      have e2 := Nat.eq_of_beq_eq_true c2
      subst e2
      rw [cell_long ht, hw2]
      exact h
    · rename_i ht
      obtain ⟨d1, d2⟩ := (Bool.and_eq_true _ _).mp c2
      have e2 := Nat.eq_of_beq_eq_true d1
      subst e2
      rw [cell_refs (Or.inl ht)]
      have hsh : ceE gb as (.inr (acls f, alen f, u)) = .inl (gb.2.2 (acls f), alen f, .inr (.inr (.inr (.inr fun k => (rAt u k).map fun q => as.getD q.2 0)))) := by
        have h7 := acls_lt f
        have h8 : acls f = 4 ∨ acls f = 5 ∨ acls f = 6 ∨ acls f = 7 := by omega
        rcases h8 with z | z | z | z <;> rw [z] <;> rfl
      rw [hsh] at h
      show H[a]? = some (vp_cell _ _)
      rw [vp_cell_q]
      have h' : H[a]? = some (vp_cell _ _) := h
      rw [vp_cell_q] at h'
      rw [h']
      refine congrArg some (arrV_congr fun k hk => ?_)
      have hk2 := List.all_eq_true.mp d2 k (List.mem_range.mpr hk)
      obtain ⟨k1, k2⟩ := (Bool.and_eq_true _ _).mp hk2
      have k3 := of_decide_eq_true k1
      have k4 : exk (rcon f k).1 = false := by simpa using k2
      have k5 : rfs f i k w0 = some (rcon f k) := by unfold rfs; rw [ht]; rfl
      rw [k3, k5]
      show va_rf (some (as.getD (fp nmT (rcon f k)) 0)) = va_rf (some ((mkG gb as ex os).1 (rcon f k).1 (rcon f k).2))
      rw [mk_at k4]
    · rename_i ht
      obtain ⟨d1, d2⟩ := (Bool.and_eq_true _ _).mp c2
      have e2 := Nat.eq_of_beq_eq_true d1
      subst e2
      have hu : u = [] := by cases u <;> simp_all
      subst hu
      rw [cell_refs (Or.inr ht)]
      have hsh : ceE gb as (.inr (acls f, alen f, [])) = .inl (gb.2.2 (acls f), alen f, .inr (.inr (.inr (.inr fun k => none)))) := by
        have h7 := acls_lt f
        have h8 : acls f = 4 ∨ acls f = 5 ∨ acls f = 6 ∨ acls f = 7 := by omega
        rcases h8 with z | z | z | z <;> rw [z] <;> rfl
      rw [hsh] at h
      have k5 : (fun k => (rfs f i k w0).map fun q => (mkG gb as ex os).1 q.1 q.2) = fun k => none := by
        funext k
        have h9 : w0.2.2 f i k = none := by
          have hf65 : ∀ q ∈ nmT, ktag q.1 = 15 → q.1 = 65 := by decide +kernel
          have := hf65 (f, i) (List.mem_of_getElem? hg) ht
          dsimp only at this
          subst this
          rfl
        unfold rfs
        rw [ht, h9]
        rfl
      rw [k5]
      exact h
    · cases c2
theorem okW0 : okW w0 := by
  intro f i k j h
  have h1 : cond (Nat.beq f 322 || Nat.beq f 324) (some 0) (cond (Nat.beq f 323 || Nat.beq f 325) (some 1) none) = some j := h
  cases h2 : (Nat.beq f 322 || Nat.beq f 324) with
  | true =>
    rw [h2] at h1
    cases h1
    rcases (Bool.or_eq_true _ _).mp h2 with q | q <;> rw [Nat.eq_of_beq_eq_true q] <;> decide
  | false =>
    rw [h2] at h1
    cases h3 : (Nat.beq f 323 || Nat.beq f 325) with
    | true =>
      rw [h3] at h1
      cases h1
      rcases (Bool.or_eq_true _ _).mp h3 with q | q <;> rw [Nat.eq_of_beq_eq_true q] <;> decide
    | false => rw [h3] at h1; cases h1
theorem CH_nodup {gb : GB} {as : List Nat} {cs : List CE} {H : Heap} (h : CH gb as cs H) : as.Nodup := by
  refine List.pairwise_iff_getElem.mpr fun i j hi hj hij e => ?_
  have hi2 := List.getElem?_eq_getElem (l := cs) (show i < cs.length by rw [← h.1]; omega)
  have hj2 := List.getElem?_eq_getElem (l := cs) (show j < cs.length by rw [← h.1]; omega)
  have := h.2.2.2.1 i j _ _ (wz_get hi2) (wz_get hj2) (by
    show as.getD i 0 = as.getD j 0
    rw [List.getD_eq_getElem?_getD, List.getD_eq_getElem?_getD, List.getElem?_eq_getElem hi, List.getElem?_eq_getElem hj, e])
  omega
/-- behind both constructors' fields the world is the first one -/
theorem WH_start {gb : GB} {as : List Nat} {ex : Nat → Nat → Nat} {H : Heap} (h : CH gb as csF H) : WH (mkG gb as ex []) w0 H := by
  obtain ⟨n1, n2, n3⟩ := nm_1
  refine ⟨okW0, fun k q hk => ?_⟩
  obtain ⟨h1, h2⟩ := wls_at hk
  have h1' : (as ++ [])[k]? = some q.1 := h1
  rw [List.append_nil] at h1'
  have hlt := (List.getElem?_eq_some_iff.mp h1').1
  have hl : as.length = 240 := by rw [h.1, n2]
  have hcs : csF[k]? = some (csF.getD k ce0) := by
    rw [List.getD_eq_getElem?_getD, List.getElem?_eq_getElem (by omega)]
    rfl
  have hat := h.2.2.1 k _ (wz_get hcs)
  have e1 : as.getD k 0 = q.1 := by rw [List.getD_eq_getElem?_getD, h1']; rfl
  rw [e1] at hat
  have hnd : as.Nodup := CH_nodup h
  have e2 : (mkG gb as ex []).2.1 q.1 = nmT.getD k (99, 0) := by
    show (if q.1 ∈ ([] : List Nat) then (26, 0) else nmT.getD (fi as q.1) (99, 0)) = _
    rw [if_neg (by simp), fi_get hnd h1']
  obtain ⟨qa, qe⟩ := q
  dsimp only at *
  rw [h2, e2]
  exact at_rel (by omega) hat
