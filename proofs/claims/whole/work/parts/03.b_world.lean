/-! ===== values, worlds, denotations =====
VV: an int, a long, a reference (null, or the i-th of a kind). Wd: what all fields and arrays hold: ints, longs, references, by field, object, place. -/
abbrev VV : Type := Int32 ⊕ (Int64 ⊕ Option (Nat × Nat))
abbrev Wd : Type := (Nat → Nat → Nat → Int32) × (Nat → Nat → Nat → Int64) × (Nat → Nat → Nat → Option Nat)
abbrev Lv : Type := List (Option VV)
abbrev Den (ρ : Type) : Type := Lv → List VV → Wd → Option (ρ × Wd)
abbrev GG : Type := (Nat → Nat → Nat) × (Nat → Nat × Nat) × List Nat × va_G × (Nat → ClassId)
def ftag (c k : Nat) : Nat := (FT.getD c []).getD k 99
def ktag (f : Nat) : Nat := cond (Nat.blt f 32) (cond (Nat.beq f 26) 16 98) (ftag (f / 32 - 1) (f % 32))
def alen (f : Nat) : Nat := (LN.getD (f / 32 - 1) []).getD (f % 32) 0
def cntK (f : Nat) : Nat := cond (Nat.blt f 32) (CN.getD f 0) (cond (Nat.blt 9 (ktag f) && Nat.blt (ktag f) 16) (CN.getD (f / 32 - 1) 0) 0)
/-- 21: a word, 22: the script, 23: the row of all words, 24: the signs' text, 25: its bytes, 26: the law's own row -/
def cntV (f : Nat) : Nat := cond (Nat.beq f 21) 28 (cond (Nat.ble 22 f && Nat.ble f 26) 1 (cntK f))
def ecnt (f : Nat) : Nat := cond (Nat.beq f 322 || Nat.beq f 323 || Nat.beq f 324 || Nat.beq f 325) 2 (cond (Nat.beq f 294 || Nat.beq f 65) 28 0)
def sI (w : Wd) (f i k : Nat) (x : Int32) : Wd := (fun f' i' k' => if f' = f ∧ i' = i ∧ k' = k then x else w.1 f' i' k', w.2)
def sJ (w : Wd) (f i k : Nat) (x : Int64) : Wd := (w.1, fun f' i' k' => if f' = f ∧ i' = i ∧ k' = k then x else w.2.1 f' i' k', w.2.2)
def sE (w : Wd) (f i k : Nat) (x : Option Nat) : Wd := (w.1, w.2.1, fun f' i' k' => if f' = f ∧ i' = i ∧ k' = k then x else w.2.2 f' i' k')
def sA (w : Wd) (f i : Nat) (h : Nat → Int32) : Wd := (fun f' i' k' => if f' = f ∧ i' = i then h k' else w.1 f' i' k', w.2)
def fv (c k i : Nat) (w : Wd) : VV := match ftag c k with
  | 0 => .inl (w.1 (32 * (c + 1) + k) i 0)
  | 1 => .inr (.inl (w.2.1 (32 * (c + 1) + k) i 0))
  | 2 => .inr (.inr (some (fref c k i)))
  | 3 => .inr (.inr ((w.2.2 (32 * (c + 1) + k) i 0).map fun j => (0, j)))
  | 4 => .inr (.inr ((w.2.2 (32 * (c + 1) + k) i 0).map fun j => (1, j)))
  | 5 => .inr (.inr ((w.2.2 (32 * (c + 1) + k) i 0).map fun j => (21, j)))
  | 6 => .inl (w.1 (32 * (c + 1) + k) i 0)
  | _ => .inr (.inr (some (32 * (c + 1) + k, i)))
def rfs (f i k : Nat) (w : Wd) : Option (Nat × Nat) := cond (Nat.beq (ktag f) 14) (some (rcon f k)) ((w.2.2 f i k).map fun j => (21, j))
def phys (g : GG) (v : VV) : Value := match v with
  | .inl x => .int x
  | .inr (.inl x) => .long x
  | .inr (.inr none) => .null
  | .inr (.inr (some q)) => .ref (g.1 q.1 q.2)
def okV (v : VV) : Prop := match v with
  | .inr (.inr (some q)) => q.2 < cntV q.1
  | _ => True
def okW (w : Wd) : Prop := ∀ f i k j, w.2.2 f i k = some j → j < ecnt f
def okS (st : List VV) : Prop := ∀ v ∈ st, okV v
def okL (lv : Lv) : Prop := ∀ v, some v ∈ lv → okV v
def cellOf (g : GG) (w : Wd) (f i : Nat) : va_E := match ktag f with
  | 98 => .inr (f, (List.range (NS.getD f 0)).map fun k => phys g (fv f k i w))
  | 10 => .inl (g.2.2.2.2 0, alen f, .inl (w.1 f i))
  | 11 => .inl (g.2.2.2.2 2, alen f, .inl (w.1 f i))
  | 12 => .inl (g.2.2.2.2 3, alen f, .inl (w.1 f i))
  | 13 => .inl (g.2.2.2.2 1, alen f, .inr (.inl (w.2.1 f i)))
  | 14 => .inl (g.2.2.2.2 (acls f), alen f, .inr (.inr (.inr (.inr fun k => (rfs f i k w).map fun q => g.1 q.1 q.2))))
  | 15 => .inl (g.2.2.2.2 (acls f), alen f, .inr (.inr (.inr (.inr fun k => (rfs f i k w).map fun q => g.1 q.1 q.2))))
  | 16 => .inl (g.2.2.2.2 1, 1, .inr (.inl (w.2.1 f i)))
  | _ => .inr (99, [])
def gA (g : GG) : Nat → Prop := fun q => q ∈ g.2.2.1
def GOK (g : GG) : Prop := (∀ f i, i < cntK f → g.1 f i ∈ g.2.2.1 ∧ g.2.1 (g.1 f i) = (f, i)) ∧ (∀ a ∈ g.2.2.1, g.1 (g.2.1 a).1 (g.2.1 a).2 = a) ∧ g.2.2.1.Nodup
def wls (g : GG) (w : Wd) : va_W := va_pl g.2.2.1 (fun a => cellOf g w (g.2.1 a).1 (g.2.1 a).2)
def tyE (j : Nat) : FieldType := ([.int, .long, .boolean, .char, .object RX7, .object RX2, .object RX5, .object RX9] : List FieldType).getD j .int
def gtys (g : GG) : List (ClassId × FieldType) := (List.range 8).map fun j => (g.2.2.2.2 j, tyE j)
def WH (g : GG) (w : Wd) (H : Heap) : Prop := okW w ∧ va_P g.2.2.2.1 cls12 (wls g w) H
theorem wls_get {g : GG} (hG : GOK g) (w : Wd) {f i : Nat} (h : i < cntK f) : ∃ k : Nat, (wls g w)[k]? = some (g.1 f i, cellOf g w f i) := by
  obtain ⟨h1, h2⟩ := hG.1 f i h
  obtain ⟨k, hk⟩ := va_pl_get (X := []) (f := fun a => cellOf g w (g.2.1 a).1 (g.2.1 a).2) h1
  refine ⟨k, ?_⟩
  rw [List.nil_append] at hk
  rw [wls, hk, h2]
theorem wls_at {g : GG} {w : Wd} {k : Nat} {q : Nat × va_E} (h : (wls g w)[k]? = some q) : g.2.2.1[k]? = some q.1 ∧ q.2 = cellOf g w (g.2.1 q.1).1 (g.2.1 q.1).2 := by
  unfold wls va_pl at h
  rw [List.getElem?_map] at h
  cases ha : g.2.2.1[k]? with
  | none => rw [ha] at h; simp at h
  | some a =>
    rw [ha] at h
    simp only [Option.map_some, Option.some.injEq] at h
    subst h
    exact ⟨rfl, rfl⟩
theorem wls_D {g : GG} (hG : GOK g) (w : Wd) : va_D (gA g) (wls g w) := by
  refine ⟨fun i j p q hp hq e => ?_, fun k q hk => ?_⟩
  · obtain ⟨h1, -⟩ := wls_at hp
    obtain ⟨h2, -⟩ := wls_at hq
    rw [← e] at h2
    obtain ⟨hi, e1⟩ := List.getElem?_eq_some_iff.mp h1
    obtain ⟨hj, e2⟩ := List.getElem?_eq_some_iff.mp h2
    exact (List.getElem_inj hG.2.2).mp (e1.trans e2.symm)
  · exact List.mem_of_getElem? (wls_at hk).1
/-- the pool's cells, and those that are made from n on -/
def gS (g : GG) (n : Nat) : Nat → Prop := fun q => q ∈ g.2.2.1 ∨ n ≤ q
theorem wls_Ds {g : GG} (hG : GOK g) {n : Nat} (w : Wd) : va_D (gS g n) (wls g w) := ⟨(wls_D hG w).1, fun k q hk => Or.inl ((wls_D hG w).2 k q hk)⟩
theorem wls_setL {g : GG} (hG : GOK g) {w w' : Wd} {f i k : Nat} (h : g.1 f i ∈ g.2.2.1 ∧ g.2.1 (g.1 f i) = (f, i)) (hk : (wls g w)[k]? = some (g.1 f i, cellOf g w f i)) {e : va_E} (he : cellOf g w' f i = e) (ho : ∀ f' i', ¬ (f' = f ∧ i' = i) → cellOf g w' f' i' = cellOf g w f' i') : (wls g w).set k (g.1 f i, e) = wls g w' := by
  obtain ⟨h1, h2⟩ := h
  have h3 := va_pl_set (X := []) (f := fun a => cellOf g w (g.2.1 a).1 (g.2.1 a).2) (a := g.1 f i) (k := k) (e := e) (by have := wls_D hG w; rw [List.nil_append]; exact this) h1 (by rw [List.nil_append, h2]; exact hk)
  rw [List.nil_append, List.nil_append] at h3
  unfold wls
  rw [h3]
  unfold va_pl
  refine List.map_congr_left fun a ha => ?_
  by_cases hq : a = g.1 f i
  · subst hq
    show (g.1 f i, va_up _ (g.1 f i) e (g.1 f i)) = (g.1 f i, cellOf g w' (g.2.1 (g.1 f i)).1 (g.2.1 (g.1 f i)).2)
    rw [va_up_self, h2, he]
  · show (a, va_up _ (g.1 f i) e a) = (a, cellOf g w' (g.2.1 a).1 (g.2.1 a).2)
    rw [va_up_ne _ _ hq, ho]
    intro hc
    apply hq
    rw [← hG.2.1 a ha, hc.1, hc.2]
theorem wls_set {g : GG} (hG : GOK g) {w w' : Wd} {f i k : Nat} (h : i < cntK f) (hk : (wls g w)[k]? = some (g.1 f i, cellOf g w f i)) {e : va_E} (he : cellOf g w' f i = e) (ho : ∀ f' i', ¬ (f' = f ∧ i' = i) → cellOf g w' f' i' = cellOf g w f' i') : (wls g w).set k (g.1 f i, e) = wls g w' := wls_setL hG (hG.1 f i h) hk he ho
theorem wls_getL {g : GG} (w : Wd) {f i : Nat} (h : g.1 f i ∈ g.2.2.1 ∧ g.2.1 (g.1 f i) = (f, i)) : ∃ k : Nat, (wls g w)[k]? = some (g.1 f i, cellOf g w f i) := by
  obtain ⟨h1, h2⟩ := h
  obtain ⟨k, hk⟩ := va_pl_get (X := []) (f := fun a => cellOf g w (g.2.1 a).1 (g.2.1 a).2) h1
  refine ⟨k, ?_⟩
  rw [List.nil_append] at hk
  rw [wls, hk, h2]
theorem ktag_f {c k : Nat} (hk : k < 32) : ktag (32 * (c + 1) + k) = ftag c k := by
  unfold ktag
  have h1 : Nat.blt (32 * (c + 1) + k) 32 = false := by
    cases hb : Nat.blt (32 * (c + 1) + k) 32 with
    | false => rfl
    | true =>
      have := Nat.le_of_ble_eq_true hb
      omega
  rw [h1, cond_false]
  have h2 : (32 * (c + 1) + k) / 32 - 1 = c := by omega
  have h3 : (32 * (c + 1) + k) % 32 = k := by omega
  rw [h2, h3]
theorem ns_lt : ∀ f, NS.getD f 0 ≤ 32 := by
  intro f
  rcases Nat.lt_or_ge f 11 with h | h
  · have : ∀ f, f < 11 → NS.getD f 0 ≤ 32 := by decide
    exact this f h
  · have : NS.getD f 0 = 0 := by
      simp [List.getD, NS, List.getElem?_eq_none_iff.mpr (show ([16, 5, 3, 3, 6, 1, 3, 9, 8, 15, 29] : List Nat).length ≤ f from h)]
    omega
