/-! ===== a write changes one cell ===== -/
theorem map_fv_congr {g : GG} {w w' : Wd} {f i : Nat} (h : ∀ k, k < 32 → fv f k i w' = fv f k i w) : ((List.range (NS.getD f 0)).map fun k => phys g (fv f k i w')) = (List.range (NS.getD f 0)).map fun k => phys g (fv f k i w) := by
  refine List.map_congr_left fun k hk => ?_
  have hk' : k < NS.getD f 0 := List.mem_range.mp hk
  rw [h k (Nat.lt_of_lt_of_le hk' (ns_lt f))]
theorem cellOf_congr {g : GG} {w w' : Wd} {f i : Nat} (hO : ∀ k, k < 32 → fv f k i w' = fv f k i w) (hI : ktag f = 10 ∨ ktag f = 11 ∨ ktag f = 12 → w'.1 f i = w.1 f i) (hJ : ktag f = 13 ∨ ktag f = 16 → w'.2.1 f i = w.2.1 f i) (hE : ktag f = 15 → w'.2.2 f i = w.2.2 f i) : cellOf g w' f i = cellOf g w f i := by
  unfold cellOf
  split
  · rw [map_fv_congr hO]
  · rw [hI (Or.inl ‹_›)]
  · rw [hI (Or.inr (Or.inl ‹_›))]
  · rw [hI (Or.inr (Or.inr ‹_›))]
  · rw [hJ (Or.inl ‹_›)]
  · rename_i h14
    simp only [rfs, h14]
    rfl
  · rename_i h15
    simp only [rfs, h15, hE h15]
  · rw [hJ (Or.inr ‹_›)]
  · rfl
theorem fv_sI_ne {c k i : Nat} {w : Wd} {f j n : Nat} {x : Int32} (h : ftag c k = 0 ∨ ftag c k = 6 → ¬ (32 * (c + 1) + k = f ∧ i = j)) : fv c k i (sI w f j n x) = fv c k i w := by
  unfold fv
  split <;> first
    | rfl
    | (rename_i ht
       simp only [sI]
       rw [if_neg (fun q => h (by first | exact Or.inl ht | exact Or.inr ht) ⟨q.1, q.2.1⟩)])
theorem fv_sA {c k i : Nat} {w : Wd} {f j : Nat} {u : Nat → Int32} (h : ftag c k = 0 ∨ ftag c k = 6 → ¬ (32 * (c + 1) + k = f ∧ i = j)) : fv c k i (sA w f j u) = fv c k i w := by
  unfold fv
  split <;> first
    | rfl
    | (rename_i ht
       simp only [sA]
       rw [if_neg (fun q => h (by first | exact Or.inl ht | exact Or.inr ht) ⟨q.1, q.2⟩)])
theorem fv_sJ_ne {c k i : Nat} {w : Wd} {f j n : Nat} {x : Int64} (h : ftag c k = 1 → ¬ (32 * (c + 1) + k = f ∧ i = j)) : fv c k i (sJ w f j n x) = fv c k i w := by
  unfold fv
  split <;> first
    | rfl
    | (rename_i ht
       simp only [sJ]
       rw [if_neg (fun q => h ht ⟨q.1, q.2.1⟩)])
theorem fv_sE_ne {c k i : Nat} {w : Wd} {f j n : Nat} {x : Option Nat} (h : ftag c k = 3 ∨ ftag c k = 4 ∨ ftag c k = 5 → ¬ (32 * (c + 1) + k = f ∧ i = j)) : fv c k i (sE w f j n x) = fv c k i w := by
  unfold fv
  split <;> first
    | rfl
    | (rename_i ht
       simp only [sE]
       rw [if_neg (fun q => h (by first | exact Or.inl ht | exact Or.inr (Or.inl ht) | exact Or.inr (Or.inr ht)) ⟨q.1, q.2.1⟩)])
/-- a scalar int field -/
theorem cell_sI_f {g : GG} {w : Wd} {c k i : Nat} {x : Int32} (hk : k < 32) (ht : ftag c k = 0 ∨ ftag c k = 6) {f' i' : Nat} (h : ¬ (f' = c ∧ i' = i)) : cellOf g (sI w (32 * (c + 1) + k) i 0 x) f' i' = cellOf g w f' i' := by
  refine cellOf_congr (fun k' hk' => fv_sI_ne fun _ q => h ⟨by omega, q.2⟩) (fun ha => ?_) (fun _ => rfl) (fun _ => rfl)
  funext j
  simp only [sI]
  rw [if_neg]
  rintro ⟨rfl, -, -⟩
  rw [ktag_f hk] at ha
  omega
theorem cell_sJ_f {g : GG} {w : Wd} {c k i : Nat} {x : Int64} (hk : k < 32) (ht : ftag c k = 1) {f' i' : Nat} (h : ¬ (f' = c ∧ i' = i)) : cellOf g (sJ w (32 * (c + 1) + k) i 0 x) f' i' = cellOf g w f' i' := by
  refine cellOf_congr (fun k' hk' => fv_sJ_ne fun _ q => h ⟨by omega, q.2⟩) (fun _ => rfl) (fun ha => ?_) (fun _ => rfl)
  funext j
  simp only [sJ]
  rw [if_neg]
  rintro ⟨rfl, -, -⟩
  rw [ktag_f hk] at ha
  omega
theorem cell_sE_f {g : GG} {w : Wd} {c k i : Nat} {x : Option Nat} (hk : k < 32) (ht : ftag c k = 3 ∨ ftag c k = 4 ∨ ftag c k = 5) {f' i' : Nat} (h : ¬ (f' = c ∧ i' = i)) : cellOf g (sE w (32 * (c + 1) + k) i 0 x) f' i' = cellOf g w f' i' := by
  refine cellOf_congr (fun k' hk' => fv_sE_ne fun _ q => h ⟨by omega, q.2⟩) (fun _ => rfl) (fun _ => rfl) (fun ha => ?_)
  funext j
  simp only [sE]
  rw [if_neg]
  rintro ⟨rfl, -, -⟩
  rw [ktag_f hk] at ha
  omega
/-- an array's place -/
theorem cell_sI_a {g : GG} {w : Wd} {f i n : Nat} {x : Int32} (ht : ktag f = 10 ∨ ktag f = 11 ∨ ktag f = 12) {f' i' : Nat} (h : ¬ (f' = f ∧ i' = i)) : cellOf g (sI w f i n x) f' i' = cellOf g w f' i' := by
  refine cellOf_congr (fun k' hk' => fv_sI_ne fun h1 q => ?_) (fun ha => ?_) (fun _ => rfl) (fun _ => rfl)
  · rw [← q.1, ktag_f hk'] at ht
    omega
  · funext j
    simp only [sI]
    rw [if_neg (fun q => h ⟨q.1, q.2.1⟩)]
theorem cell_sA_a {g : GG} {w : Wd} {f i : Nat} {u : Nat → Int32} (ht : ktag f = 10 ∨ ktag f = 11 ∨ ktag f = 12) {f' i' : Nat} (h : ¬ (f' = f ∧ i' = i)) : cellOf g (sA w f i u) f' i' = cellOf g w f' i' := by
  refine cellOf_congr (fun k' hk' => fv_sA fun h1 q => ?_) (fun ha => ?_) (fun _ => rfl) (fun _ => rfl)
  · rw [← q.1, ktag_f hk'] at ht
    omega
  · funext j
    simp only [sA]
    rw [if_neg (fun q => h q)]
theorem cell_sJ_a {g : GG} {w : Wd} {f i n : Nat} {x : Int64} (ht : ktag f = 13 ∨ ktag f = 16) {f' i' : Nat} (h : ¬ (f' = f ∧ i' = i)) : cellOf g (sJ w f i n x) f' i' = cellOf g w f' i' := by
  refine cellOf_congr (fun k' hk' => fv_sJ_ne fun h1 q => ?_) (fun _ => rfl) (fun ha => ?_) (fun _ => rfl)
  · rw [← q.1, ktag_f hk'] at ht
    omega
  · funext j
    simp only [sJ]
    rw [if_neg (fun q => h ⟨q.1, q.2.1⟩)]
theorem cell_sE_a {g : GG} {w : Wd} {f i n : Nat} {x : Option Nat} (ht : ktag f = 15) {f' i' : Nat} (h : ¬ (f' = f ∧ i' = i)) : cellOf g (sE w f i n x) f' i' = cellOf g w f' i' := by
  refine cellOf_congr (fun k' hk' => fv_sE_ne fun h1 q => ?_) (fun _ => rfl) (fun _ => rfl) (fun ha => ?_)
  · rw [← q.1, ktag_f hk'] at ht
    omega
  · funext j
    simp only [sE]
    rw [if_neg (fun q => h ⟨q.1, q.2.1⟩)]
/-- the cell that is written -/
theorem cell_obj {g : GG} {w : Wd} {c i : Nat} (hc : ktag c = 98) : cellOf g w c i = .inr (c, (List.range (NS.getD c 0)).map fun k => phys g (fv c k i w)) := by
  unfold cellOf
  simp only [hc]
theorem range_set {α : Type} {n k : Nat} {F F' : Nat → α} {v : α} (hk : k < n) (hv : F' k = v) (ho : ∀ j, j < n → j ≠ k → F' j = F j) : ((List.range n).map F).set k v = (List.range n).map F' := by
  apply List.ext_getElem?
  intro j
  by_cases hj : j = k
  · subst hj
    rw [List.getElem?_set_self (by simpa using hk)]
    simp [hk, hv]
  · rw [List.getElem?_set_ne (fun q => hj q.symm)]
    by_cases hn : j < n
    · simp [hn, ho j hn hj]
    · simp [hn]
theorem cell_set_f {g : GG} {w w' : Wd} {c k i : Nat} {v : VV} (hc : ktag c = 98) (hk : k < NS.getD c 0) (hv : fv c k i w' = v) (ho : ∀ j, j < 32 → j ≠ k → fv c j i w' = fv c j i w) : cellOf g w' c i = .inr (c, ((List.range (NS.getD c 0)).map fun k => phys g (fv c k i w)).set k (phys g v)) := by
  rw [cell_obj hc, range_set (F' := fun k => phys g (fv c k i w')) hk (by simp only [hv]) (fun j hj hn => by simp only [ho j (Nat.lt_of_lt_of_le hj (ns_lt c)) hn])]
theorem okW_sI {w : Wd} (h : okW w) (f i k : Nat) (x : Int32) : okW (sI w f i k x) := h
theorem okW_sA {w : Wd} (h : okW w) (f i : Nat) (u : Nat → Int32) : okW (sA w f i u) := h
theorem okW_sJ {w : Wd} (h : okW w) (f i k : Nat) (x : Int64) : okW (sJ w f i k x) := h
theorem okW_sE {w : Wd} (h : okW w) (f i k : Nat) (x : Option Nat) (hx : ∀ j, x = some j → j < ecnt f) : okW (sE w f i k x) := by
  intro f' i' k' j hj
  simp only [sE] at hj
  split at hj
  · rename_i q
    rw [q.1]
    exact hx j hj
  · exact h f' i' k' j hj
