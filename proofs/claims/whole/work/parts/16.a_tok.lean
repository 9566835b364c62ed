/-! ===== tokens ===== -/
def isLt (c : Nat) : Bool := decide (97 ≤ c) && decide (c ≤ 122)
def isFg (c : Nat) : Bool := decide (48 ≤ c) && decide (c ≤ 57)
def isSp (c : Nat) : Bool := decide (c = 10) || decide (c = 32)
def isSg (c : Nat) : Bool := decide (c = 40) || decide (c = 41) || decide (c = 59) || decide (c = 61) || decide (c = 60) || decide (c = 43) || decide (c = 45) || decide (c = 42)
theorem isLt_t {c : Nat} : isLt c = true ↔ 97 ≤ c ∧ c ≤ 122 := by
  unfold isLt; rw [Bool.and_eq_true, decide_eq_true_iff, decide_eq_true_iff]
theorem isFg_t {c : Nat} : isFg c = true ↔ 48 ≤ c ∧ c ≤ 57 := by
  unfold isFg; rw [Bool.and_eq_true, decide_eq_true_iff, decide_eq_true_iff]
theorem isSp_t {c : Nat} : isSp c = true ↔ c = 10 ∨ c = 32 := by
  unfold isSp; rw [Bool.or_eq_true, decide_eq_true_iff, decide_eq_true_iff]
theorem isSg_t {c : Nat} : isSg c = true ↔ c = 40 ∨ c = 41 ∨ c = 59 ∨ c = 61 ∨ c = 60 ∨ c = 43 ∨ c = 45 ∨ c = 42 := by
  unfold isSg; simp only [Bool.or_eq_true, decide_eq_true_iff, or_assoc]
/-- where a run of signs ends -/
def ruF (t : Nat) (T : Nat → Nat) (P : Nat → Bool) : Nat → Nat → Nat
  | 0, p => p
  | n + 1, p => if p < t ∧ P (T p) = true then ruF t T P n (p + 1) else p
def ru (t : Nat) (T : Nat → Nat) (P : Nat → Bool) (p : Nat) : Nat := ruF t T P (t - p) p
section RU
variable {t : Nat} {T : Nat → Nat} {P : Nat → Bool}
theorem ruF_le : ∀ n p, p ≤ ruF t T P n p
  | 0, p => Nat.le_refl p
  | n + 1, p => by
    show p ≤ if p < t ∧ P (T p) = true then ruF t T P n (p + 1) else p
    by_cases h : p < t ∧ P (T p) = true
    · rw [if_pos h]; exact Nat.le_trans (Nat.le_succ p) (ruF_le n (p + 1))
    · rw [if_neg h]; exact Nat.le_refl p
theorem ruF_max : ∀ n p, p ≤ t → ruF t T P n p ≤ t
  | 0, p, h => h
  | n + 1, p, h0 => by
    show (if p < t ∧ P (T p) = true then ruF t T P n (p + 1) else p) ≤ t
    by_cases h : p < t ∧ P (T p) = true
    · rw [if_pos h]; exact ruF_max n (p + 1) h.1
    · rw [if_neg h]; exact h0
theorem ruF_in : ∀ n p k, p ≤ k → k < ruF t T P n p → k < t ∧ P (T k) = true
  | 0, p, k, h1, h2 => absurd h2 (by show ¬ k < p; omega)
  | n + 1, p, k, h1, h2 => by
    have h2 : k < if p < t ∧ P (T p) = true then ruF t T P n (p + 1) else p := h2
    by_cases h : p < t ∧ P (T p) = true
    · rw [if_pos h] at h2
      by_cases e : k = p
      · rw [e]; exact h
      · exact ruF_in n (p + 1) k (by omega) h2
    · rw [if_neg h] at h2; omega
theorem ruF_end : ∀ n p, t - p ≤ n → ¬ (ruF t T P n p < t ∧ P (T (ruF t T P n p)) = true)
  | 0, p, h => fun q => by
    have q1 : p < t := q.1
    omega
  | n + 1, p, h => by
    show ¬ ((if p < t ∧ P (T p) = true then ruF t T P n (p + 1) else p) < t ∧ P (T (if p < t ∧ P (T p) = true then ruF t T P n (p + 1) else p)) = true)
    by_cases h1 : p < t ∧ P (T p) = true
    · rw [if_pos h1]; exact ruF_end n (p + 1) (by omega)
    · rw [if_neg h1]; exact h1
theorem ru_le {p : Nat} : p ≤ ru t T P p := ruF_le _ p
theorem ru_max {p : Nat} (h : p ≤ t) : ru t T P p ≤ t := ruF_max _ p h
theorem ru_in {p k : Nat} (h1 : p ≤ k) (h2 : k < ru t T P p) : k < t ∧ P (T k) = true := ruF_in _ p k h1 h2
theorem ru_end {p : Nat} : ¬ (ru t T P p < t ∧ P (T (ru t T P p)) = true) := ruF_end _ p (Nat.le_refl _)
theorem ru_lt {p : Nat} (h : p < t) (h2 : P (T p) = true) : p < ru t T P p := by
  have h1 := ru_le (t := t) (T := T) (P := P) (p := p)
  rcases Nat.lt_or_ge p (ru t T P p) with h3 | h3
  · exact h3
  · exfalso
    have e : ru t T P p = p := by omega
    have := ru_end (t := t) (T := T) (P := P) (p := p)
    rw [e] at this
    exact this ⟨h, h2⟩
end RU
section TOK
variable (t : Nat) (T : Nat → Nat)
def enT (s : Nat) : Nat := if t ≤ s then s else if isLt (T s) = true then ru t T isLt s else if isFg (T s) = true then ru t T isFg s else s + 1
def stT : Nat → Nat
  | 0 => ru t T isSp 0
  | i + 1 => ru t T isSp (enT t T (stT i))
/-- what stands there: 0 the end, 1 a word, 2 a number, 3 an odd one, else the sign -/
def kdT (s : Nat) : Nat := if t ≤ s then 0 else if isLt (T s) = true then (if 8 < enT t T s - s then 3 else 1) else if isFg (T s) = true then (if 4 < enT t T s - s then 3 else 2) else if isSg (T s) = true then T s else 3
/-- the letters, the last one first -/
def lsT (s : Nat) : Nat → List Nat
  | 0 => []
  | n + 1 => (T (s + n) - 96) :: lsT s n
def nvT (s : Nat) : Nat → Nat
  | 0 => 0
  | n + 1 => 10 * nvT s n + (T (s + n) - 48)
end TOK
def cd (b : Nat) : List Nat → Nat
  | [] => 0
  | x :: l => b * cd b l + x
def okLt (l : List Nat) : Prop := ∀ x, x ∈ l → 1 ≤ x ∧ x ≤ 26
theorem okLt_c {x : Nat} {l : List Nat} (h : okLt (x :: l)) : 1 ≤ x ∧ x ≤ 26 ∧ okLt l := ⟨(h x List.mem_cons_self).1, (h x List.mem_cons_self).2, fun y hy => h y (List.mem_cons_of_mem x hy)⟩
theorem cd_inj {b : Nat} (hb : 26 < b) : ∀ l l', okLt l → okLt l' → cd b l = cd b l' → l = l'
  | [], [], _, _, _ => rfl
  | [], y :: l', _, h', e => by
    have := (okLt_c h').1
    have e : 0 = b * cd b l' + y := e
    omega
  | x :: l, [], h, _, e => by
    have := (okLt_c h).1
    have e : b * cd b l + x = 0 := e
    omega
  | x :: l, y :: l', h, h', e => by
    obtain ⟨h1, h2, h3⟩ := okLt_c h
    obtain ⟨h4, h5, h6⟩ := okLt_c h'
    have e : b * cd b l + x = b * cd b l' + y := e
    have ex : (b * cd b l + x) % b = x := by rw [Nat.mul_add_mod, Nat.mod_eq_of_lt (by omega)]
    have ey : (b * cd b l' + y) % b = y := by rw [Nat.mul_add_mod, Nat.mod_eq_of_lt (by omega)]
    have exy : x = y := by rw [← ex, ← ey, e]
    subst exy
    have em : b * cd b l = b * cd b l' := by omega
    have ec : cd b l = cd b l' := Nat.eq_of_mul_eq_mul_left (by omega) em
    rw [cd_inj hb l l' h3 h6 ec]
theorem cd_lt {b : Nat} (hb : 26 < b) : ∀ l, okLt l → cd b l < b ^ l.length
  | [], _ => by show 0 < b ^ 0; rw [Nat.pow_zero]; omega
  | x :: l, h => by
    obtain ⟨h1, h2, h3⟩ := okLt_c h
    have := cd_lt hb l h3
    show b * cd b l + x < b ^ (l.length + 1)
    rw [Nat.pow_succ]
    have h4 : cd b l + 1 ≤ b ^ l.length := this
    have h5 : b * (cd b l + 1) ≤ b * b ^ l.length := Nat.mul_le_mul_left b h4
    rw [Nat.mul_add, Nat.mul_one] at h5
    rw [Nat.mul_comm (b ^ l.length) b]
    omega
theorem cd_8 {b : Nat} (hb : 26 < b) (hb2 : b ≤ 37) {l : List Nat} (h : okLt l) (h8 : l.length ≤ 8) : cd b l < 2 ^ 63 := by
  have h1 := cd_lt hb l h
  have h2 : b ^ l.length ≤ b ^ 8 := Nat.pow_le_pow_right (by omega) h8
  have h3 : b ^ 8 ≤ 37 ^ 8 := Nat.pow_le_pow_left hb2 8
  have h4 : (37 : Nat) ^ 8 < 2 ^ 63 := by decide
  omega
theorem cd_J {b : Nat} (hb : 26 < b) (hb2 : b ≤ 37) {l l' : List Nat} (h : okLt l) (h8 : l.length ≤ 8) (h' : okLt l') (h8' : l'.length ≤ 8) : (lN (cd b l) = lN (cd b l')) = (l = l') := by
  refine propext ⟨fun e => ?_, fun e => by rw [e]⟩
  exact cd_inj hb l l' h h' ((pk_lEQ (cd_8 hb hb2 h h8) (cd_8 hb hb2 h' h8')).mp e)
def WLs : List (List Nat) := [[5, 3, 1, 12, 16], [16, 5, 5, 4], [25, 1, 23], [7, 14, 15, 12], [18, 5, 22, 9, 4], [19, 1, 7], [14, 9, 1, 18], [8, 20, 1, 5, 18, 2], [23, 15, 18, 18, 1, 14], [5, 4, 9, 23], [13, 9, 23, 19], [25, 1, 12], [5, 7, 1, 20, 19], [5, 11, 1, 20], [5, 18, 1, 8, 19], [5, 14, 15, 20, 19], [18, 21, 15, 8], [14, 9, 1, 12, 16], [4, 12, 15], [4, 9, 1, 18, 6, 1], [13, 12, 1, 3], [20, 15, 14], [4, 14, 1], [18, 15], [8, 20, 16, 5, 4], [5, 20, 9, 8, 23], [20, 12, 9, 19], [19, 18, 21, 15, 8]]
def WL (j : Nat) : List Nat := WLs.getD j []
theorem WL_ok : ∀ j, j < 28 → okLt (WL j) ∧ (WL j).length ≤ 8 := by unfold okLt; decide +kernel
theorem WL_inj : ∀ j, j < 28 → ∀ k, k < 28 → WL j = WL k → j = k := by decide +kernel
theorem WL_c : ∀ j, j < 28 → eCd.getD j 0 = lN (cd 32 (WL j)) := by decide +kernel
def kwF : Nat → List Nat → Option Nat
  | 0, _ => none
  | n + 1, l => if WL n = l then some n else kwF n l
def kw (l : List Nat) : Option Nat := kwF 28 l
theorem kwF_s : ∀ n l j, kwF n l = some j → j < n ∧ WL j = l
  | 0, l, j, h => nomatch h
  | n + 1, l, j, h => by
    have h : (if WL n = l then some n else kwF n l) = some j := h
    by_cases e : WL n = l
    · rw [if_pos e] at h
      have h := Option.some.inj h
      subst h
      exact ⟨Nat.lt_succ_self n, e⟩
    · rw [if_neg e] at h
      obtain ⟨h1, h2⟩ := kwF_s n l j h
      exact ⟨by omega, h2⟩
theorem kwF_n : ∀ n l, kwF n l = none → ∀ j, j < n → ¬ WL j = l
  | 0, l, h, j, hj => absurd hj (Nat.not_lt_zero j)
  | n + 1, l, h, j, hj => by
    have h : (if WL n = l then some n else kwF n l) = none := h
    by_cases e : WL n = l
    · rw [if_pos e] at h; cases h
    · rw [if_neg e] at h
      by_cases ej : j = n
      · rw [ej]; exact e
      · exact kwF_n n l h j (by omega)
theorem kw_s {l : List Nat} {j : Nat} (h : kw l = some j) : j < 28 ∧ WL j = l := kwF_s 28 l j h
theorem kw_n {l : List Nat} (h : kw l = none) : ∀ j, j < 28 → ¬ WL j = l := kwF_n 28 l h
theorem kw_eq {l : List Nat} {j : Nat} (hj : j < 28) : (kw l = some j) = (WL j = l) := by
  refine propext ⟨fun h => (kw_s h).2, fun h => ?_⟩
  cases hk : kw l with
  | none => exact absurd h (kw_n hk j hj)
  | some i =>
    obtain ⟨h1, h2⟩ := kw_s hk
    rw [WL_inj i h1 j hj (h2.trans h.symm)]
section TOK2
variable {t : Nat} {T : Nat → Nat}
theorem enT_le {s : Nat} : s ≤ enT t T s := by
  unfold enT
  split
  · exact Nat.le_refl s
  · split
    · exact ru_le
    · split
      · exact ru_le
      · omega
theorem enT_max {s : Nat} (h : s ≤ t) : enT t T s ≤ t := by
  unfold enT
  split
  · exact h
  · split
    · exact ru_max h
    · split
      · exact ru_max h
      · omega
theorem enT_lt {s : Nat} (h : s < t) : s < enT t T s := by
  unfold enT
  rw [if_neg (by omega)]
  by_cases h1 : isLt (T s) = true
  · rw [if_pos h1]; exact ru_lt h h1
  · rw [if_neg h1]
    by_cases h2 : isFg (T s) = true
    · rw [if_pos h2]; exact ru_lt h h2
    · rw [if_neg h2]; omega
theorem stT_max : ∀ i, stT t T i ≤ t
  | 0 => ru_max (Nat.zero_le t)
  | i + 1 => ru_max (enT_max (stT_max i))
theorem stT_lt {i : Nat} (h : stT t T i < t) : stT t T i < stT t T (i + 1) := Nat.lt_of_lt_of_le (enT_lt h) ru_le
theorem stT_le {i : Nat} : stT t T i ≤ stT t T (i + 1) := Nat.le_trans enT_le ru_le
/-- the number of tokens -/
theorem tok_N : ∃ N, N ≤ t ∧ stT t T N = t ∧ ∀ i, i < N → stT t T i < t := by
  have key : ∀ k, (∃ N, N ≤ k ∧ stT t T N = t ∧ ∀ i, i < N → stT t T i < t) ∨ (k ≤ stT t T k ∧ ∀ i, i ≤ k → stT t T i < t) := by
    intro k
    induction k with
    | zero =>
      rcases Nat.lt_or_ge (stT t T 0) t with h | h
      · exact Or.inr ⟨Nat.zero_le _, fun i hi => by rw [show i = 0 from by omega]; exact h⟩
      · exact Or.inl ⟨0, Nat.le_refl 0, Nat.le_antisymm (stT_max 0) h, fun i hi => absurd hi (Nat.not_lt_zero i)⟩
    | succ k ih =>
      rcases ih with ⟨N, h1, h2⟩ | ⟨h1, h2⟩
      · exact Or.inl ⟨N, by omega, h2⟩
      · have h3 := stT_lt (h2 k (Nat.le_refl k))
        rcases Nat.lt_or_ge (stT t T (k + 1)) t with h | h
        · refine Or.inr ⟨by omega, fun i hi => ?_⟩
          by_cases e : i = k + 1
          · rw [e]; exact h
          · exact h2 i (by omega)
        · exact Or.inl ⟨k + 1, Nat.le_refl _, Nat.le_antisymm (stT_max (k + 1)) h, fun i hi => h2 i (by omega)⟩
  rcases key t with h | ⟨h1, h2⟩
  · exact h
  · have := h2 t (Nat.le_refl t)
    omega
theorem lsT_len {s : Nat} : ∀ n, (lsT T s n).length = n
  | 0 => rfl
  | n + 1 => by show (lsT T s n).length + 1 = n + 1; rw [lsT_len n]
theorem lsT_ok {s : Nat} : ∀ n, (∀ k, s ≤ k → k < s + n → isLt (T k) = true) → okLt (lsT T s n)
  | 0, _ => fun x hx => nomatch hx
  | n + 1, h => fun x hx => by
    have h1 := isLt_t.mp (h (s + n) (by omega) (by omega))
    rcases List.mem_cons.mp hx with e | e
    · omega
    · exact lsT_ok n (fun k h1 h2 => h k h1 (by omega)) x e
theorem nvT_lt {s : Nat} : ∀ n, (∀ k, s ≤ k → k < s + n → isFg (T k) = true) → nvT T s n < 10 ^ n
  | 0, _ => by show 0 < 10 ^ 0; decide
  | n + 1, h => by
    have h1 := isFg_t.mp (h (s + n) (by omega) (by omega))
    have h2 := nvT_lt n (fun k h1 h2 => h k h1 (by omega))
    show 10 * nvT T s n + (T (s + n) - 48) < 10 ^ (n + 1)
    rw [Nat.pow_succ]
    omega
end TOK2
/-- by the number of the token -/
def kdI (t : Nat) (T : Nat → Nat) (i : Nat) : Nat := kdT t T (stT t T i)
def wlI (t : Nat) (T : Nat → Nat) (i : Nat) : List Nat := lsT T (stT t T i) (enT t T (stT t T i) - stT t T i)
def nvI (t : Nat) (T : Nat → Nat) (i : Nat) : Nat := nvT T (stT t T i) (enT t T (stT t T i) - stT t T i)
def wdI (t : Nat) (T : Nat → Nat) (i : Nat) : Option Nat := if kdI t T i = 1 then kw (wlI t T i) else none
