/-! ===== the lines of a cave: what comes out ===== -/
/-- where one reads, and the fault (0: none) -/
abbrev St2 : Type := Nat × Nat
/-- the first of n that is x -/
def fdG {α : Type} [DecidableEq α] (g : Nat → α) (x : α) : Nat → Option Nat
  | 0 => none
  | n + 1 => match fdG g x n with
    | some p => some p
    | none => if g n = x then some n else none
def opI : Option Nat → Int32
  | none => -nI 1
  | some p => nI p
section FD
theorem fdG_congr {α β : Type} [DecidableEq α] [DecidableEq β] {g : Nat → α} {x : α} {h : Nat → β} {y : β} : ∀ n, (∀ p, p < n → (g p = x ↔ h p = y)) → fdG g x n = fdG h y n
  | 0, _ => rfl
  | n + 1, e => by
    show (match fdG g x n with
      | some p => some p
      | none => if g n = x then some n else none) = (match fdG h y n with
      | some p => some p
      | none => if h n = y then some n else none)
    rw [fdG_congr n fun p hp => e p (by omega)]
    cases fdG h y n with
    | some p => rfl
    | none =>
      show (if g n = x then some n else none) = if h n = y then some n else none
      by_cases q : g n = x
      · rw [if_pos q, if_pos ((e n (Nat.lt_succ_self n)).mp q)]
      · rw [if_neg q, if_neg (fun r => q ((e n (Nat.lt_succ_self n)).mpr r))]
theorem fdG_s {α : Type} [DecidableEq α] {g : Nat → α} {x : α} : ∀ n p, fdG g x n = some p → p < n ∧ g p = x
  | 0, p, h => nomatch h
  | n + 1, p, h => by
    have h : (match fdG g x n with
      | some p => some p
      | none => if g n = x then some n else none) = some p := h
    cases hq : fdG g x n with
    | some r =>
      rw [hq] at h
      have h : r = p := Option.some.inj h
      subst h
      obtain ⟨a, b⟩ := fdG_s n r hq
      exact ⟨by omega, b⟩
    | none =>
      rw [hq] at h
      have h : (if g n = x then some n else none) = some p := h
      by_cases q : g n = x
      · rw [if_pos q] at h
        have h := Option.some.inj h
        subst h
        exact ⟨Nat.lt_succ_self n, q⟩
      · rw [if_neg q] at h; cases h
theorem fdG_n {α : Type} [DecidableEq α] {g : Nat → α} {x : α} : ∀ n, (fdG g x n = none ↔ ∀ p, p < n → ¬ g p = x)
  | 0 => ⟨fun _ p hp => absurd hp (Nat.not_lt_zero p), fun _ => rfl⟩
  | n + 1 => by
    show (match fdG g x n with
      | some p => some p
      | none => if g n = x then some n else none) = none ↔ _
    have ih := fdG_n (g := g) (x := x) n
    cases hq : fdG g x n with
    | some r =>
      obtain ⟨a, b⟩ := fdG_s n r hq
      exact ⟨(fun h => nomatch h), fun h => absurd b (h r (by omega))⟩
    | none =>
      rw [hq] at ih
      show (if g n = x then some n else none) = none ↔ _
      by_cases q : g n = x
      · rw [if_pos q]
        exact ⟨(fun h => nomatch h), fun h => absurd q (h n (Nat.lt_succ_self n))⟩
      · rw [if_neg q]
        refine ⟨fun _ p hp => ?_, fun _ => rfl⟩
        by_cases e : p = n
        · rw [e]; exact q
        · exact ih.mp rfl p (by omega)
end FD
section PURE
variable (t : Nat) (T : Nat → Nat)
def ckT (c : Nat → Nat) (q : St2) : St2 := if q.2 = 0 then (if c q.1 = 0 then (q.1 + 1, 0) else (q.1, c q.1 + 16 * stT t T q.1)) else q
/-- may be a name -/
def nmB (i : Nat) : Bool := decide (kdI t T i = 1) && (match wdI t T i with
  | none => true
  | some j => decide (24 ≤ j))
def cWd (j i : Nat) : Nat := if wdI t T i = some j then 0 else 1
def cSg (x i : Nat) : Nat := if kdI t T i = x then 0 else 1
def cNum (lo hi i : Nat) : Nat := if ¬ kdI t T i = 2 then 1 else if nvI t T i < lo ∨ hi < nvI t T i then 4 else 0
end PURE
theorem ckT_e {t : Nat} {T : Nat → Nat} {c : Nat → Nat} {q : St2} (h : ¬ q.2 = 0) : ckT t T c q = q := by
  unfold ckT; rw [if_neg h]
theorem ckT_ok {t : Nat} {T : Nat → Nat} {c : Nat → Nat} {q : St2} (h : (ckT t T c q).2 = 0) : q.2 = 0 ∧ c q.1 = 0 ∧ ckT t T c q = (q.1 + 1, 0) := by
  unfold ckT at h ⊢
  by_cases h1 : q.2 = 0
  · rw [if_pos h1] at h ⊢
    by_cases h2 : c q.1 = 0
    · rw [if_pos h2]; exact ⟨h1, h2, rfl⟩
    · rw [if_neg h2] at h
      exfalso
      have h : c q.1 + 16 * stT t T q.1 = 0 := h
      omega
  · rw [if_neg h1] at h; exact absurd h h1
theorem ckT_0 {t : Nat} {T : Nat → Nat} {c : Nat → Nat} {i : Nat} (h : c i = 0) : ckT t T c (i, 0) = (i + 1, 0) := by
  unfold ckT; rw [if_pos rfl, if_pos h]
theorem ckT_f {t : Nat} {T : Nat → Nat} {c : Nat → Nat} {i : Nat} (h : ¬ c i = 0) : ckT t T c (i, 0) = (i, c i + 16 * stT t T i) := by
  unfold ckT; rw [if_pos rfl, if_neg h]
/-- the data that are read: the cave, the names of places, of divers, whether the law is told, the law; the row of names, and of what they name -/
def DSt : Type := VW × (Nat → List Nat) × (Nat → List Nat) × Bool × List Int32 × (Nat → List Nat) × (Nat → Nat)
def DSt.V (s : DSt) : VW := s.1
def DSt.P (s : DSt) : Nat → List Nat := s.2.1
def DSt.D (s : DSt) : Nat → List Nat := s.2.2.1
def DSt.L (s : DSt) : Bool := s.2.2.2.1
def DSt.C (s : DSt) : List Int32 := s.2.2.2.2.1
def DSt.N (s : DSt) : Nat → List Nat := s.2.2.2.2.2.1
def DSt.O (s : DSt) : Nat → Nat := s.2.2.2.2.2.2
def pnD (s : DSt) (l : List Nat) : Option Nat := fdG s.P l (nP s.V)
def dnD (s : DSt) (l : List Nat) : Option Nat := fdG s.D l (nD s.V)
def tnD (s : DSt) (l : List Nat) : Option Nat := (fdG s.N l (nP s.V + nD s.V)).map s.O
/-- the row of names says the same -/
def NMok (s : DSt) : Prop := (∀ l, tnD s l = match pnD s l with
  | some p => some p
  | none => (dnD s l).map (20 + ·)) ∧ (∀ l p, pnD s l = some p → dnD s l = none) ∧ (∀ p, p < nP s.V → okLt (s.P p) ∧ (s.P p).length ≤ 8) ∧ (∀ d, d < nD s.V → okLt (s.D d) ∧ (s.D d).length ≤ 8) ∧ (∀ k, k < nP s.V + nD s.V → okLt (s.N k) ∧ (s.N k).length ≤ 8 ∧ s.O k < 30)
def upN {α : Type} (f : Nat → α) (k : Nat) (x : α) : Nat → α := fun j => if j = k then x else f j
def addP (s : DSt) (l : List Nat) (v : Nat) : DSt := (fun a k => if a = 0 ∧ k = 0 then nP s.V + 1 else if a = 1 ∧ k = nP s.V then v else s.V a k, upN s.P (nP s.V) l, s.D, s.L, s.C, upN s.N (nP s.V + nD s.V) l, upN s.O (nP s.V + nD s.V) (nP s.V))
def addD (s : DSt) (l : List Nat) (k0 v : Nat) : DSt := (fun a k => if a = 0 ∧ k = 2 then nD s.V + 1 else if a = 6 ∧ k = nD s.V then k0 else if a = 7 ∧ k = nD s.V then v else s.V a k, s.P, upN s.D (nD s.V) l, s.L, s.C, upN s.N (nP s.V + nD s.V) l, upN s.O (nP s.V + nD s.V) (20 + nD s.V))
def addW (s : DSt) (a0 b0 x v : Nat) : DSt := (fun a k => if a = 0 ∧ k = 1 then nW s.V + 1 else if a = 2 ∧ k = nW s.V then a0 else if a = 3 ∧ k = nW s.V then b0 else if a = 4 ∧ k = nW s.V then v else if a = 5 ∧ k = nW s.V then x else s.V a k, s.P, s.D, s.L, s.C, s.N, s.O)
def setR (s : DSt) (n : Nat) (R : Nat → Nat) : DSt := (fun a k => if a = 0 ∧ k = 3 then n else if a = 8 then R k else s.V a k, s.P, s.D, s.L, s.C, s.N, s.O)
def setL (s : DSt) (C : List Int32) : DSt := (s.V, s.P, s.D, true, C, s.N, s.O)
section PURE2
variable (t : Nat) (T : Nat → Nat)
def cNew (s : DSt) (i : Nat) : Nat := if nmB t T i = false then 1 else if (pnD s (wlI t T i)).isSome || (dnD s (wlI t T i)).isSome then 3 else 0
/-- a place that is told, but not one that a is, or is joined to -/
def joi (V : VW) (a p : Nat) : Bool := decide (p = a) || (List.range (nW V)).any fun k => (decide (V 2 k = a) && decide (V 3 k = p)) || (decide (V 3 k = a) && decide (V 2 k = p))
def joT (V : VW) (o : Option Nat) (p : Nat) : Nat := match o with
  | none => 0
  | some a => if joi V a p then 3 else 0
def tldN (o : Option Nat) (f : Nat → Nat) : Nat := match o with
  | none => 2
  | some p => f p
def cTold (s : DSt) (o : Option Nat) (i : Nat) : Nat := if nmB t T i = false then 1 else tldN (pnD s (wlI t T i)) (joT s.V o)
def kdOf (o : Option Nat) : Option Nat := match o with
  | none => none
  | some j => if 17 ≤ j ∧ j < 21 then some (j - 17) else none
def cKnd (i : Nat) : Nat := if (kdOf (wdI t T i)).isSome then 0 else 1
def cWth (i : Nat) : Nat := if wdI t T i = some 8 ∨ wdI t T i = some 9 then 0 else 1
def lnP (s : DSt) (q : St2) : DSt × St2 :=
  let q' := ckT t T (cNum t T 0 9) (ckT t T (cWd t T 1) (ckT t T (cNew t T s) (ckT t T (fun _ => if nP s.V = 7 then 5 else 0) q)))
  (if q'.2 = 0 then addP s (wlI t T (q.1 + 1)) (nvI t T (q.1 + 3)) else s, q')
def plA (s : DSt) (i : Nat) : Nat := (pnD s (wlI t T i)).getD 0
def lnW (s : DSt) (q : St2) : DSt × St2 :=
  let q' := ckT t T (cNum t T 1 9) (ckT t T (cWd t T 3) (ckT t T (cWth t T) (ckT t T (cTold t T s (some (plA t T s (q.1 + 1)))) (ckT t T (cTold t T s none) (ckT t T (fun _ => if nW s.V = 8 then 5 else 0) q)))))
  (if q'.2 = 0 then addW s (plA t T s (q.1 + 1)) (plA t T s (q.1 + 2)) (if wdI t T (q.1 + 3) = some 8 then 1 else 0) (nvI t T (q.1 + 5)) else s, q')
def lnD (s : DSt) (q : St2) : DSt × St2 :=
  let q' := ckT t T (cNum t T 1 900) (ckT t T (cWd t T 5) (ckT t T (cKnd t T) (ckT t T (cNew t T s) (ckT t T (fun _ => if nD s.V = 4 then 5 else 0) q))))
  (if q'.2 = 0 then addD s (wlI t T (q.1 + 1)) ((kdOf (wdI t T (q.1 + 2))).getD 0) (nvI t T (q.1 + 4)) else s, q')
def rnF : Nat → Nat → (Nat → Nat) → St2 → Nat × (Nat → Nat) × St2
  | 0, n, R, q => if q.2 = 0 ∧ kdI t T q.1 = 2 then (n, R, (q.1, (if 9 < nvI t T q.1 then 4 else 5) + 16 * stT t T q.1)) else (n, R, q)
  | m + 1, n, R, q => if q.2 = 0 ∧ (n = 0 ∨ kdI t T q.1 = 2) then rnF m (n + 1) (upN R n (nvI t T q.1)) (ckT t T (cNum t T 0 9) q) else (n, R, q)
def lnR (s : DSt) (q : St2) : DSt × St2 :=
  let q1 := ckT t T (fun _ => if nR s.V = 0 then 0 else 3) q
  let r := rnF t T 12 0 (s.V 8) q1
  (if q1.2 = 0 then (if r.2.2.2 = 0 then setR s r.1 r.2.1 else s, r.2.2) else (s, q1))
def lnL (s : DSt) (q : St2) : DSt × St2 :=
  let q1 := ckT t T (fun _ => if s.L then 3 else 0) q
  let r := testsF t T (partF t T 5) (q1.1, 0, [])
  (if q1.2 = 0 then (if r.e = 0 then setL s r.C else s, (r.i, r.e)) else (s, q1))
def lineF (s : DSt) (q : St2) : DSt × St2 := if wdI t T q.1 = some 0 then lnP t T s q else if wdI t T q.1 = some 2 then lnW t T s q else if wdI t T q.1 = some 4 then lnD t T s q else if wdI t T q.1 = some 6 then lnR t T s q else if wdI t T q.1 = some 7 then lnL t T s q else (s, (q.1, 1 + 16 * stT t T q.1))
def linesF : Nat → DSt → St2 → DSt × St2
  | 0, s, q => (s, q)
  | n + 1, s, q => if q.2 = 0 ∧ ¬ kdI t T q.1 = 0 then linesF n (lineF t T s q).1 (ckT t T (cSg t T 59) (lineF t T s q).2) else (s, q)
end PURE2
