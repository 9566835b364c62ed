/-! ===== the abstract cave and state =====
V 0 0..3: places, ways, divers, rains; V 1 depth; V 2, 3 ends; V 4 length; V 5 narrow; V 6 kind; V 7 tank; V 8 rain.
S 0..3 (at 0): hour, breathed, drowned, thread; S 4 at, 5 gas, 6 under, 7 silt, 8 staged. -/
abbrev VW : Type := Nat → Nat → Nat
def nP (V : VW) : Nat := V 0 0
def nW (V : VW) : Nat := V 0 1
def nD (V : VW) : Nat := V 0 2
def nR (V : VW) : Nat := V 0 3
def OKV (V : VW) : Prop := nP V ≤ 7 ∧ nW V ≤ 8 ∧ nD V ≤ 4 ∧ nR V ≤ 12 ∧ (∀ p, V 1 p ≤ 9) ∧ (∀ k, k < nW V → V 2 k < nP V ∧ V 3 k < nP V) ∧ (∀ k, V 4 k ≤ 9) ∧ (∀ k, V 5 k ≤ 1) ∧ (∀ d, V 6 d ≤ 3) ∧ (∀ d, V 7 d ≤ 900) ∧ (∀ r, V 8 r ≤ 9) ∧ (∀ k, k < nW V → 1 ≤ V 4 k)
def OKS (V S : VW) : Prop := S 0 0 ≤ 1000 ∧ S 2 0 < 2 ^ nD V ∧ S 3 0 < 2 ^ nW V ∧ (∀ d, S 4 d < nP V ∨ S 4 d = 0) ∧ (∀ d, S 5 d ≤ 999) ∧ (∀ k, S 7 k ≤ 9) ∧ (∀ p, S 8 p ≤ 999) ∧ (∀ d, nD V ≤ d → S 5 d = 0) ∧ (∀ k, nW V ≤ k → S 7 k = 0) ∧ (∀ p, nP V ≤ p → S 8 p = 0)
/-- where one is: -1 without places -/
def atI (V : VW) (p : Nat) : Int32 := if nP V = 0 then -nI 1 else nI p
def rain (V : VW) (h : Nat) : Nat := if nR V = 0 then 0 else V 8 (h % nR V)
def isB (V S : VW) (k : Nat) : Bool := decide (6 ≤ S 7 k + rain V (S 0 0))
def thr (S : VW) (k : Nat) : Bool := (S 3 0).testBit k
def drw (S : VW) (d : Nat) : Bool := (S 2 0).testBit d
def opn (V S : VW) (k : Nat) : Bool := thr S k || !isB V S k
/-- the class's cave c -/
def RC (w : Wd) (c : Nat) (V : VW) (C : List Int32) : Prop :=
  w.1 32 c 0 = nI (nP V) ∧ w.1 35 c 0 = nI (nW V) ∧ w.1 40 c 0 = nI (nD V) ∧ w.1 44 c 0 = nI (nR V) ∧ (∀ p, p < nP V → w.1 34 c p = nI (V 1 p)) ∧
  (∀ k, k < nW V → w.1 36 c k = nI (V 2 k)) ∧ (∀ k, k < nW V → w.1 37 c k = nI (V 3 k)) ∧ (∀ k, k < nW V → w.1 38 c k = nI (V 4 k)) ∧ (∀ k, k < nW V → w.1 39 c k = nI (V 5 k)) ∧
  (∀ d, d < nD V → w.1 42 c d = nI (V 6 d)) ∧ (∀ d, d < nD V → w.1 43 c d = nI (V 7 d)) ∧ (∀ r, r < nR V → w.1 45 c r = nI (V 8 r)) ∧
  (0 < nD V → w.1 130 c 0 = nI C.length) ∧ (∀ i, i < C.length ∧ 0 < nD V → w.1 128 c i = C.getD i 0)
/-- the class's state i -/
def RS (w : Wd) (i : Nat) (V S : VW) : Prop :=
  w.1 256 i 0 = nI (S 0 0) ∧ w.1 257 i 0 = nI (S 1 0) ∧ w.1 258 i 0 = nI (S 2 0) ∧ w.1 259 i 0 = nI (S 3 0) ∧
  (∀ d, d < 4 ∧ d < nD V → w.1 260 i d = atI V (S 4 d)) ∧ (∀ d, d < 4 → w.1 261 i d = nI (S 5 d)) ∧ (∀ d, d < 4 → w.1 262 i d = nI (S 6 d)) ∧ (∀ k, k < 8 → w.1 263 i k = nI (S 7 k)) ∧ (∀ p, p < 7 → w.1 264 i p = nI (S 8 p))
/-- the reference's cave -/
def RMC (w : Wd) (V : VW) : Prop :=
  w.1 362 0 0 = nI (nP V) ∧ w.1 362 0 1 = nI (nW V) ∧ w.1 362 0 2 = nI (nD V) ∧ w.1 362 0 3 = nI (if nR V = 0 then 1 else nR V) ∧ (∀ p, p < nP V → w.1 362 0 (5 + p) = nI (V 1 p)) ∧
  (∀ k, k < nW V → w.1 362 0 (12 + 4 * k) = nI (V 2 k)) ∧ (∀ k, k < nW V → w.1 362 0 (12 + 4 * k + 1) = nI (V 3 k)) ∧ (∀ k, k < nW V → w.1 362 0 (12 + 4 * k + 2) = nI (V 4 k)) ∧ (∀ k, k < nW V → w.1 362 0 (12 + 4 * k + 3) = nI (V 5 k)) ∧
  (∀ d, d < nD V → w.1 362 0 (44 + 2 * d) = nI (V 6 d)) ∧ (∀ d, d < nD V → w.1 362 0 (44 + 2 * d + 1) = nI (V 7 d)) ∧ (∀ r, r < (if nR V = 0 then 1 else nR V) → w.1 362 0 (52 + r) = nI (if nR V = 0 then 0 else V 8 r))
/-- the reference's state at b -/
def RMS (w : Wd) (b : Nat) (V S : VW) : Prop :=
  w.1 376 0 (b + 0) = nI (S 0 0) ∧ w.1 376 0 (b + 3) = nI (S 1 0) ∧ w.1 376 0 (b + 2) = nI (S 2 0) ∧ w.1 376 0 (b + 1) = nI (S 3 0) ∧
  (∀ d, d < nD V → w.1 376 0 (b + 19 + d) = atI V (S 4 d)) ∧ (∀ d, d < 4 → w.1 376 0 (b + 23 + d) = nI (S 5 d)) ∧ (∀ d, d < 4 → w.1 376 0 (b + 27 + d) = nI (S 6 d)) ∧ (∀ k, k < 8 → w.1 376 0 (b + 4 + k) = nI (S 7 k)) ∧ (∀ p, p < 7 → w.1 376 0 (b + 12 + p) = nI (S 8 p))
section ACC
variable {V S : VW} {w w' : Wd} {c i : Nat} {C : List Int32}
theorem OKV.P (h : OKV V) : nP V ≤ 7 := h.1
theorem OKV.W (h : OKV V) : nW V ≤ 8 := h.2.1
theorem OKV.D (h : OKV V) : nD V ≤ 4 := h.2.2.1
theorem OKV.R (h : OKV V) : nR V ≤ 12 := h.2.2.2.1
theorem OKV.dep (h : OKV V) (p : Nat) : V 1 p ≤ 9 := h.2.2.2.2.1 p
theorem OKV.e1 (h : OKV V) {k : Nat} (hk : k < nW V) : V 2 k < nP V := (h.2.2.2.2.2.1 k hk).1
theorem OKV.e2 (h : OKV V) {k : Nat} (hk : k < nW V) : V 3 k < nP V := (h.2.2.2.2.2.1 k hk).2
theorem OKV.len (h : OKV V) (k : Nat) : V 4 k ≤ 9 := h.2.2.2.2.2.2.1 k
theorem OKV.nar (h : OKV V) (k : Nat) : V 5 k ≤ 1 := h.2.2.2.2.2.2.2.1 k
theorem OKV.kind (h : OKV V) (k : Nat) : V 6 k ≤ 3 := h.2.2.2.2.2.2.2.2.1 k
theorem OKV.tank (h : OKV V) (k : Nat) : V 7 k ≤ 900 := h.2.2.2.2.2.2.2.2.2.1 k
theorem OKV.rn (h : OKV V) (k : Nat) : V 8 k ≤ 9 := h.2.2.2.2.2.2.2.2.2.2.1 k
theorem OKV.len1 (h : OKV V) {k : Nat} (hk : k < nW V) : 1 ≤ V 4 k := h.2.2.2.2.2.2.2.2.2.2.2 k hk
theorem OKV.rnb (h : OKV V) (t : Nat) : rain V t ≤ 9 := by
  unfold rain
  split
  · omega
  · exact h.rn _
theorem OKS.hour (h : OKS V S) : S 0 0 ≤ 1000 := h.1
theorem OKS.dr (h : OKS V S) : S 2 0 < 2 ^ nD V := h.2.1
theorem OKS.th (h : OKS V S) : S 3 0 < 2 ^ nW V := h.2.2.1
theorem OKS.at (h : OKS V S) (d : Nat) : S 4 d < nP V ∨ S 4 d = 0 := h.2.2.2.1 d
theorem OKS.gas (h : OKS V S) (d : Nat) : S 5 d ≤ 999 := h.2.2.2.2.1 d
theorem OKS.silt (h : OKS V S) (k : Nat) : S 7 k ≤ 9 := h.2.2.2.2.2.1 k
theorem OKS.stg (h : OKS V S) (p : Nat) : S 8 p ≤ 999 := h.2.2.2.2.2.2.1 p
theorem pow_le {a b : Nat} (h : a ≤ b) : 2 ^ a ≤ 2 ^ b := Nat.pow_le_pow_right (by decide) h
theorem OKS.dr31 (hS : OKS V S) (hV : OKV V) : S 2 0 < 16 := Nat.lt_of_lt_of_le hS.dr (pow_le hV.D)
theorem OKS.th31 (hS : OKS V S) (hV : OKV V) : S 3 0 < 256 := Nat.lt_of_lt_of_le hS.th (pow_le hV.W)
theorem RC.P (h : RC w c V C) : w.1 32 c 0 = nI (nP V) := h.1
theorem RC.W (h : RC w c V C) : w.1 35 c 0 = nI (nW V) := h.2.1
theorem RC.D (h : RC w c V C) : w.1 40 c 0 = nI (nD V) := h.2.2.1
theorem RC.R (h : RC w c V C) : w.1 44 c 0 = nI (nR V) := h.2.2.2.1
theorem RC.dep (h : RC w c V C) {k : Nat} (hk : k < nP V) : w.1 34 c k = nI (V 1 k) := h.2.2.2.2.1 k hk
theorem RC.e1 (h : RC w c V C) {k : Nat} (hk : k < nW V) : w.1 36 c k = nI (V 2 k) := h.2.2.2.2.2.1 k hk
theorem RC.e2 (h : RC w c V C) {k : Nat} (hk : k < nW V) : w.1 37 c k = nI (V 3 k) := h.2.2.2.2.2.2.1 k hk
theorem RC.len (h : RC w c V C) {k : Nat} (hk : k < nW V) : w.1 38 c k = nI (V 4 k) := h.2.2.2.2.2.2.2.1 k hk
theorem RC.nar (h : RC w c V C) {k : Nat} (hk : k < nW V) : w.1 39 c k = nI (V 5 k) := h.2.2.2.2.2.2.2.2.1 k hk
theorem RC.kind (h : RC w c V C) {k : Nat} (hk : k < nD V) : w.1 42 c k = nI (V 6 k) := h.2.2.2.2.2.2.2.2.2.1 k hk
theorem RC.tank (h : RC w c V C) {k : Nat} (hk : k < nD V) : w.1 43 c k = nI (V 7 k) := h.2.2.2.2.2.2.2.2.2.2.1 k hk
theorem RC.rn (h : RC w c V C) {k : Nat} (hk : k < nR V) : w.1 45 c k = nI (V 8 k) := h.2.2.2.2.2.2.2.2.2.2.2.1 k hk
theorem RC.cl (h : RC w c V C) (hd : 0 < nD V) : w.1 130 c 0 = nI C.length := h.2.2.2.2.2.2.2.2.2.2.2.2.1 hd
theorem RC.code (h : RC w c V C) (hd : 0 < nD V) {k : Nat} (hk : k < C.length) : w.1 128 c k = C.getD k 0 := h.2.2.2.2.2.2.2.2.2.2.2.2.2 k ⟨hk, hd⟩
theorem RS.hour (h : RS w i V S) : w.1 256 i 0 = nI (S 0 0) := h.1
theorem RS.br (h : RS w i V S) : w.1 257 i 0 = nI (S 1 0) := h.2.1
theorem RS.dr (h : RS w i V S) : w.1 258 i 0 = nI (S 2 0) := h.2.2.1
theorem RS.th (h : RS w i V S) : w.1 259 i 0 = nI (S 3 0) := h.2.2.2.1
theorem RS.at (h : RS w i V S) {k : Nat} (hk : k < 4) (hd : k < nD V := by omega) : w.1 260 i k = atI V (S 4 k) := h.2.2.2.2.1 k ⟨hk, hd⟩
theorem RS.gas (h : RS w i V S) {k : Nat} (hk : k < 4) : w.1 261 i k = nI (S 5 k) := h.2.2.2.2.2.1 k hk
theorem RS.und (h : RS w i V S) {k : Nat} (hk : k < 4) : w.1 262 i k = nI (S 6 k) := h.2.2.2.2.2.2.1 k hk
theorem RS.silt (h : RS w i V S) {k : Nat} (hk : k < 8) : w.1 263 i k = nI (S 7 k) := h.2.2.2.2.2.2.2.1 k hk
theorem RS.stg (h : RS w i V S) {k : Nat} (hk : k < 7) : w.1 264 i k = nI (S 8 k) := h.2.2.2.2.2.2.2.2 k hk
theorem RC.keep {A : Nat → Nat → Nat → Prop} (h : RC w c V C) (hK : Keep A w w') (hA : ∀ f k, (32 ≤ f ∧ f ≤ 47) ∨ f = 128 ∨ f = 130 → ¬ A f c k) : RC w' c V C := by
  have e : ∀ f k, (32 ≤ f ∧ f ≤ 47) ∨ f = 128 ∨ f = 130 → w'.1 f c k = w.1 f c k := fun f k hf => hK.1 f c k (hA f k hf)
  unfold RC
  simp (disch := omega) only [e]
  exact h
theorem RS.keep {A : Nat → Nat → Nat → Prop} (h : RS w i V S) (hK : Keep A w w') (hA : ∀ f k, 256 ≤ f → f ≤ 264 → ¬ A f i k) : RS w' i V S := by
  have e : ∀ f k, 256 ≤ f → f ≤ 264 → w'.1 f i k = w.1 f i k := fun f k h1 h2 => hK.1 f i k (hA f k h1 h2)
  unfold RS
  simp (disch := omega) only [e]
  exact h
end ACC
