/-! ===== a law is read: what comes out ===== -/
def LSt : Type := Nat × Nat × List Int32
def LSt.i (s : LSt) : Nat := s.1
def LSt.e (s : LSt) : Nat := s.2.1
def LSt.C (s : LSt) : List Int32 := s.2.2
/-- so many tokens -/
def NTk (t : Nat) (T : Nat → Nat) (N : Nat) : Prop := N ≤ t ∧ stT t T N = t ∧ ∀ i, i < N → stT t T i < t
theorem kdT_0 {t : Nat} {T : Nat → Nat} {s : Nat} : (kdT t T s = 0) ↔ t ≤ s := by
  unfold kdT
  by_cases h : t ≤ s
  · rw [if_pos h]; exact ⟨fun _ => h, fun _ => rfl⟩
  · rw [if_neg h]
    refine ⟨fun e => ?_, fun e => absurd e h⟩
    exfalso
    split at e
    · split at e <;> omega
    · split at e
      · split at e <;> omega
      · split at e
        · rename_i q
          have := isSg_t.mp q
          omega
        · omega
theorem NTk.lt {t N i : Nat} {T : Nat → Nat} (h : NTk t T N) (hi : i ≤ N) (hk : ¬ kdI t T i = 0) : i < N := by
  rcases Nat.lt_or_ge i N with h1 | h1
  · exact h1
  · exfalso
    have e : i = N := by omega
    subst e
    exact hk (kdT_0.mpr (by rw [h.2.1]; exact Nat.le_refl t))
theorem wdI_kd {t i j : Nat} {T : Nat → Nat} (h : wdI t T i = some j) : kdI t T i = 1 ∧ j < 28 := by
  unfold wdI at h
  by_cases e : kdI t T i = 1
  · rw [if_pos e] at h
    exact ⟨e, (kw_s h).1⟩
  · rw [if_neg e] at h; cases h
section LAWP
variable (t : Nat) (T : Nat → Nat)
def adv (s : LSt) : LSt := (s.i + 1, s.e, s.C)
def emt (c : Int32) (s : LSt) : LSt := (s.i, s.e, s.C ++ [c])
def bad (k : Nat) (s : LSt) : LSt := (s.i, k + 16 * stT t T s.i, s.C)
/-- what a part begins with: 0 nothing, 1 a fact, 2 a number, 3 not, 4 a group -/
def pkd (i : Nat) : Nat := if kdI t T i = 2 then 2 else if kdI t T i = 40 then 4 else if wdI t T i = some 21 then 3 else if wdI t T i = some 24 ∨ wdI t T i = some 25 ∨ wdI t T i = some 26 ∨ wdI t T i = some 27 then 1 else 0
def fct (i : Nat) : Int32 := if wdI t T i = some 24 then -1 else if wdI t T i = some 25 then -2 else if wdI t T i = some 26 then -3 else -4
def loopF (B : LSt → LSt) (op : LSt → Option Int32) : Nat → LSt → LSt
  | 0, s => s
  | n + 1, s => match op s with
    | none => s
    | some c => loopF B op n (emt c (B (adv s)))
def opM (s : LSt) : Option Int32 := if s.e = 0 ∧ kdI t T s.i = 42 then some (-12) else none
def opS (s : LSt) : Option Int32 := if s.e = 0 ∧ kdI t T s.i = 43 then some (-10) else if s.e = 0 ∧ kdI t T s.i = 45 then some (-11) else none
def opT (s : LSt) : Option Int32 := if s.e = 0 ∧ kdI t T s.i = 60 then some (-8) else if s.e = 0 ∧ kdI t T s.i = 61 then some (-9) else none
def opA (s : LSt) : Option Int32 := if s.e = 0 ∧ wdI t T s.i = some 22 then some (-6) else if s.e = 0 ∧ wdI t T s.i = some 23 then some (-7) else none
def prodF (B : LSt → LSt) (s : LSt) : LSt := loopF B (opM t T) 1000 (B s)
def sumF (B : LSt → LSt) (s : LSt) : LSt := loopF (prodF t T B) (opS t T) 1000 (prodF t T B s)
def tsF (B : LSt → LSt) (s1 : LSt) : LSt := match opT t T s1 with
  | none => s1
  | some c => emt c (sumF t T B (adv s1))
def testF (B : LSt → LSt) (s : LSt) : LSt := tsF t T B (sumF t T B s)
def testsF (B : LSt → LSt) (s : LSt) : LSt := loopF (testF t T B) (opA t T) 1000 (testF t T B s)
def clsF (s1 : LSt) : LSt := if ¬ s1.e = 0 then s1 else if kdI t T s1.i = 41 then adv s1 else bad t T 1 s1
def partF : Nat → LSt → LSt
  | 0, s => if pkd t T s.i = 0 then bad t T 1 s else bad t T 5 s
  | k + 1, s => if pkd t T s.i = 0 then bad t T 1 s else if pkd t T s.i = 1 then adv (emt (fct t T s.i) s) else if pkd t T s.i = 2 then adv (emt (nI (nvI t T s.i)) s)
    else if pkd t T s.i = 3 then emt (-5) (partF k (adv s)) else clsF t T (testsF t T (partF k) (adv s))
end LAWP
section LAWQ
variable {t : Nat} {T : Nat → Nat} {N : Nat}
/-- goes on, not beyond the end, and writes no more than it reads -/
def Gd (N : Nat) (F : LSt → LSt) : Prop := ∀ s, s.i ≤ N → s.i ≤ (F s).i ∧ (F s).i ≤ N ∧ (F s).C.length + s.i ≤ s.C.length + (F s).i
/-- an operator stands at a token that is not the end, and where there is no fault -/
def Op (t : Nat) (T : Nat → Nat) (op : LSt → Option Int32) : Prop := ∀ s c, op s = some c → s.e = 0 ∧ ¬ kdI t T s.i = 0
theorem emt_len {c : Int32} {s : LSt} : (emt c s).C.length = s.C.length + 1 := by
  show (s.C ++ [c]).length = _
  rw [List.length_append]; rfl
theorem opM_op : Op t T (opM t T) := fun s c h => by
  unfold opM at h
  split at h
  · rename_i q; exact ⟨q.1, by omega⟩
  · cases h
theorem opS_op : Op t T (opS t T) := fun s c h => by
  unfold opS at h
  split at h
  · rename_i q; exact ⟨q.1, by omega⟩
  · split at h
    · rename_i q; exact ⟨q.1, by omega⟩
    · cases h
theorem opT_op : Op t T (opT t T) := fun s c h => by
  unfold opT at h
  split at h
  · rename_i q; exact ⟨q.1, by omega⟩
  · split at h
    · rename_i q; exact ⟨q.1, by omega⟩
    · cases h
theorem opA_op : Op t T (opA t T) := fun s c h => by
  unfold opA at h
  split at h
  · rename_i q; exact ⟨q.1, by have := (wdI_kd q.2).1; omega⟩
  · split at h
    · rename_i q; exact ⟨q.1, by have := (wdI_kd q.2).1; omega⟩
    · cases h
theorem pkd_kd {i : Nat} (h : ¬ pkd t T i = 0) : ¬ kdI t T i = 0 := fun e => by
  refine h ?_
  have hw : ∀ j, ¬ wdI t T i = some j := fun j hj => by have := (wdI_kd hj).1; omega
  unfold pkd
  rw [if_neg (by omega), if_neg (by omega), if_neg (hw 21), if_neg]
  rintro (q | q | q | q)
  · exact hw _ q
  · exact hw _ q
  · exact hw _ q
  · exact hw _ q
theorem loopF_gd (hN : NTk t T N) {B : LSt → LSt} {op : LSt → Option Int32} (hB : Gd N B) (ho : Op t T op) : ∀ n, Gd N (loopF B op n)
  | 0 => fun s h => ⟨Nat.le_refl _, h, Nat.le_refl _⟩
  | n + 1 => fun s h => by
    show s.i ≤ (match op s with
      | none => s
      | some c => loopF B op n (emt c (B (adv s)))).i ∧ (match op s with
      | none => s
      | some c => loopF B op n (emt c (B (adv s)))).i ≤ N ∧ (match op s with
      | none => s
      | some c => loopF B op n (emt c (B (adv s)))).C.length + s.i ≤ s.C.length + (match op s with
      | none => s
      | some c => loopF B op n (emt c (B (adv s)))).i
    cases hc : op s with
    | none => exact ⟨Nat.le_refl _, h, Nat.le_refl _⟩
    | some c =>
      have hlt := hN.lt h (ho s c hc).2
      obtain ⟨h1, h2, h3⟩ := hB (adv s) (show s.i + 1 ≤ N from hlt)
      have h1 : s.i + 1 ≤ (B (adv s)).i := h1
      have h3 : (B (adv s)).C.length + (s.i + 1) ≤ s.C.length + (B (adv s)).i := h3
      obtain ⟨h4, h5, h6⟩ := loopF_gd hN hB ho n (emt c (B (adv s))) h2
      have h4 : (B (adv s)).i ≤ (loopF B op n (emt c (B (adv s)))).i := h4
      rw [emt_len] at h6
      have h6 : (loopF B op n (emt c (B (adv s)))).C.length + (B (adv s)).i ≤ (B (adv s)).C.length + 1 + (loopF B op n (emt c (B (adv s)))).i := h6
      show s.i ≤ (loopF B op n (emt c (B (adv s)))).i ∧ (loopF B op n (emt c (B (adv s)))).i ≤ N ∧ (loopF B op n (emt c (B (adv s)))).C.length + s.i ≤ s.C.length + (loopF B op n (emt c (B (adv s)))).i
      exact ⟨by omega, h5, by omega⟩
theorem Gd.comp {F G : LSt → LSt} (hF : Gd N F) (hG : Gd N G) : Gd N (fun s => G (F s)) := fun s h => by
  obtain ⟨h1, h2, h3⟩ := hF s h
  obtain ⟨h4, h5, h6⟩ := hG (F s) h2
  exact ⟨Nat.le_trans h1 h4, h5, by show (G (F s)).C.length + s.i ≤ s.C.length + (G (F s)).i; omega⟩
theorem prodF_gd (hN : NTk t T N) {B : LSt → LSt} (hB : Gd N B) : Gd N (prodF t T B) := hB.comp (loopF_gd hN hB opM_op 1000)
theorem sumF_gd (hN : NTk t T N) {B : LSt → LSt} (hB : Gd N B) : Gd N (sumF t T B) := (prodF_gd hN hB).comp (loopF_gd hN (prodF_gd hN hB) opS_op 1000)
theorem tsF_gd (hN : NTk t T N) {B : LSt → LSt} (hB : Gd N B) : Gd N (tsF t T B) := fun s h => by
  unfold tsF
  cases hc : opT t T s with
  | none => exact ⟨Nat.le_refl _, h, Nat.le_refl _⟩
  | some c =>
    have hlt := hN.lt h (opT_op s c hc).2
    obtain ⟨h1, h2, h3⟩ := sumF_gd hN hB (adv s) (show s.i + 1 ≤ N from hlt)
    have h1 : s.i + 1 ≤ (sumF t T B (adv s)).i := h1
    have h3 : (sumF t T B (adv s)).C.length + (s.i + 1) ≤ s.C.length + (sumF t T B (adv s)).i := h3
    refine ⟨by show s.i ≤ (sumF t T B (adv s)).i; omega, h2, ?_⟩
    show (emt c (sumF t T B (adv s))).C.length + s.i ≤ s.C.length + (sumF t T B (adv s)).i
    rw [emt_len]
    omega
theorem testF_gd (hN : NTk t T N) {B : LSt → LSt} (hB : Gd N B) : Gd N (testF t T B) := (sumF_gd hN hB).comp (tsF_gd hN hB)
theorem testsF_gd (hN : NTk t T N) {B : LSt → LSt} (hB : Gd N B) : Gd N (testsF t T B) := (testF_gd hN hB).comp (loopF_gd hN (testF_gd hN hB) opA_op 1000)
theorem clsF_gd (hN : NTk t T N) : Gd N (clsF t T) := fun s h => by
  unfold clsF
  by_cases h1 : ¬ s.e = 0
  · rw [if_pos h1]; exact ⟨Nat.le_refl _, h, Nat.le_refl _⟩
  · rw [if_neg h1]
    by_cases h2 : kdI t T s.i = 41
    · rw [if_pos h2]
      have hlt := hN.lt h (by omega)
      exact ⟨Nat.le_succ _, hlt, by show s.C.length + s.i ≤ s.C.length + (s.i + 1); omega⟩
    · rw [if_neg h2]; exact ⟨Nat.le_refl _, h, Nat.le_refl _⟩
theorem partF_gd (hN : NTk t T N) : ∀ k, Gd N (partF t T k)
  | 0 => fun s h => by
    unfold partF
    split <;> exact ⟨Nat.le_refl _, h, Nat.le_refl _⟩
  | k + 1 => fun s h => by
    unfold partF
    by_cases h0 : pkd t T s.i = 0
    · rw [if_pos h0]; exact ⟨Nat.le_refl _, h, Nat.le_refl _⟩
    · have hlt := hN.lt h (pkd_kd h0)
      rw [if_neg h0]
      have em : ∀ c, s.i ≤ (adv (emt c s)).i ∧ (adv (emt c s)).i ≤ N ∧ (adv (emt c s)).C.length + s.i ≤ s.C.length + (adv (emt c s)).i := fun c => by
        refine ⟨Nat.le_succ _, hlt, ?_⟩
        show (emt c s).C.length + s.i ≤ s.C.length + (s.i + 1)
        rw [emt_len]; omega
      by_cases h1 : pkd t T s.i = 1
      · rw [if_pos h1]; exact em _
      · rw [if_neg h1]
        by_cases h2 : pkd t T s.i = 2
        · rw [if_pos h2]; exact em _
        · rw [if_neg h2]
          by_cases h3 : pkd t T s.i = 3
          · rw [if_pos h3]
            obtain ⟨q1, q2, q3⟩ := partF_gd hN k (adv s) (show s.i + 1 ≤ N from hlt)
            have q1 : s.i + 1 ≤ (partF t T k (adv s)).i := q1
            have q3 : (partF t T k (adv s)).C.length + (s.i + 1) ≤ s.C.length + (partF t T k (adv s)).i := q3
            refine ⟨by show s.i ≤ (partF t T k (adv s)).i; omega, q2, ?_⟩
            show (emt (-5) (partF t T k (adv s))).C.length + s.i ≤ s.C.length + (partF t T k (adv s)).i
            rw [emt_len]; omega
          · rw [if_neg h3]
            obtain ⟨q1, q2, q3⟩ := ((testsF_gd hN (partF_gd hN k)).comp (clsF_gd hN)) (adv s) (show s.i + 1 ≤ N from hlt)
            have q1 : s.i + 1 ≤ (clsF t T (testsF t T (partF t T k) (adv s))).i := q1
            have q3 : (clsF t T (testsF t T (partF t T k) (adv s))).C.length + (s.i + 1) ≤ s.C.length + (clsF t T (testsF t T (partF t T k) (adv s))).i := q3
            exact ⟨by omega, q2, by omega⟩
/-- a piece of code that lays one value on, with so much room -/
def Seg (D : List Int32) (b : Nat) : Prop := ∀ h R, h + b ≤ 24 → okc R (h + 1) → okc (D ++ R) h
def SgF (F : LSt → LSt) (b : Nat) : Prop := ∀ s, s.e = 0 → (F s).e = 0 → ∃ D, (F s).C = s.C ++ D ∧ Seg D b
theorem Seg.mono {D : List Int32} {b b' : Nat} (h : Seg D b) (hb : b ≤ b') : Seg D b' := fun k R hk hR => h k R (by omega) hR
theorem Seg.one {x : Int32} (hx : ¬ x < -4) : Seg [x] 1 := fun h R hh hR => by
  show okc (x :: R) h
  unfold okc
  rw [if_neg hx]
  exact ⟨by omega, hR⟩
theorem Seg.no {D : List Int32} {b : Nat} (h : Seg D b) : Seg (D ++ [-5]) b := fun k R hk hR => by
  rw [List.append_assoc]
  refine h k _ hk ?_
  show okc (-5 :: R) (k + 1)
  unfold okc
  rw [if_pos (by decide), if_pos rfl]
  exact ⟨by omega, hR⟩
theorem Seg.two {D E : List Int32} {b : Nat} {x : Int32} (h : Seg D (b + 1)) (h2 : Seg E b) (hx : x < -5) : Seg (D ++ (E ++ [x])) (b + 1) := fun k R hk hR => by
  rw [List.append_assoc]
  refine h k _ hk ?_
  rw [List.append_assoc]
  refine h2 (k + 1) _ (by omega) ?_
  show okc (x :: R) (k + 1 + 1)
  have e5 : ¬ x = -5 := fun e => by subst e; exact absurd hx (by decide)
  have e4 : x < -4 := by
    rw [Int32.lt_iff_toInt_lt, show (-5 : Int32).toInt = -5 from rfl] at hx
    rw [Int32.lt_iff_toInt_lt, show (-4 : Int32).toInt = -4 from rfl]
    omega
  unfold okc
  rw [if_pos e4, if_neg e5]
  exact ⟨hx, by omega, hR⟩
theorem loopF_e {B : LSt → LSt} {op : LSt → Option Int32} (ho : Op t T op) {n : Nat} {s : LSt} (h : ¬ s.e = 0) : loopF B op n s = s := by
  cases n with
  | zero => rfl
  | succ n =>
    show (match op s with
      | none => s
      | some c => loopF B op n (emt c (B (adv s)))) = s
    cases hc : op s with
    | none => rfl
    | some c => exact absurd (ho s c hc).1 h
theorem loopF_sg {B : LSt → LSt} {op : LSt → Option Int32} {b : Nat} (hB : SgF B b) (ho : Op t T op) (hx : ∀ s c, op s = some c → c < -5) : ∀ n s C0 D, s.e = 0 → (loopF B op n s).e = 0 → s.C = C0 ++ D → Seg D (b + 1) → ∃ E, (loopF B op n s).C = C0 ++ E ∧ Seg E (b + 1)
  | 0, s, C0, D, _, _, hC, hD => ⟨D, hC, hD⟩
  | n + 1, s, C0, D, hs, he, hC, hD => by
    have he : (match op s with
      | none => s
      | some c => loopF B op n (emt c (B (adv s)))).e = 0 := he
    show ∃ E, (match op s with
      | none => s
      | some c => loopF B op n (emt c (B (adv s)))).C = C0 ++ E ∧ Seg E (b + 1)
    cases hc : op s with
    | none => exact ⟨D, hC, hD⟩
    | some c =>
      rw [hc] at he
      have he : (loopF B op n (emt c (B (adv s)))).e = 0 := he
      have h0 : (B (adv s)).e = 0 := by
        by_cases q : (B (adv s)).e = 0
        · exact q
        · rw [loopF_e ho (show ¬ (emt c (B (adv s))).e = 0 from q)] at he
          exact absurd he q
      obtain ⟨E, hE, sE⟩ := hB (adv s) hs h0
      have hE : (B (adv s)).C = s.C ++ E := hE
      refine loopF_sg hB ho hx n (emt c (B (adv s))) C0 (D ++ (E ++ [c])) h0 he ?_ (Seg.two hD sE (hx s c hc))
      show (B (adv s)).C ++ [c] = _
      rw [hE, hC, List.append_assoc, List.append_assoc]
theorem SgF.loop {B : LSt → LSt} {op : LSt → Option Int32} {b n : Nat} (hB : SgF B b) (ho : Op t T op) (hx : ∀ s c, op s = some c → c < -5) : SgF (fun s => loopF B op n (B s)) (b + 1) := fun s hs he => by
  have he : (loopF B op n (B s)).e = 0 := he
  have h0 : (B s).e = 0 := by
    by_cases q : (B s).e = 0
    · exact q
    · rw [loopF_e ho q] at he
      exact absurd he q
  obtain ⟨D, hD, sD⟩ := hB s hs h0
  exact loopF_sg hB ho hx n (B s) s.C D h0 he hD (sD.mono (Nat.le_succ b))
theorem opM_x (s : LSt) (c : Int32) (h : opM t T s = some c) : c < -5 := by
  unfold opM at h
  split at h
  · rw [← Option.some.inj h]; decide
  · cases h
theorem opS_x (s : LSt) (c : Int32) (h : opS t T s = some c) : c < -5 := by
  unfold opS at h
  split at h
  · rw [← Option.some.inj h]; decide
  · split at h
    · rw [← Option.some.inj h]; decide
    · cases h
theorem opT_x (s : LSt) (c : Int32) (h : opT t T s = some c) : c < -5 := by
  unfold opT at h
  split at h
  · rw [← Option.some.inj h]; decide
  · split at h
    · rw [← Option.some.inj h]; decide
    · cases h
theorem opA_x (s : LSt) (c : Int32) (h : opA t T s = some c) : c < -5 := by
  unfold opA at h
  split at h
  · rw [← Option.some.inj h]; decide
  · split at h
    · rw [← Option.some.inj h]; decide
    · cases h
theorem prodF_sg {B : LSt → LSt} {b : Nat} (hB : SgF B b) : SgF (prodF t T B) (b + 1) := hB.loop opM_op opM_x
theorem sumF_sg {B : LSt → LSt} {b : Nat} (hB : SgF B b) : SgF (sumF t T B) (b + 2) := (prodF_sg hB).loop opS_op opS_x
theorem testF_sg {B : LSt → LSt} {b : Nat} (hB : SgF B b) : SgF (testF t T B) (b + 3) := fun s hs he => by
  unfold testF tsF at he ⊢
  cases hc : opT t T (sumF t T B s) with
  | none =>
    rw [hc] at he
    obtain ⟨D, hD, sD⟩ := sumF_sg hB s hs he
    exact ⟨D, hD, sD.mono (by omega)⟩
  | some c =>
    rw [hc] at he
    have h0 := (opT_op _ c hc).1
    have he : (sumF t T B (adv (sumF t T B s))).e = 0 := he
    obtain ⟨D, hD, sD⟩ := sumF_sg hB s hs h0
    obtain ⟨E, hE, sE⟩ := sumF_sg hB (adv (sumF t T B s)) h0 he
    have hE : (sumF t T B (adv (sumF t T B s))).C = (sumF t T B s).C ++ E := hE
    refine ⟨D ++ (E ++ [c]), ?_, Seg.two (sD.mono (by omega)) sE (opT_x _ c hc)⟩
    show (sumF t T B (adv (sumF t T B s))).C ++ [c] = _
    rw [hE, hD, List.append_assoc, List.append_assoc]
theorem testsF_sg {B : LSt → LSt} {b : Nat} (hB : SgF B b) : SgF (testsF t T B) (b + 4) := (testF_sg hB).loop opA_op opA_x
theorem nvI_b {i : Nat} (h : kdI t T i = 2) : nvI t T i < 10000 := by
  unfold kdI kdT at h
  split at h
  · omega
  · rename_i h0
    split at h
    · split at h <;> omega
    · rename_i h1
      split at h
      · rename_i h2
        split at h
        · omega
        · rename_i h3
          have hE : enT t T (stT t T i) = ru t T isFg (stT t T i) := by unfold enT; rw [if_neg h0, if_neg h1, if_pos h2]
          have hl := nvT_lt (T := T) (s := stT t T i) (enT t T (stT t T i) - stT t T i) (fun k a b => by
            rw [hE] at b
            have : stT t T i ≤ ru t T isFg (stT t T i) := ru_le
            exact (ru_in (t := t) a (by omega)).2)
          unfold nvI
          have h4 : 10 ^ (enT t T (stT t T i) - stT t T i) ≤ 10 ^ 4 := Nat.pow_le_pow_right (by omega) (by omega)
          have h5 : (10 : Nat) ^ 4 = 10000 := rfl
          omega
      · split at h
        · rename_i q
          have := isSg_t.mp q
          omega
        · omega
theorem pkd_2 {i : Nat} (h : pkd t T i = 2) : kdI t T i = 2 := by
  unfold pkd at h
  split at h
  · rename_i q; exact q
  · split at h
    · omega
    · split at h
      · omega
      · split at h <;> omega
theorem fct_x {i : Nat} : ¬ fct t T i < -4 := by
  unfold fct
  split
  · decide
  · split
    · decide
    · split <;> decide
theorem nI_x {n : Nat} (h : n < 10000) : ¬ nI n < -4 := fun e => by
  rw [Int32.lt_iff_toInt_lt, nI_toInt (by omega), show (-4 : Int32).toInt = -4 from rfl] at e
  omega
theorem bad_e {k : Nat} {s : LSt} (hk : 1 ≤ k) : ¬ (bad t T k s).e = 0 := by
  show ¬ k + 16 * stT t T s.i = 0
  omega
theorem clsF_e {s : LSt} (h : (clsF t T s).e = 0) : s.e = 0 ∧ (clsF t T s).C = s.C := by
  unfold clsF at h ⊢
  by_cases h1 : ¬ s.e = 0
  · rw [if_pos h1] at h; exact absurd h h1
  · rw [if_neg h1] at h ⊢
    have h1 : s.e = 0 := Decidable.not_not.mp h1
    refine ⟨h1, ?_⟩
    by_cases h2 : kdI t T s.i = 41
    · rw [if_pos h2]; rfl
    · rw [if_neg h2]; rfl
theorem partF_sg : ∀ k, SgF (partF t T k) (4 * k)
  | 0 => fun s hs he => by
    exfalso
    unfold partF at he
    split at he
    · exact bad_e (by omega) he
    · exact bad_e (by omega) he
  | k + 1 => fun s hs he => by
    unfold partF at he ⊢
    by_cases h0 : pkd t T s.i = 0
    · rw [if_pos h0] at he; exact absurd he (bad_e (by omega))
    · rw [if_neg h0] at he ⊢
      by_cases h1 : pkd t T s.i = 1
      · rw [if_pos h1]; exact ⟨[fct t T s.i], rfl, (Seg.one fct_x).mono (by omega)⟩
      · rw [if_neg h1] at he ⊢
        by_cases h2 : pkd t T s.i = 2
        · rw [if_pos h2]; exact ⟨[nI (nvI t T s.i)], rfl, (Seg.one (nI_x (nvI_b (pkd_2 h2)))).mono (by omega)⟩
        · rw [if_neg h2] at he ⊢
          by_cases h3 : pkd t T s.i = 3
          · rw [if_pos h3] at he ⊢
            obtain ⟨D, hD, sD⟩ := partF_sg k (adv s) hs he
            have hD : (partF t T k (adv s)).C = s.C ++ D := hD
            refine ⟨D ++ [-5], ?_, (sD.no).mono (by omega)⟩
            show (partF t T k (adv s)).C ++ [-5] = _
            rw [hD, List.append_assoc]
          · rw [if_neg h3] at he ⊢
            obtain ⟨he, hC⟩ := clsF_e he
            obtain ⟨D, hD, sD⟩ := testsF_sg (partF_sg k) (adv s) hs he
            exact ⟨D, hC.trans hD, sD.mono (by omega)⟩
/-- a law that is read through can be worked out -/
theorem law_okc {s : LSt} (hC : s.C = []) (hs : s.e = 0) (he : (testsF t T (partF t T 5) s).e = 0) : okc (testsF t T (partF t T 5) s).C 0 := by
  obtain ⟨D, hD, sD⟩ := testsF_sg (partF_sg (t := t) (T := T) 5) s hs he
  rw [hD, hC, List.nil_append]
  have := sD 0 [] (by omega) rfl
  rwa [List.append_nil] at this
end LAWQ
