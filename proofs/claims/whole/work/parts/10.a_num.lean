/-! ===== worlds read behind a store; numbers; loops ===== -/
section WORLD
variable {w : Wd} {f i k f' i' k' : Nat} {x : Int32} {p : Int64} {o : Option Nat} {h : Nat → Int32}
theorem sI_1 : (sI w f i k x).1 f' i' k' = if f' = f ∧ i' = i ∧ k' = k then x else w.1 f' i' k' := id rfl
theorem sI_2 : (sI w f i k x).2 = w.2 := id rfl
theorem sA_1 : (sA w f i h).1 f' i' k' = if f' = f ∧ i' = i then h k' else w.1 f' i' k' := id rfl
theorem sA_2 : (sA w f i h).2 = w.2 := id rfl
theorem sJ_1 : (sJ w f i k p).1 = w.1 := id rfl
theorem sJ_21 : (sJ w f i k p).2.1 f' i' k' = if f' = f ∧ i' = i ∧ k' = k then p else w.2.1 f' i' k' := id rfl
theorem sJ_22 : (sJ w f i k p).2.2 = w.2.2 := id rfl
theorem sE_1 : (sE w f i k o).1 = w.1 := id rfl
theorem sE_21 : (sE w f i k o).2.1 = w.2.1 := id rfl
theorem sE_22 : (sE w f i k o).2.2 f' i' k' = if f' = f ∧ i' = i ∧ k' = k then o else w.2.2 f' i' k' := id rfl
end WORLD
theorem lit_n (n : Nat) : (OfNat.ofNat n : Int32) = nI n := id rfl
theorem ib_n {k n : Nat} (h : k < n) (hn : n < 2 ^ 31) : ib (nI k) n = true := decide_eq_true (nI_in h hn)
theorem nI_sub {a b : Nat} (h : b ≤ a) : nI a - nI b = nI (a - b) := pk_sub h
theorem m1_eq {a : Nat} (h : a < 2 ^ 31) : (nI a = -nI 1) = False := by
  refine eq_false fun e => ?_
  have := congrArg Int32.toInt e
  rw [nI_toInt h, show (-nI 1 : Int32).toInt = -1 from by decide] at this
  omega
theorem m1_eq' {a : Nat} (h : a < 2 ^ 31) : (-nI 1 = nI a) = False := eq_false fun e => (m1_eq h).mp e.symm
theorem m1_lt {a : Nat} (h : a < 2 ^ 31) : (nI a < -nI 1) = False := by
  refine eq_false fun e => ?_
  rw [Int32.lt_iff_toInt_lt, nI_toInt h, show (-nI 1 : Int32).toInt = -1 from by decide] at e
  omega
theorem m1_lt' {a : Nat} (h : a < 2 ^ 31) : (-nI 1 < nI a) = True := by
  refine eq_true ?_
  rw [Int32.lt_iff_toInt_lt, nI_toInt h, show (-nI 1 : Int32).toInt = -1 from by decide]
  omega
theorem m1_le {a : Nat} (h : a < 2 ^ 31) : (nI a ≤ -nI 1) = False := by
  refine eq_false fun e => ?_
  rw [Int32.le_iff_toInt_le, nI_toInt h, show (-nI 1 : Int32).toInt = -1 from by decide] at e
  omega
theorem m1_le' {a : Nat} (h : a < 2 ^ 31) : (-nI 1 ≤ nI a) = True := by
  refine eq_true ?_
  rw [Int32.le_iff_toInt_le, nI_toInt h, show (-nI 1 : Int32).toInt = -1 from by decide]
  omega
theorem nI_or (a b : Nat) : nI a ||| nI b = nI (a ||| b) := by
  apply Int32.toBitVec_inj.mp
  rw [Int32.toBitVec_or]
  show BitVec.ofNat 32 a ||| BitVec.ofNat 32 b = BitVec.ofNat 32 (a ||| b)
  rw [BitVec.ofNat_or]
theorem nI_and (a b : Nat) : nI a &&& nI b = nI (a &&& b) := by
  apply Int32.toBitVec_inj.mp
  rw [Int32.toBitVec_and]
  show BitVec.ofNat 32 a &&& BitVec.ofNat 32 b = BitVec.ofNat 32 (a &&& b)
  rw [BitVec.ofNat_and]
theorem sh_k : ∀ n, n < 32 → ((nI n).toBitVec.smod 32).toNat = n := by decide +kernel
theorem and31 {n : Nat} (h : n < 32) : n &&& 31 = n := (Nat.and_two_pow_sub_one_eq_mod n 5).trans (Nat.mod_eq_of_lt h)
theorem nI_shl {a n : Nat} (hn : n < 31) (h : a * 2 ^ n < 2 ^ 32) : nI a <<< nI n = nI (a * 2 ^ n) := pk_shlN _ n (sh_k n (by omega)) h
theorem nI_1shl {n : Nat} (hn : n < 31) : nI 1 <<< nI n = nI (2 ^ n) := by
  rw [nI_shl hn (by rw [Nat.one_mul]; exact Nat.pow_lt_pow_right (by decide) (by omega)), Nat.one_mul]
theorem nI_shr {a n : Nat} (hn : n < 31) (h : a < 2 ^ 31) : nI a >>> nI n = nI (a / 2 ^ n) := pk_shrN h _ n (sh_k n (by omega))
/-- a bit of a set -/
theorem bit_n {a n : Nat} : a / 2 ^ n &&& 1 = (a.testBit n).toNat := by
  rw [Nat.and_one_is_mod]
  rw [Nat.testBit_eq_decide_div_mod_eq]
  have : a / 2 ^ n % 2 < 2 := Nat.mod_lt _ (by decide)
  by_cases h1 : a / 2 ^ n % 2 = 1
  · simp [h1]
  · have h0 : a / 2 ^ n % 2 = 0 := by omega
    simp [h0]
theorem nI_b0 {b : Bool} : (nI b.toNat = nI 0) = (b = false) := by cases b <;> decide
theorem nI_b1 {b : Bool} : (nI b.toNat = nI 1) = (b = true) := by cases b <;> decide
/-- a walk over k, k + 1 .. -/
def itr {α : Type} (F : Nat → α → α) : Nat → Nat → α → α
  | _, 0, a => a
  | k, m + 1, a => itr F (k + 1) m (F k a)
theorem itr_congr {α : Type} {F G : Nat → α → α} : ∀ (m k : Nat) (a : α), (∀ j b, k ≤ j → j < k + m → F j b = G j b) → itr F k m a = itr G k m a
  | 0, _, _, _ => rfl
  | m + 1, k, a, h => by
    show itr F (k + 1) m (F k a) = itr G (k + 1) m (G k a)
    rw [h k a (Nat.le_refl k) (by omega)]
    exact itr_congr m (k + 1) _ fun j b h1 h2 => h j b (by omega) (by omega)
theorem itr_inv {α : Type} {F : Nat → α → α} (I : Nat → α → Prop) : ∀ (m k : Nat) (a : α), I k a → (∀ j b, k ≤ j → j < k + m → I j b → I (j + 1) (F j b)) → I (k + m) (itr F k m a)
  | 0, _, _, h, _ => h
  | m + 1, k, a, h, hs => by
    have := itr_inv (F := F) I m (k + 1) (F k a) (hs k a (Nat.le_refl k) (by omega) h) fun j b h1 h2 => hs j b (by omega) (by omega)
    rw [show k + (m + 1) = k + 1 + m from by omega]
    exact this
/-- the same walk on two sides -/
theorem itr_rel {α β : Type} {F : Nat → α → α} {G : Nat → β → β} (I : Nat → α → β → Prop) : ∀ (m k : Nat) (a : α) (b : β), I k a b → (∀ j x y, k ≤ j → j < k + m → I j x y → I (j + 1) (F j x) (G j y)) → I (k + m) (itr F k m a) (itr G k m b)
  | 0, _, _, _, h, _ => h
  | m + 1, k, a, b, h, hs => by
    have := itr_rel (F := F) (G := G) I m (k + 1) (F k a) (G k b) (hs k a b (Nat.le_refl k) (by omega) h) fun j x y h1 h2 => hs j x y (by omega) (by omega)
    rw [show k + (m + 1) = k + 1 + m from by omega]
    exact this
theorem itr_succ {α : Type} (F : Nat → α → α) : ∀ (m k : Nat) (a : α), itr F k (m + 1) a = F (k + m) (itr F k m a)
  | 0, _, _ => rfl
  | m + 1, k, a => by
    show itr F (k + 1) (m + 1) (F k a) = F (k + (m + 1)) (itr F (k + 1) m (F k a))
    rw [itr_succ F m (k + 1) (F k a), show k + 1 + m = k + (m + 1) from by omega]
/-- a loop that counts up to N -/
theorem loopG {ρ α : Type} {L : Nat → Den ρ} {S : Den ρ → Den ρ} (hL : ∀ n, L (n + 1) = S (L n)) (N : Nat) (lv : Nat → α → Lv) (wd : Nat → α → Wd) (F : Nat → α → α) (R : α → Option (ρ × Wd)) (Inv : Nat → α → Prop)
    (hs : ∀ K k a, k < N → Inv k a → S K (lv k a) [] (wd k a) = K (lv (k + 1) (F k a)) [] (wd (k + 1) (F k a)))
    (hi : ∀ k a, k < N → Inv k a → Inv (k + 1) (F k a))
    (he : ∀ K a, Inv N a → S K (lv N a) [] (wd N a) = R a) : ∀ m k a fuel, k + m = N → m < fuel → Inv k a → L fuel (lv k a) [] (wd k a) = R (itr F k m a)
  | 0, k, a, fuel + 1, e, _, hI => by
    have e : k = N := by omega
    subst e
    rw [hL, he _ _ hI]
    rfl
  | m + 1, k, a, fuel + 1, e, hf, hI => by
    rw [hL, hs _ k a (by omega) hI]
    exact loopG hL N lv wd F R Inv hs hi he m (k + 1) (F k a) fuel (by omega) (by omega) (hi k a (by omega) hI)
  | 0, _, _, 0, _, hf, _ => absurd hf (Nat.lt_irrefl 0)
  | _ + 1, _, _, 0, _, hf, _ => absurd hf (Nat.not_lt_zero _)
theorem FU_lt {n : Nat} (h : n < 5000) : n < FU := h
theorem x_tsw {ρ : Type} {lo x : Int32} {Ds : List (Den ρ)} {d : Den ρ} {lv : Lv} {r : List VV} {w : Wd} : op_tsw lo Ds d lv (.inl x :: r) w = tsel Ds d lo x lv r w := id rfl
theorem tsel_n {ρ : Type} {lo x : Int32} {d : Den ρ} : tsel [] d lo x = d := id rfl
theorem tsel_c {ρ : Type} {lo x : Int32} {D : Den ρ} {Ds : List (Den ρ)} {d : Den ρ} {lv : Lv} {st : List VV} {w : Wd} : tsel (D :: Ds) d lo x lv st w = if x = lo then D lv st w else tsel Ds d (lo + 1) x lv st w := id rfl
theorem x_cpy {ρ : Type} {K : Den ρ} {lv : Lv} {r : List VV} {w : Wd} {n dp sp : Int32} {a b : Nat × Nat} : op_cpy K lv (.inl n :: .inl dp :: .inr (.inr (some b)) :: .inl sp :: .inr (.inr (some a)) :: r) w = cond (Nat.beq (ktag a.1) 10 && Nat.beq (ktag b.1) 10 && Nat.ble (stw r) 8) (cond (decide (¬ sp < 0 ∧ ¬ dp < 0 ∧ ¬ n < 0 ∧ sp.toNatClampNeg + n.toNatClampNeg ≤ alen a.1 ∧ dp.toNatClampNeg + n.toNatClampNeg ≤ alen b.1))
    (K lv r (sA w b.1 b.2 (va_cpy (w.1 a.1 a.2) (w.1 b.1 b.2) sp.toNatClampNeg dp.toNatClampNeg n.toNatClampNeg))) none) none := id rfl
theorem sI_sA {w : Wd} {f i k : Nat} {x : Int32} {h : Nat → Int32} : sI (sA w f i h) f i k x = sA w f i (upd h k x) := by
  unfold sI sA
  refine Prod.ext (funext fun f' => funext fun i' => funext fun k' => ?_) rfl
  show (if f' = f ∧ i' = i ∧ k' = k then x else if f' = f ∧ i' = i then h k' else w.1 f' i' k') = if f' = f ∧ i' = i then upd h k x k' else w.1 f' i' k'
  unfold upd
  by_cases h1 : f' = f ∧ i' = i
  · by_cases h2 : k' = k
    · rw [if_pos ⟨h1.1, h1.2, h2⟩, if_pos h1, if_pos h2]
    · rw [if_neg (fun q => h2 q.2.2), if_pos h1, if_pos h1, if_neg h2]
  · rw [if_neg (fun q => h1 ⟨q.1, q.2.1⟩), if_neg h1, if_neg h1]
theorem sA_self (w : Wd) (f i : Nat) : sA w f i (w.1 f i) = w := by
  unfold sA
  refine Prod.ext (funext fun f' => funext fun i' => funext fun k' => ?_) rfl
  show (if f' = f ∧ i' = i then w.1 f i k' else w.1 f' i' k') = w.1 f' i' k'
  by_cases h1 : f' = f ∧ i' = i
  · rw [if_pos h1, h1.1, h1.2]
  · rw [if_neg h1]
theorem sI_sA1 {w : Wd} {f i k : Nat} {x : Int32} : sI w f i k x = sA w f i (upd (w.1 f i) k x) := by
  rw [← sI_sA, sA_self]
theorem sA_sA {w : Wd} {f i : Nat} {h h' : Nat → Int32} : sA (sA w f i h) f i h' = sA w f i h' := by
  unfold sA
  refine Prod.ext (funext fun f' => funext fun i' => funext fun k' => ?_) rfl
  show (if f' = f ∧ i' = i then h' k' else if f' = f ∧ i' = i then h k' else w.1 f' i' k') = if f' = f ∧ i' = i then h' k' else w.1 f' i' k'
  by_cases h1 : f' = f ∧ i' = i
  · rw [if_pos h1, if_pos h1]
  · rw [if_neg h1, if_neg h1, if_neg h1]
theorem upd_n {f : Nat → Int32} {i j : Nat} {x : Int32} : upd f i x j = if j = i then x else f j := id rfl
/-- a loop by an invariant; it may end early; Q speaks of what it gives -/
theorem loopQ {ρ : Type} {L : Nat → Den ρ} {S : Den ρ → Den ρ} (hL : ∀ n, L (n + 1) = S (L n)) (N : Nat) (I : Nat → Lv → Wd → Prop) (Q : Option (ρ × Wd) → Prop)
    (hs : ∀ K k lv w, k < N → I k lv w → (∃ lv' w', S K lv [] w = K lv' [] w' ∧ I (k + 1) lv' w') ∨ Q (S K lv [] w))
    (he : ∀ K lv w, I N lv w → Q (S K lv [] w)) : ∀ m k lv w fuel, k + m = N → m < fuel → I k lv w → Q (L fuel lv [] w)
  | 0, k, lv, w, fuel + 1, e, _, hI => by
    have e : k = N := by omega
    subst e
    rw [hL]
    exact he _ _ _ hI
  | m + 1, k, lv, w, fuel + 1, e, hf, hI => by
    rw [hL]
    rcases hs (L fuel) k lv w (by omega) hI with ⟨lv', w', h1, h2⟩ | h
    · rw [h1]
      exact loopQ hL N I Q hs he m (k + 1) lv' w' fuel (by omega) (by omega) h2
    · exact h
  | 0, _, _, _, 0, _, hf, _ => absurd hf (Nat.lt_irrefl 0)
  | _ + 1, _, _, _, 0, _, hf, _ => absurd hf (Nat.not_lt_zero _)
/-- what is kept: all ints outside A, all else -/
def Keep (A : Nat → Nat → Nat → Prop) (w w' : Wd) : Prop := (∀ f i k, ¬ A f i k → w'.1 f i k = w.1 f i k) ∧ w'.2 = w.2
theorem Keep.refl {A : Nat → Nat → Nat → Prop} (w : Wd) : Keep A w w := ⟨fun _ _ _ _ => rfl, rfl⟩
theorem Keep.trans {A B : Nat → Nat → Nat → Prop} {w w' w'' : Wd} (h : Keep A w w') (h2 : Keep B w' w'') : Keep (fun f i k => A f i k ∨ B f i k) w w'' :=
  ⟨fun f i k hn => (h2.1 f i k fun q => hn (Or.inr q)).trans (h.1 f i k fun q => hn (Or.inl q)), h2.2.trans h.2⟩
theorem Keep.mono {A B : Nat → Nat → Nat → Prop} {w w' : Wd} (h : Keep A w w') (hAB : ∀ f i k, A f i k → B f i k) : Keep B w w' := ⟨fun f i k hn => h.1 f i k fun q => hn (hAB f i k q), h.2⟩
theorem Keep.tr {A : Nat → Nat → Nat → Prop} {w w' w'' : Wd} (h : Keep A w w') (h2 : Keep A w' w'') : Keep A w w'' := (h.trans h2).mono fun _ _ _ q => q.elim id id
theorem Keep.sA {A : Nat → Nat → Nat → Prop} {w : Wd} {f i : Nat} {h : Nat → Int32} (hA : ∀ k, A f i k) : Keep A w (sA w f i h) := ⟨fun f' i' k' hn => by
  rw [sA_1, if_neg]
  rintro ⟨rfl, rfl⟩
  exact hn (hA k'), rfl⟩
theorem Keep.sI {A : Nat → Nat → Nat → Prop} {w : Wd} {f i k : Nat} {x : Int32} (hA : A f i k) : Keep A w (sI w f i k x) := ⟨fun f' i' k' hn => by
  rw [sI_1, if_neg]
  rintro ⟨rfl, rfl, rfl⟩
  exact hn hA, rfl⟩
def inR (x : Int32) (n : Nat) : Bool := decide (¬ x < 0 ∧ x < nI n)
theorem inR_n {p n : Nat} (h : p < n) (hn : n < 2 ^ 31) : inR (nI p) n = true := decide_eq_true ⟨nI_pos (by omega), nI_lt h hn⟩
theorem inR_cases (x : Int32) {n : Nat} (hn : n < 2 ^ 31) : inR x n = false ∨ ∃ p, p < n ∧ x = nI p ∧ inR x n = true := by
  rcases pk_ix x hn with h | h | ⟨p, hp, rfl⟩
  · exact Or.inl (decide_eq_false fun q => q.1 h)
  · refine Or.inl (decide_eq_false fun q => ?_)
    have h1 := Int32.le_iff_toInt_le.mp h
    have h2 := Int32.lt_iff_toInt_lt.mp q.2
    omega
  · exact Or.inr ⟨p, hp, rfl, inR_n hp hn⟩
theorem inR_neg {x : Int32} {n : Nat} (h : x < nI 0) : inR x n = false := decide_eq_false fun q => q.1 h
theorem inR_ge {x : Int32} {n : Nat} (h : nI n ≤ x) : inR x n = false := decide_eq_false fun q => by
  have h3 := Int32.le_iff_toInt_le.mp h
  have h4 := Int32.lt_iff_toInt_lt.mp q.2
  omega
theorem inR_in {x : Int32} {n : Nat} (h : ¬ x < nI 0) (h2 : ¬ nI n ≤ x) : inR x n = true := decide_eq_true ⟨h, by
  rw [Int32.lt_iff_toInt_lt]
  rw [Int32.le_iff_toInt_le] at h2
  omega⟩
