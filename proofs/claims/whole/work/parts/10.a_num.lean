/-! ===== worlds read behind a store; numbers; loops ===== -/
section WORLD
variable {w : Wd} {f i k f' i' k' : Nat} {x : Int32} {p : Int64} {o : Option Nat} {h : Nat → Int32}
theorem sI_1 : (sI w f i k x).1 f' i' k' = if f' = f ∧ i' = i ∧ k' = k then x else w.1 f' i' k' := rfl
theorem sI_2 : (sI w f i k x).2 = w.2 := rfl
theorem sA_1 : (sA w f i h).1 f' i' k' = if f' = f ∧ i' = i then h k' else w.1 f' i' k' := rfl
theorem sA_2 : (sA w f i h).2 = w.2 := rfl
theorem sJ_1 : (sJ w f i k p).1 = w.1 := rfl
theorem sJ_21 : (sJ w f i k p).2.1 f' i' k' = if f' = f ∧ i' = i ∧ k' = k then p else w.2.1 f' i' k' := rfl
theorem sJ_22 : (sJ w f i k p).2.2 = w.2.2 := rfl
theorem sE_1 : (sE w f i k o).1 = w.1 := rfl
theorem sE_21 : (sE w f i k o).2.1 = w.2.1 := rfl
theorem sE_22 : (sE w f i k o).2.2 f' i' k' = if f' = f ∧ i' = i ∧ k' = k then o else w.2.2 f' i' k' := rfl
end WORLD
theorem lit_n (n : Nat) : (OfNat.ofNat n : Int32) = nI n := rfl
theorem ib_n {k n : Nat} (h : k < n) (hn : n < 2 ^ 31) : ib (nI k) n = true := decide_eq_true (nI_in h hn)
theorem nI_sub {a b : Nat} (h : b ≤ a) : nI a - nI b = nI (a - b) := pk_sub h
theorem m1_eq {a : Nat} (h : a < 2 ^ 31) : (nI a = -nI 1) = False := by
  refine eq_false fun e => ?_
  have := congrArg Int32.toInt e
  rw [nI_toInt h, show (-nI 1 : Int32).toInt = -1 from by decide] at this
  omega
theorem m1_eq' {a : Nat} (h : a < 2 ^ 31) : (-nI 1 = nI a) = False := eq_false fun e => (m1_eq h).mp e.symm
theorem m1_lt {a : Nat} (h : a < 2 ^ 31) : (nI a < -nI 1) = False := by
  refine eq_false fun e => ?_
  rw [Int32.lt_iff_toInt_lt, nI_toInt h, show (-nI 1 : Int32).toInt = -1 from by decide] at e
  omega
theorem m1_lt' {a : Nat} (h : a < 2 ^ 31) : (-nI 1 < nI a) = True := by
  refine eq_true ?_
  rw [Int32.lt_iff_toInt_lt, nI_toInt h, show (-nI 1 : Int32).toInt = -1 from by decide]
  omega
theorem m1_le {a : Nat} (h : a < 2 ^ 31) : (nI a ≤ -nI 1) = False := by
  refine eq_false fun e => ?_
  rw [Int32.le_iff_toInt_le, nI_toInt h, show (-nI 1 : Int32).toInt = -1 from by decide] at e
  omega
theorem m1_le' {a : Nat} (h : a < 2 ^ 31) : (-nI 1 ≤ nI a) = True := by
  refine eq_true ?_
  rw [Int32.le_iff_toInt_le, nI_toInt h, show (-nI 1 : Int32).toInt = -1 from by decide]
  omega
theorem nI_or (a b : Nat) : nI a ||| nI b = nI (a ||| b) := by
  apply Int32.toBitVec_inj.mp
  rw [Int32.toBitVec_or]
  show BitVec.ofNat 32 a ||| BitVec.ofNat 32 b = BitVec.ofNat 32 (a ||| b)
  rw [BitVec.ofNat_or]
theorem nI_and (a b : Nat) : nI a &&& nI b = nI (a &&& b) := by
  apply Int32.toBitVec_inj.mp
  rw [Int32.toBitVec_and]
  show BitVec.ofNat 32 a &&& BitVec.ofNat 32 b = BitVec.ofNat 32 (a &&& b)
  rw [BitVec.ofNat_and]
theorem sh_k : ∀ n, n < 32 → ((nI n).toBitVec.smod 32).toNat = n := by decide +kernel
theorem and31 {n : Nat} (h : n < 32) : n &&& 31 = n := (Nat.and_two_pow_sub_one_eq_mod n 5).trans (Nat.mod_eq_of_lt h)
theorem nI_shl {a n : Nat} (hn : n < 31) (h : a * 2 ^ n < 2 ^ 32) : nI a <<< nI n = nI (a * 2 ^ n) := pk_shlN _ n (sh_k n (by omega)) h
theorem nI_1shl {n : Nat} (hn : n < 31) : nI 1 <<< nI n = nI (2 ^ n) := by
  rw [nI_shl hn (by rw [Nat.one_mul]; exact Nat.pow_lt_pow_right (by decide) (by omega)), Nat.one_mul]
theorem nI_shr {a n : Nat} (hn : n < 31) (h : a < 2 ^ 31) : nI a >>> nI n = nI (a / 2 ^ n) := pk_shrN h _ n (sh_k n (by omega))
/-- a bit of a set -/
theorem bit_n {a n : Nat} : a / 2 ^ n &&& 1 = (a.testBit n).toNat := by
  rw [Nat.and_one_is_mod]
  rw [Nat.testBit_eq_decide_div_mod_eq]
  have : a / 2 ^ n % 2 < 2 := Nat.mod_lt _ (by decide)
  by_cases h1 : a / 2 ^ n % 2 = 1
  · simp [h1]
  · have h0 : a / 2 ^ n % 2 = 0 := by omega
    simp [h0]
theorem nI_b0 {b : Bool} : (nI b.toNat = nI 0) = (b = false) := by cases b <;> decide
theorem nI_b1 {b : Bool} : (nI b.toNat = nI 1) = (b = true) := by cases b <;> decide
/-- a walk over k, k + 1 .. -/
def itr {α : Type} (F : Nat → α → α) : Nat → Nat → α → α
  | _, 0, a => a
  | k, m + 1, a => itr F (k + 1) m (F k a)
theorem itr_congr {α : Type} {F G : Nat → α → α} : ∀ (m k : Nat) (a : α), (∀ j b, k ≤ j → j < k + m → F j b = G j b) → itr F k m a = itr G k m a
  | 0, _, _, _ => rfl
  | m + 1, k, a, h => by
    show itr F (k + 1) m (F k a) = itr G (k + 1) m (G k a)
    rw [h k a (Nat.le_refl k) (by omega)]
    exact itr_congr m (k + 1) _ fun j b h1 h2 => h j b (by omega) (by omega)
theorem itr_inv {α : Type} {F : Nat → α → α} (I : Nat → α → Prop) : ∀ (m k : Nat) (a : α), I k a → (∀ j b, k ≤ j → j < k + m → I j b → I (j + 1) (F j b)) → I (k + m) (itr F k m a)
  | 0, _, _, h, _ => h
  | m + 1, k, a, h, hs => by
    have := itr_inv (F := F) I m (k + 1) (F k a) (hs k a (Nat.le_refl k) (by omega) h) fun j b h1 h2 => hs j b (by omega) (by omega)
    rw [show k + (m + 1) = k + 1 + m from by omega]
    exact this
/-- the same walk on two sides -/
theorem itr_rel {α β : Type} {F : Nat → α → α} {G : Nat → β → β} (I : Nat → α → β → Prop) : ∀ (m k : Nat) (a : α) (b : β), I k a b → (∀ j x y, k ≤ j → j < k + m → I j x y → I (j + 1) (F j x) (G j y)) → I (k + m) (itr F k m a) (itr G k m b)
  | 0, _, _, _, h, _ => h
  | m + 1, k, a, b, h, hs => by
    have := itr_rel (F := F) (G := G) I m (k + 1) (F k a) (G k b) (hs k a b (Nat.le_refl k) (by omega) h) fun j x y h1 h2 => hs j x y (by omega) (by omega)
    rw [show k + (m + 1) = k + 1 + m from by omega]
    exact this
theorem itr_succ {α : Type} (F : Nat → α → α) : ∀ (m k : Nat) (a : α), itr F k (m + 1) a = F (k + m) (itr F k m a)
  | 0, _, _ => rfl
  | m + 1, k, a => by
    show itr F (k + 1) (m + 1) (F k a) = F (k + (m + 1)) (itr F (k + 1) m (F k a))
    rw [itr_succ F m (k + 1) (F k a), show k + 1 + m = k + (m + 1) from by omega]
/-- a loop that counts up to N -/
theorem loopG {ρ α : Type} {L : Nat → Den ρ} {S : Den ρ → Den ρ} (hL : ∀ n, L (n + 1) = S (L n)) (N : Nat) (lv : Nat → α → Lv) (wd : Nat → α → Wd) (F : Nat → α → α) (R : α → Option (ρ × Wd)) (Inv : Nat → α → Prop)
    (hs : ∀ K k a, k < N → Inv k a → S K (lv k a) [] (wd k a) = K (lv (k + 1) (F k a)) [] (wd (k + 1) (F k a)))
    (hi : ∀ k a, k < N → Inv k a → Inv (k + 1) (F k a))
    (he : ∀ K a, Inv N a → S K (lv N a) [] (wd N a) = R a) : ∀ m k a fuel, k + m = N → m < fuel → Inv k a → L fuel (lv k a) [] (wd k a) = R (itr F k m a)
  | 0, k, a, fuel + 1, e, _, hI => by
    have e : k = N := by omega
    subst e
    rw [hL, he _ _ hI]
    rfl
  | m + 1, k, a, fuel + 1, e, hf, hI => by
    rw [hL, hs _ k a (by omega) hI]
    exact loopG hL N lv wd F R Inv hs hi he m (k + 1) (F k a) fuel (by omega) (by omega) (hi k a (by omega) hI)
  | 0, _, _, 0, _, hf, _ => absurd hf (Nat.lt_irrefl 0)
  | _ + 1, _, _, 0, _, hf, _ => absurd hf (Nat.not_lt_zero _)
theorem FU_lt {n : Nat} (h : n < 5000) : n < FU := h
