/-! ===== least sums over walks ===== -/
def Ed (V : VW) (by_ : Nat → Bool) (a b k : Nat) : Prop := k < nW V ∧ by_ k = true ∧ ((V 2 k = a ∧ V 3 k = b) ∨ (V 3 k = a ∧ V 2 k = b))
def Wk (V : VW) (by_ : Nat → Bool) (c : Nat → Nat) (s : Nat) : Nat → Nat → Nat → Prop
  | 0, p, x => p = s ∧ x = 0
  | n + 1, p, x => ∃ a k y, Wk V by_ c s n a y ∧ Ed V by_ a p k ∧ x = y + c k
def WP (V : VW) (by_ : Nat → Bool) (c : Nat → Nat) (s p x : Nat) : Prop := ∃ n, Wk V by_ c s n p x
theorem least_ex {P : Nat → Prop} : ∀ (n x : Nat), x < n → P x → ∃ d, P d ∧ ∀ y, P y → d ≤ y
  | 0, x, h, _ => absurd h (Nat.not_lt_zero x)
  | n + 1, x, h, hp => by
    by_cases hq : ∃ y, y < x ∧ P y
    · obtain ⟨y, h1, h2⟩ := hq
      exact least_ex n y (by omega) h2
    · exact ⟨x, hp, fun y hy => by
        by_cases h3 : x ≤ y
        · exact h3
        · exact absurd ⟨y, by omega, hy⟩ hq⟩
theorem least_of {P : Nat → Prop} (h : ∃ x, P x) : ∃ d, P d ∧ ∀ y, P y → d ≤ y := by
  obtain ⟨x, hx⟩ := h
  exact least_ex (x + 1) x (by omega) hx
section DIST
variable {V : VW} {by_ : Nat → Bool} {c : Nat → Nat} {s : Nat}
theorem dist_ex (V : VW) (by_ : Nat → Bool) (c : Nat → Nat) (s p : Nat) : ∃ o : Option Nat, (∀ x, o = some x → WP V by_ c s p x ∧ ∀ y, WP V by_ c s p y → x ≤ y) ∧ (o = none → ∀ y, ¬ WP V by_ c s p y) := by
  by_cases h : ∃ x, WP V by_ c s p x
  · obtain ⟨d, h1, h2⟩ := least_of h
    exact ⟨some d, fun x hx => by cases hx; exact ⟨h1, h2⟩, fun e => by cases e⟩
  · exact ⟨none, fun x hx => (by cases hx), fun _ y hy => h ⟨y, hy⟩⟩
noncomputable def dist (V : VW) (by_ : Nat → Bool) (c : Nat → Nat) (s p : Nat) : Option Nat := Classical.choose (dist_ex V by_ c s p)
theorem dist_some {p x : Nat} (h : dist V by_ c s p = some x) : WP V by_ c s p x ∧ ∀ y, WP V by_ c s p y → x ≤ y := (Classical.choose_spec (dist_ex V by_ c s p)).1 x h
theorem dist_none {p : Nat} (h : dist V by_ c s p = none) (y : Nat) : ¬ WP V by_ c s p y := (Classical.choose_spec (dist_ex V by_ c s p)).2 h y
theorem dist_le {p y : Nat} (h : WP V by_ c s p y) : ∃ z, dist V by_ c s p = some z ∧ z ≤ y := by
  cases hd : dist V by_ c s p with
  | none => exact absurd h (dist_none hd y)
  | some z => exact ⟨z, rfl, (dist_some hd).2 y h⟩
theorem WP.zero : WP V by_ c s s 0 := ⟨0, rfl, rfl⟩
theorem WP.step {a b k y : Nat} (h : WP V by_ c s a y) (he : Ed V by_ a b k) : WP V by_ c s b (y + c k) := by
  obtain ⟨n, h⟩ := h
  exact ⟨n + 1, a, k, y, h, he, rfl⟩
theorem dist_s : dist V by_ c s s = some 0 := by
  obtain ⟨z, h1, h2⟩ := dist_le (WP.zero (V := V) (by_ := by_) (c := c) (s := s))
  rw [h1, show z = 0 from by omega]
theorem dist_e {a b k y : Nat} (h : dist V by_ c s a = some y) (he : Ed V by_ a b k) : ∃ z, dist V by_ c s b = some z ∧ z ≤ y + c k := dist_le ((dist_some h).1.step he)
theorem dist_p {p x : Nat} (h : dist V by_ c s p = some x) (hp : p ≠ s) : ∃ a k y, dist V by_ c s a = some y ∧ Ed V by_ a p k ∧ x = y + c k := by
  obtain ⟨⟨n, hw⟩, hm⟩ := dist_some h
  cases n with
  | zero => exact absurd hw.1 hp
  | succ n =>
    obtain ⟨a, k, y, h1, h2, h3⟩ := hw
    obtain ⟨z, h4, h5⟩ := dist_le (⟨n, h1⟩ : WP V by_ c s a y)
    have h6 := hm _ ((dist_some h4).1.step h2)
    exact ⟨a, k, z, h4, h2, by omega⟩
theorem Ed.lt {a b k : Nat} (hV : OKV V) (h : Ed V by_ a b k) : a < nP V ∧ b < nP V := by
  obtain ⟨h1, -, h3 | h3⟩ := h
  · exact ⟨by rw [← h3.1]; exact hV.e1 h1, by rw [← h3.2]; exact hV.e2 h1⟩
  · exact ⟨by rw [← h3.1]; exact hV.e2 h1, by rw [← h3.2]; exact hV.e1 h1⟩
theorem Ed.symm {a b k : Nat} (h : Ed V by_ a b k) : Ed V by_ b a k := ⟨h.1, h.2.1, h.2.2.elim (fun q => Or.inr ⟨q.2, q.1⟩) (fun q => Or.inl ⟨q.2, q.1⟩)⟩
theorem dist_lt (hV : OKV V) {p x : Nat} (h : dist V by_ c s p = some x) (hs : s < nP V) : p < nP V := by
  by_cases e : p = s
  · omega
  · obtain ⟨a, k, y, -, h2, -⟩ := dist_p h e
    exact (h2.lt hV).2
/-- a walk back -/
theorem WP.front {a b k : Nat} (he : Ed V by_ a b k) : ∀ (n p x : Nat), Wk V by_ c b n p x → WP V by_ c a p (x + c k)
  | 0, p, x, h => by
    obtain ⟨rfl, rfl⟩ := h
    have := (WP.zero (V := V) (by_ := by_) (c := c) (s := a)).step he
    exact this
  | n + 1, p, x, h => by
    obtain ⟨a', k', y, h1, h2, h3⟩ := h
    have := (WP.front he n a' y h1).step h2
    rw [h3, show y + c k' + c k = y + c k + c k' from by omega]
    exact this
theorem WP.rev : ∀ (n p x : Nat), Wk V by_ c s n p x → WP V by_ c p s x
  | 0, p, x, h => by
    obtain ⟨rfl, rfl⟩ := h
    exact WP.zero
  | n + 1, p, x, h => by
    obtain ⟨a, k, y, h1, h2, h3⟩ := h
    obtain ⟨m, hm⟩ := WP.rev n a y h1
    rw [h3]
    exact WP.front h2.symm m s y hm
theorem dist_sym (p : Nat) : dist V by_ c s p = dist V by_ c p s := by
  cases h1 : dist V by_ c s p with
  | none =>
    cases h2 : dist V by_ c p s with
    | none => rfl
    | some x =>
      obtain ⟨⟨n, hn⟩, -⟩ := dist_some h2
      exact absurd (WP.rev n s x hn) (dist_none h1 x)
  | some x =>
    obtain ⟨⟨n, hn⟩, hm⟩ := dist_some h1
    obtain ⟨z, h3, h4⟩ := dist_le (WP.rev n p x hn)
    obtain ⟨⟨m, hm2⟩, -⟩ := dist_some h3
    have := hm z (WP.rev m s z hm2)
    rw [h3, show z = x from by omega]
theorem WP.trans {p q x y : Nat} (h : WP V by_ c s p x) : ∀ (n q y : Nat), Wk V by_ c p n q y → WP V by_ c s q (x + y)
  | 0, q, y, h2 => by
    obtain ⟨rfl, rfl⟩ := h2
    exact h
  | n + 1, q, y, h2 => by
    obtain ⟨a, k, z, h3, h4, h5⟩ := h2
    have := (WP.trans (q := q) (y := y) h n a z h3).step h4
    rw [h5, ← Nat.add_assoc]
    exact this
end DIST
/-! ranks -/
def cnt (p : Nat → Bool) : Nat → Nat
  | 0 => 0
  | n + 1 => cnt p n + (p n).toNat
theorem cnt_le (p : Nat → Bool) : ∀ n, cnt p n ≤ n
  | 0 => Nat.le_refl 0
  | n + 1 => by
    have := cnt_le p n
    have h2 : (p n).toNat ≤ 1 := by cases p n <;> decide
    show cnt p n + (p n).toNat ≤ n + 1
    omega
theorem cnt_mono {p q : Nat → Bool} (h : ∀ k, p k = true → q k = true) : ∀ n, cnt p n ≤ cnt q n
  | 0 => Nat.le_refl 0
  | n + 1 => by
    have := cnt_mono h n
    have h2 : (p n).toNat ≤ (q n).toNat := by
      cases hp : p n with
      | false => exact Nat.zero_le _
      | true => rw [h n hp]; exact Nat.le_refl _
    show cnt p n + (p n).toNat ≤ cnt q n + (q n).toNat
    omega
theorem cnt_lt {p q : Nat → Bool} (h : ∀ k, p k = true → q k = true) {j : Nat} (hp : p j = false) (hq : q j = true) : ∀ n, j < n → cnt p n < cnt q n
  | 0, hj => absurd hj (Nat.not_lt_zero j)
  | n + 1, hj => by
    show cnt p n + (p n).toNat < cnt q n + (q n).toNat
    by_cases e : j = n
    · subst e
      have := cnt_mono h j
      rw [hp, hq]
      show cnt p j + 0 < cnt q j + 1
      omega
    · have := cnt_lt h hp hq n (by omega)
      have h2 : (p n).toNat ≤ (q n).toNat := by
        cases hp : p n with
        | false => exact Nat.zero_le _
        | true => rw [h n hp]; exact Nat.le_refl _
      omega
theorem cnt_miss {p : Nat → Bool} {j : Nat} (hp : p j = false) : ∀ n, j < n → cnt p n < n
  | 0, hj => absurd hj (Nat.not_lt_zero j)
  | n + 1, hj => by
    show cnt p n + (p n).toNat < n + 1
    have h2 : (p n).toNat ≤ 1 := by cases p n <;> decide
    by_cases e : j = n
    · subst e
      have := cnt_le p j
      rw [hp]
      show cnt p j + 0 < j + 1
      omega
    · have := cnt_miss hp n (by omega)
      omega
def below (o : Option Nat) (x : Nat) : Bool := match o with
  | none => false
  | some z => decide (z < x)
section RANK
variable {V : VW} {by_ : Nat → Bool} {c : Nat → Nat} {s : Nat}
/-- how many places lie nearer -/
noncomputable def rnk (V : VW) (by_ : Nat → Bool) (c : Nat → Nat) (s x : Nat) : Nat := cnt (fun q => below (dist V by_ c s q) x) 7
theorem rnk_lt (hV : OKV V) {a x y : Nat} (ha : dist V by_ c s a = some y) (h7 : a < 7) (h : y < x) : rnk V by_ c s y < rnk V by_ c s x := by
  unfold rnk
  refine cnt_lt (fun k hk => ?_) (j := a) ?_ ?_ 7 h7
  · unfold below at hk ⊢
    cases hd : dist V by_ c s k with
    | none => rw [hd] at hk; cases hk
    | some z =>
      rw [hd] at hk
      have : z < y := of_decide_eq_true hk
      exact decide_eq_true (by omega)
  · unfold below
    rw [ha]
    exact decide_eq_false (Nat.lt_irrefl y)
  · unfold below
    rw [ha]
    exact decide_eq_true h
theorem rnk_6 {a x : Nat} (ha : dist V by_ c s a = some x) (h7 : a < 7) : rnk V by_ c s x ≤ 6 := by
  unfold rnk
  have := cnt_miss (p := fun q => below (dist V by_ c s q) x) (j := a) (by
    show below (dist V by_ c s a) x = false
    unfold below
    rw [ha]
    exact decide_eq_false (Nat.lt_irrefl x)) 7 h7
  omega
/-- with each way at 1: at most 6 -/
theorem dist_rnk (hV : OKV V) (hs : s < nP V) (hc : ∀ k, c k = 1) : ∀ (n p x : Nat), x < n → dist V by_ c s p = some x → x ≤ rnk V by_ c s x
  | 0, _, x, h, _ => absurd h (Nat.not_lt_zero x)
  | n + 1, p, x, h, hd => by
    have b7 := hV.P
    by_cases e : p = s
    · subst e
      rw [dist_s] at hd
      cases hd
      exact Nat.zero_le _
    · obtain ⟨a, k, y, h1, h2, h3⟩ := dist_p hd e
      have hck := hc k
      have ih := dist_rnk hV hs hc n a y (by omega) h1
      have := rnk_lt hV h1 (by have := (h2.lt hV).1; omega) (show y < x from by omega)
      omega
theorem dist_6 (hV : OKV V) (hs : s < nP V) (hc : ∀ k, c k = 1) {p x : Nat} (h : dist V by_ c s p = some x) : x ≤ 6 := by
  have b7 := hV.P
  have h1 := dist_rnk hV hs hc (x + 1) p x (by omega) h
  have h2 := rnk_6 h (by have := dist_lt hV h hs; omega)
  omega
/-- what a round does to a row of sums -/
def Rnd (V : VW) (by_ : Nat → Bool) (c : Nat → Nat) (L L' : Nat → Option Nat) : Prop := (∀ p x, L p = some x → ∃ z, L' p = some z ∧ z ≤ x) ∧ ∀ a b k y, Ed V by_ a b k → L a = some y → ∃ z, L' b = some z ∧ z ≤ y + c k
def Sou (V : VW) (by_ : Nat → Bool) (c : Nat → Nat) (s : Nat) (L : Nat → Option Nat) : Prop := (∀ p x, L p = some x → WP V by_ c s p x) ∧ L s = some 0
/-- a row that no round changes -/
theorem fix_dist {L : Nat → Option Nat} (h : Sou V by_ c s L) (hr : ∀ a b k y, Ed V by_ a b k → L a = some y → ∃ z, L b = some z ∧ z ≤ y + c k) (p : Nat) : L p = dist V by_ c s p := by
  have key : ∀ n p x, Wk V by_ c s n p x → ∃ z, L p = some z ∧ z ≤ x := by
    intro n
    induction n with
    | zero =>
      rintro p x ⟨rfl, rfl⟩
      exact ⟨0, h.2, Nat.le_refl 0⟩
    | succ n ih =>
      rintro p x ⟨a, k, y, h1, h2, h3⟩
      obtain ⟨z, h4, h5⟩ := ih a y h1
      obtain ⟨u, h6, h7⟩ := hr a p k z h2 h4
      exact ⟨u, h6, by omega⟩
  cases hd : dist V by_ c s p with
  | none =>
    cases hl : L p with
    | none => rfl
    | some x => exact absurd (h.1 p x hl) (dist_none hd x)
  | some x =>
    obtain ⟨⟨n, hn⟩, hm⟩ := dist_some hd
    obtain ⟨z, h1, h2⟩ := key n p x hn
    have := hm z (h.1 p z h1)
    rw [h1, show z = x from by omega]
/-- after n rounds all of rank n stand -/
theorem rnd_dist (hV : OKV V) (hs : s < nP V) (hc : ∀ k, k < nW V → 1 ≤ c k) (L : Nat → Nat → Option Nat) (h0 : ∀ n, Sou V by_ c s (L n)) (hr : ∀ n, Rnd V by_ c (L n) (L (n + 1))) : ∀ (n p x : Nat), dist V by_ c s p = some x → rnk V by_ c s x ≤ n → L n p = some x := by
  have b7 := hV.P
  intro n
  have base : ∀ m, L m s = some 0 := fun m => (h0 m).2
  have fin : ∀ m p x z, dist V by_ c s p = some x → L m p = some z → z ≤ x → L m p = some x := fun m p x z h1 h2 h3 => by
    have := (dist_some h1).2 z ((h0 m).1 p z h2)
    rw [h2, show z = x from by omega]
  induction n with
  | zero =>
    intro p x hd hk
    by_cases e : p = s
    · subst e
      rw [dist_s] at hd
      cases hd
      exact base 0
    · obtain ⟨a, k, y, h1, h2, h3⟩ := dist_p hd e
      have := hc k h2.1
      have := rnk_lt hV h1 (by have := (h2.lt hV).1; omega) (show y < x from by omega)
      omega
  | succ n ih =>
    intro p x hd hk
    by_cases e : p = s
    · subst e
      rw [dist_s] at hd
      cases hd
      exact base _
    · obtain ⟨a, k, y, h1, h2, h3⟩ := dist_p hd e
      have := hc k h2.1
      have := rnk_lt hV h1 (by have := (h2.lt hV).1; omega) (show y < x from by omega)
      have h4 := ih a y h1 (by omega)
      obtain ⟨z, h5, h6⟩ := (hr n).2 a p k y h2 h4
      exact fin _ p x z hd h5 (by omega)
theorem rnd_6 (hV : OKV V) (hs : s < nP V) (hc : ∀ k, k < nW V → 1 ≤ c k) (L : Nat → Nat → Option Nat) (h0 : ∀ n, Sou V by_ c s (L n)) (hr : ∀ n, Rnd V by_ c (L n) (L (n + 1))) {n : Nat} (hn : 6 ≤ n) (p : Nat) : L n p = dist V by_ c s p := by
  have b7 := hV.P
  cases hd : dist V by_ c s p with
  | none =>
    cases hl : L n p with
    | none => rfl
    | some x => exact absurd ((h0 n).1 p x hl) (dist_none hd x)
  | some x =>
    exact rnd_dist hV hs hc L h0 hr n p x hd (by
      have := rnk_6 hd (by have := dist_lt hV hd hs; omega)
      omega)
/-- the same for sets -/
theorem rnd_set (hV : OKV V) (hs : s < nP V) (hc : ∀ k, k < nW V → 1 ≤ c k) (R : Nat → Nat → Bool) (h0 : ∀ n, R n s = true) (hso : ∀ n p, R n p = true → (dist V by_ c s p).isSome = true) (hr : ∀ n a b k, Ed V by_ a b k → R n a = true → R (n + 1) b = true) {n : Nat} (hn : 6 ≤ n) (p : Nat) : R n p = (dist V by_ c s p).isSome := by
  have b7 := hV.P
  have key : ∀ (n p x : Nat), dist V by_ c s p = some x → rnk V by_ c s x ≤ n → R n p = true := by
    intro n
    induction n with
    | zero =>
      intro p x hd hk
      by_cases e : p = s
      · subst e; exact h0 0
      · obtain ⟨a, k, y, h1, h2, h3⟩ := dist_p hd e
        have := hc k h2.1
        have := rnk_lt hV h1 (by have := (h2.lt hV).1; omega) (show y < x from by omega)
        omega
    | succ n ih =>
      intro p x hd hk
      by_cases e : p = s
      · subst e; exact h0 _
      · obtain ⟨a, k, y, h1, h2, h3⟩ := dist_p hd e
        have := hc k h2.1
        have := rnk_lt hV h1 (by have := (h2.lt hV).1; omega) (show y < x from by omega)
        exact hr n a p k h2 (ih a y h1 (by omega))
  cases hd : dist V by_ c s p with
  | none =>
    cases hl : R n p with
    | false => rfl
    | true =>
      have := hso n p hl
      rw [hd] at this
      cases this
  | some x =>
    exact key n p x hd (by
      have := rnk_6 hd (by have := dist_lt hV hd hs; omega)
      omega)
/-- who is reached doesn't hang on the prices -/
theorem reach_c {c' : Nat → Nat} (p : Nat) : (dist V by_ c s p).isSome = (dist V by_ c' s p).isSome := by
  have key : ∀ c c' : Nat → Nat, (dist V by_ c s p).isSome = true → (dist V by_ c' s p).isSome = true := fun c c' h => by
    have go : ∀ n p x, Wk V by_ c s n p x → ∃ y, WP V by_ c' s p y := by
      intro n
      induction n with
      | zero =>
        rintro p x ⟨rfl, rfl⟩
        exact ⟨0, WP.zero⟩
      | succ n ih =>
        rintro p x ⟨a, k, y, h1, h2, -⟩
        obtain ⟨z, hz⟩ := ih a y h1
        exact ⟨_, hz.step h2⟩
    cases hd : dist V by_ c s p with
    | none => rw [hd] at h; cases h
    | some x =>
      obtain ⟨⟨n, hn⟩, -⟩ := dist_some hd
      obtain ⟨y, hy⟩ := go n p x hn
      obtain ⟨z, h1, -⟩ := dist_le hy
      rw [h1]; rfl
  cases h1 : (dist V by_ c s p).isSome with
  | true => exact (key c c' h1).symm
  | false =>
    cases h2 : (dist V by_ c' s p).isSome with
    | false => rfl
    | true => rw [key c' c h2] at h1; cases h1
end RANK
/-! one way, in both directions -/
def lower (L : Nat → Option Nat) (a b c : Nat) : Nat → Option Nat := match L a with
  | none => L
  | some y => match L b with
    | none => fun q => if q = b then some (y + c) else L q
    | some z => if z ≤ y + c then L else fun q => if q = b then some (y + c) else L q
section LOWER
variable {V : VW} {by_ : Nat → Bool} {c : Nat → Nat} {s : Nat}
theorem lower_mono (L : Nat → Option Nat) (a b c p x : Nat) (h : L p = some x) : ∃ z, lower L a b c p = some z ∧ z ≤ x := by
  unfold lower
  cases ha : L a with
  | none => exact ⟨x, h, Nat.le_refl x⟩
  | some y =>
    cases hb : L b with
    | none =>
      show ∃ z, (if p = b then some (y + c) else L p) = some z ∧ z ≤ x
      rw [if_neg (fun e => by rw [e, hb] at h; cases h)]
      exact ⟨x, h, Nat.le_refl x⟩
    | some z =>
      show ∃ u, (if z ≤ y + c then L else fun q => if q = b then some (y + c) else L q) p = some u ∧ u ≤ x
      by_cases h1 : z ≤ y + c
      · rw [if_pos h1]; exact ⟨x, h, Nat.le_refl x⟩
      · rw [if_neg h1]
        show ∃ u, (if p = b then some (y + c) else L p) = some u ∧ u ≤ x
        by_cases e : p = b
        · rw [if_pos e]
          rw [e, hb] at h
          cases h
          exact ⟨_, rfl, by omega⟩
        · rw [if_neg e]; exact ⟨x, h, Nat.le_refl x⟩
theorem lower_b (L : Nat → Option Nat) (a b c y : Nat) (h : L a = some y) : ∃ z, lower L a b c b = some z ∧ z ≤ y + c := by
  unfold lower
  rw [h]
  cases hb : L b with
  | none =>
    show ∃ z, (if b = b then some (y + c) else L b) = some z ∧ z ≤ y + c
    rw [if_pos rfl]
    exact ⟨_, rfl, Nat.le_refl _⟩
  | some z =>
    show ∃ u, (if z ≤ y + c then L else fun q => if q = b then some (y + c) else L q) b = some u ∧ u ≤ y + c
    by_cases h1 : z ≤ y + c
    · rw [if_pos h1]; exact ⟨z, hb, h1⟩
    · rw [if_neg h1]
      show ∃ u, (if b = b then some (y + c) else L b) = some u ∧ u ≤ y + c
      rw [if_pos rfl]
      exact ⟨_, rfl, Nat.le_refl _⟩
theorem lower_q (L : Nat → Option Nat) (a b c p x : Nat) (h : lower L a b c p = some x) : L p = some x ∨ (p = b ∧ ∃ y, L a = some y ∧ x = y + c) := by
  unfold lower at h
  cases ha : L a with
  | none => rw [ha] at h; exact Or.inl h
  | some y =>
    rw [ha] at h
    cases hb : L b with
    | none =>
      rw [hb] at h
      have h : (if p = b then some (y + c) else L p) = some x := h
      by_cases e : p = b
      · rw [if_pos e] at h; cases h; exact Or.inr ⟨e, y, rfl, rfl⟩
      · rw [if_neg e] at h; exact Or.inl h
    | some z =>
      rw [hb] at h
      have h : (if z ≤ y + c then L else fun q => if q = b then some (y + c) else L q) p = some x := h
      by_cases h1 : z ≤ y + c
      · rw [if_pos h1] at h; exact Or.inl h
      · rw [if_neg h1] at h
        have h : (if p = b then some (y + c) else L p) = some x := h
        by_cases e : p = b
        · rw [if_pos e] at h; cases h; exact Or.inr ⟨e, y, rfl, rfl⟩
        · rw [if_neg e] at h; exact Or.inl h
theorem lower_sou {L : Nat → Option Nat} {a b k : Nat} (h : Sou V by_ c s L) (he : Ed V by_ a b k) : Sou V by_ c s (lower L a b (c k)) := by
  refine ⟨fun p x hx => ?_, ?_⟩
  · rcases lower_q L a b (c k) p x hx with h1 | ⟨rfl, y, h1, rfl⟩
    · exact h.1 p x h1
    · exact (h.1 a y h1).step he
  · obtain ⟨z, h1, h2⟩ := lower_mono L a b (c k) s 0 h.2
    rw [h1, show z = 0 from by omega]
/-- both ways through k, from e to e' first -/
def both2 (L : Nat → Option Nat) (a b c : Nat) : Nat → Option Nat := lower (lower L a b c) b a c
theorem both2_mono (L : Nat → Option Nat) (a b c p x : Nat) (h : L p = some x) : ∃ z, both2 L a b c p = some z ∧ z ≤ x := by
  obtain ⟨y, h1, h2⟩ := lower_mono L a b c p x h
  obtain ⟨z, h3, h4⟩ := lower_mono (lower L a b c) b a c p y h1
  exact ⟨z, h3, by omega⟩
theorem both2_ab (L : Nat → Option Nat) (a b c y : Nat) (h : L a = some y) : ∃ z, both2 L a b c b = some z ∧ z ≤ y + c := by
  obtain ⟨u, h1, h2⟩ := lower_b L a b c y h
  obtain ⟨z, h3, h4⟩ := lower_mono (lower L a b c) b a c b u h1
  exact ⟨z, h3, by omega⟩
theorem both2_ba (L : Nat → Option Nat) (a b c y : Nat) (h : L b = some y) : ∃ z, both2 L a b c a = some z ∧ z ≤ y + c := by
  obtain ⟨u, h1, h2⟩ := lower_mono L a b c b y h
  obtain ⟨z, h3, h4⟩ := lower_b (lower L a b c) b a c u h1
  exact ⟨z, h3, by omega⟩
/-- one way of a round: f says which end is first -/
def stepW (V : VW) (by_ : Nat → Bool) (c : Nat → Nat) (f : Bool) (k : Nat) (L : Nat → Option Nat) : Nat → Option Nat := if by_ k then (if f then both2 L (V 2 k) (V 3 k) (c k) else both2 L (V 3 k) (V 2 k) (c k)) else L
def roundW (V : VW) (by_ : Nat → Bool) (c : Nat → Nat) (f : Bool) (L : Nat → Option Nat) : Nat → Option Nat := itr (stepW V by_ c f) 0 (nW V) L
theorem stepW_mono (f : Bool) (k : Nat) (L : Nat → Option Nat) (p x : Nat) (h : L p = some x) : ∃ z, stepW V by_ c f k L p = some z ∧ z ≤ x := by
  unfold stepW
  cases by_ k with
  | false => exact ⟨x, h, Nat.le_refl x⟩
  | true => cases f with
    | true => exact both2_mono _ _ _ _ _ _ h
    | false => exact both2_mono _ _ _ _ _ _ h
theorem stepW_e (f : Bool) {k a b y : Nat} (L : Nat → Option Nat) (he : Ed V by_ a b k) (h : L a = some y) : ∃ z, stepW V by_ c f k L b = some z ∧ z ≤ y + c k := by
  unfold stepW
  obtain ⟨-, h2, h3⟩ := he
  rw [h2, if_pos rfl]
  rcases h3 with ⟨rfl, rfl⟩ | ⟨rfl, rfl⟩
  · cases f with
    | true => exact both2_ab _ _ _ _ _ h
    | false => exact both2_ba _ _ _ _ _ h
  · cases f with
    | true => exact both2_ba _ _ _ _ _ h
    | false => exact both2_ab _ _ _ _ _ h
theorem stepW_sou (f : Bool) {k : Nat} (hk : k < nW V) {L : Nat → Option Nat} (h : Sou V by_ c s L) : Sou V by_ c s (stepW V by_ c f k L) := by
  unfold stepW
  cases hb : by_ k with
  | false => exact h
  | true =>
    have e1 : Ed V by_ (V 2 k) (V 3 k) k := ⟨hk, hb, Or.inl ⟨rfl, rfl⟩⟩
    cases f with
    | true => exact lower_sou (lower_sou h e1) e1.symm
    | false => exact lower_sou (lower_sou h e1.symm) e1
theorem itr_mono (f : Bool) : ∀ (m k : Nat) (L : Nat → Option Nat) (p x : Nat), L p = some x → ∃ z, itr (stepW V by_ c f) k m L p = some z ∧ z ≤ x
  | 0, _, _, _, x, h => ⟨x, h, Nat.le_refl x⟩
  | m + 1, k, L, p, x, h => by
    obtain ⟨y, h1, h2⟩ := stepW_mono (V := V) (by_ := by_) (c := c) f k L p x h
    obtain ⟨z, h3, h4⟩ := itr_mono f m (k + 1) _ p y h1
    exact ⟨z, h3, by omega⟩
theorem itr_e (f : Bool) {a b j : Nat} (he : Ed V by_ a b j) : ∀ (m k : Nat) (L : Nat → Option Nat) (y : Nat), k ≤ j → j < k + m → L a = some y → ∃ z, itr (stepW V by_ c f) k m L b = some z ∧ z ≤ y + c j
  | 0, _, _, _, h1, h2, _ => by omega
  | m + 1, k, L, y, h1, h2, h => by
    by_cases e : k = j
    · subst e
      obtain ⟨z, h3, h4⟩ := stepW_e (c := c) f L he h
      obtain ⟨u, h5, h6⟩ := itr_mono (V := V) (by_ := by_) (c := c) f m (k + 1) _ b z h3
      exact ⟨u, h5, by omega⟩
    · obtain ⟨z, h3, h4⟩ := stepW_mono (V := V) (by_ := by_) (c := c) f k L a y h
      obtain ⟨u, h5, h6⟩ := itr_e f he m (k + 1) _ z (by omega) (by omega) h3
      exact ⟨u, h5, by omega⟩
theorem itr_sou (f : Bool) : ∀ (m k : Nat) (L : Nat → Option Nat), k + m ≤ nW V → Sou V by_ c s L → Sou V by_ c s (itr (stepW V by_ c f) k m L)
  | 0, _, _, _, h => h
  | m + 1, k, L, h1, h => itr_sou f m (k + 1) _ (by omega) (stepW_sou f (by omega) h)
theorem round_rnd (f : Bool) (L : Nat → Option Nat) : Rnd V by_ c L (roundW V by_ c f L) := ⟨fun p x h => itr_mono f _ _ L p x h, fun a b k y he h => itr_e f he _ _ L y (Nat.zero_le k) (by have := he.1; omega) h⟩
theorem round_sou (f : Bool) {L : Nat → Option Nat} (h : Sou V by_ c s L) : Sou V by_ c s (roundW V by_ c f L) := itr_sou f _ _ L (by omega) h
def L0 (s : Nat) : Nat → Option Nat := fun p => if p = s then some 0 else none
theorem L0_sou : Sou V by_ c s (L0 s) := by
  refine ⟨fun p x h => ?_, if_pos rfl⟩
  unfold L0 at h
  by_cases e : p = s
  · rw [if_pos e] at h
    cases h
    rw [e]
    exact WP.zero
  · rw [if_neg e] at h
    cases h
def rounds (V : VW) (by_ : Nat → Bool) (c : Nat → Nat) (s : Nat) (f : Bool) : Nat → Nat → Option Nat
  | 0 => L0 s
  | n + 1 => roundW V by_ c f (rounds V by_ c s f n)
theorem rounds_sou (f : Bool) : ∀ n, Sou V by_ c s (rounds V by_ c s f n)
  | 0 => L0_sou
  | n + 1 => round_sou f (rounds_sou f n)
theorem rounds_dist (hV : OKV V) (hs : s < nP V) (hc : ∀ k, k < nW V → 1 ≤ c k) (f : Bool) {n : Nat} (hn : 6 ≤ n) (p : Nat) : rounds V by_ c s f n p = dist V by_ c s p := rnd_6 hV hs hc (rounds V by_ c s f) (rounds_sou f) (fun n => round_rnd f _) hn p
/-- sums stay small -/
def Bnd (B : Nat) (L : Nat → Option Nat) : Prop := ∀ p x, L p = some x → x ≤ B
theorem lower_bnd {B : Nat} {L : Nat → Option Nat} {a b c : Nat} (h : Bnd B L) (hc : c ≤ 198) : Bnd (B + 198) (lower L a b c) := fun p x hx => by
  rcases lower_q L a b c p x hx with h1 | ⟨-, y, h1, rfl⟩
  · have := h p x h1; omega
  · have := h a y h1; omega
theorem Bnd.mono {B B' : Nat} {L : Nat → Option Nat} (h : Bnd B L) (hB : B ≤ B') : Bnd B' L := fun p x hx => Nat.le_trans (h p x hx) hB
theorem stepW_bnd {B : Nat} (f : Bool) {k : Nat} {L : Nat → Option Nat} (h : Bnd B L) (hc : c k ≤ 198) : Bnd (B + 396) (stepW V by_ c f k L) := by
  unfold stepW
  cases by_ k with
  | false => exact h.mono (by omega)
  | true => cases f with
    | true => exact (lower_bnd (lower_bnd h hc) hc).mono (by omega)
    | false => exact (lower_bnd (lower_bnd h hc) hc).mono (by omega)
end LOWER
