/-! ===== what holds between two calls ===== -/
def NmC (w : Wd) (c : Nat) (s : DSt) : Prop := (∀ p, p < nP s.V → w.2.1 33 c p = lN (cd 32 (s.P p))) ∧ (∀ d, d < nD s.V → w.2.1 41 c d = lN (cd 32 (s.D d)))
def XT (w : Wd) (c d l l2 : Nat) (s : DSt) (ln : Nat) (L : Nat → LT) (t : Nat) (T : Nat → Nat) : Prop := (LNc w l ln L ∧ LNm w ln L ∧ (∀ k, k < ln → OKL s.V (L k)) ∧ ln ≤ 40) ∧ (TPc w t T ∧ TPm w t T ∧ OKP t T) ∧ (w.2.2 323 0 0 = some d ∧ w.2.2 324 0 0 = some l ∧ w.2.2 325 0 0 = some l2 ∧ c ≠ d ∧ l ≠ l2) ∧ (NmC w c s ∧ TBn w s ∧ DOC s ∧ KWm w)
def INV (n : Nat) (w : Wd) : Prop := ∃ c d l l2 s S nx u U lb MS MF F ln L t T, BC w c s.V s.C S nx u U lb MS MF F ∧ BR w s.V s.C S u U lb MS MF F ∧ NUM n s.V s.C S u U lb MS MF F ∧ XT w c d l l2 s ln L t T
/-- what a call of the reference leaves to the class, the draw's number aside -/
def RLJ (w1 w2 : Wd) : Prop := (∀ f i k, f < 352 ∨ f = 353 ∨ f = 354 ∨ f = 368 ∨ f = 370 ∨ f = 373 → w2.1 f i k = w1.1 f i k) ∧ (∀ f i k, f ≠ 380 → w2.2.1 f i k = w1.2.1 f i k) ∧ w2.2.2 = w1.2.2
section INVS
variable {w w' : Wd} {c d l l2 n nx u lb ln t : Nat} {s : DSt} {S : VW} {U MS : Nat → VW} {MF : Nat → FD} {F : FD} {L : Nat → LT} {T : Nat → Nat}
theorem RLQ.j (h : RLQ w w') : RLJ w w' := ⟨h.1, fun f i k _ => by rw [h.2], by rw [h.2]⟩
theorem Keep.j {A : Nat → Nat → Nat → Prop} (h : Keep A w w') : KJ A w w' := ⟨h.1, fun f i k _ => by rw [h.2], by rw [h.2]⟩
theorem KJ.rlj (h : KJ AQm w w') : RLJ w w' := ⟨fun f i k q => h.1 f i k (fun e => by
  have e : f = 374 ∨ f = 375 ∨ f = 379 ∨ f = 352 ∨ (f = 376 ∧ 1008 ≤ k) := e
  omega), h.2.1, h.2.2⟩
theorem XT.clq (h : XT w c d l l2 s ln L t T) (hC : CLQ w w') : XT w' c d l l2 s ln L t T := by
  obtain ⟨⟨a1, a2, a3, a4⟩, ⟨b1, b2, b3⟩, hr, c1, c2, c3, c4⟩ := h
  have e : ∀ f i k, 352 ≤ f ∨ (64 ≤ f ∧ f ≤ 68) ∨ (288 ≤ f ∧ f ≤ 295) → w'.1 f i k = w.1 f i k := hC.1
  refine ⟨⟨⟨(e _ _ _ (by omega)).trans a1.1, fun k hk => ?_⟩, ⟨(e _ _ _ (by omega)).trans a2.1, fun k hk => ?_⟩, a3, a4⟩, ⟨⟨(e _ _ _ (by omega)).trans b1.1, fun k hk => (e _ _ _ (by omega)).trans (b1.2 k hk)⟩, ⟨(e _ _ _ (by omega)).trans b2.1, fun k hk => (e _ _ _ (by omega)).trans (b2.2 k hk)⟩, b3⟩, by rw [hC.2]; exact hr, by unfold NmC; rw [hC.2]; exact c1, ⟨(e _ _ _ (by omega)).trans c2.1, fun k hk => ⟨by rw [hC.2]; exact (c2.2 k hk).1, (e _ _ _ (by omega)).trans (c2.2 k hk).2⟩⟩, c3, by unfold KWm; rw [hC.2]; exact c4⟩
  · obtain ⟨x1, x2, x3, x4⟩ := a1.2 k hk
    exact ⟨by rw [hC.2]; exact x1, fun z => (e _ _ _ (by omega)).trans (x2 z), fun z => (e _ _ _ (by omega)).trans (x3 z), fun z => (e _ _ _ (by omega)).trans (x4 z)⟩
  · obtain ⟨x1, x2, x3, x4⟩ := a2.2 k hk
    exact ⟨(e _ _ _ (by omega)).trans x1, (e _ _ _ (by omega)).trans x2, (e _ _ _ (by omega)).trans x3, (e _ _ _ (by omega)).trans x4⟩
theorem XT.rlj (h : XT w c d l l2 s ln L t T) (hC : RLJ w w') : XT w' c d l l2 s ln L t T := by
  obtain ⟨⟨a1, a2, a3, a4⟩, ⟨b1, b2, b3⟩, hr, c1, c2, c3, c4⟩ := h
  have e : ∀ f i k, f < 352 ∨ f = 353 ∨ f = 354 ∨ f = 368 ∨ f = 370 ∨ f = 373 → w'.1 f i k = w.1 f i k := hC.1
  have e2 : ∀ f i k, f ≠ 380 → w'.2.1 f i k = w.2.1 f i k := hC.2.1
  refine ⟨⟨⟨(e _ _ _ (by omega)).trans a1.1, fun k hk => ?_⟩, ⟨(e _ _ _ (by omega)).trans a2.1, fun k hk => ?_⟩, a3, a4⟩, ⟨⟨(e _ _ _ (by omega)).trans b1.1, fun k hk => (e _ _ _ (by omega)).trans (b1.2 k hk)⟩, ⟨(e _ _ _ (by omega)).trans b2.1, fun k hk => (e _ _ _ (by omega)).trans (b2.2 k hk)⟩, b3⟩, by rw [hC.2.2]; exact hr, ⟨fun p hp => (e2 _ _ _ (by omega)).trans (c1.1 p hp), fun p hp => (e2 _ _ _ (by omega)).trans (c1.2 p hp)⟩, ⟨(e _ _ _ (by omega)).trans c2.1, fun k hk => ⟨(e2 _ _ _ (by omega)).trans (c2.2 k hk).1, (e _ _ _ (by omega)).trans (c2.2 k hk).2⟩⟩, c3, fun j hj => (e2 _ _ _ (by omega)).trans (c4 j hj)⟩
  · obtain ⟨x1, x2, x3, x4⟩ := a1.2 k hk
    exact ⟨by rw [hC.2.2]; exact x1, fun z => (e _ _ _ (by omega)).trans (x2 z), fun z => (e _ _ _ (by omega)).trans (x3 z), fun z => (e _ _ _ (by omega)).trans (x4 z)⟩
  · obtain ⟨x1, x2, x3, x4⟩ := a2.2 k hk
    exact ⟨(e _ _ _ (by omega)).trans x1, (e _ _ _ (by omega)).trans x2, (e _ _ _ (by omega)).trans x3, (e _ _ _ (by omega)).trans x4⟩
theorem BC.rlj {V : VW} {C : List Int32} (h : BC w c V C S nx u U lb MS MF F) (hR : RLJ w w') : BC w' c V C S nx u U lb MS MF F := by
  have h' : BC (w'.1, w.2) c V C S nx u U lb MS MF F := BC.rlq (w' := (w'.1, w.2)) h ⟨hR.1, rfl⟩
  exact ⟨⟨by rw [hR.2.2]; exact h.1.1, h'.1.2⟩, h'.2⟩
theorem NUM.succ {V : VW} {C : List Int32} (h : NUM n V C S u U lb MS MF F) : NUM (n + 1) V C S u U lb MS MF F := by
  obtain ⟨a, b, c, d, e, f⟩ := h
  have k : ∀ {X : VW}, OKT n V X → OKT (n + 1) V X := fun h => ⟨h.1, h.2.1, by have := h.2.2; omega⟩
  exact ⟨a, b, k c, fun j hj => k (d j hj), fun m hm ht => ⟨k (e m hm ht).1, (e m hm ht).2⟩, f⟩
theorem BC.u16 {V : VW} {C : List Int32} (h : BC w c V C S nx u U lb MS MF F) : u ≤ 16 := h.2.1.2.2.2.1
/-- both answer the same, and all holds on -/
def SA {α : Type} (n : Nat) (w : Wd) (f g : Wd → Option (α × Wd)) : Prop := ∃ r w1 w2, f w = some (r, w1) ∧ g w1 = some (r, w2) ∧ INV (n + 1) w2
/-- a question -/
theorem INV.ask {α : Type} {f g : Wd → Option (α × Wd)} (h : INV n w)
    (hq : ∀ c d l l2 s S nx u U lb MS MF F ln L t T, BC w c s.V s.C S nx u U lb MS MF F → BR w s.V s.C S u U lb MS MF F → NUM n s.V s.C S u U lb MS MF F → XT w c d l l2 s ln L t T → ∃ r w1, f w = some (r, w1) ∧ Keep AQc w w1 ∧ (BR w1 s.V s.C S u U lb MS MF F → XT w1 c d l l2 s ln L t T → ∃ w2, g w1 = some (r, w2) ∧ KJ AQm w1 w2)) : SA n w f g := by
  obtain ⟨c, d, l, l2, s, S, nx, u, U, lb, MS, MF, F, ln, L, t, T, hB, hR, hN, hX⟩ := h
  obtain ⟨r, w1, g1, K1, hm⟩ := hq c d l l2 s S nx u U lb MS MF F ln L t T hB hR hN hX
  have hu := hB.u16
  have B1 := hB.qc K1
  have R1 := hR.clq hN hu (clq_q K1)
  have X1 := hX.clq (clq_q K1)
  obtain ⟨w2, g2, K2⟩ := hm R1 X1
  exact ⟨r, w1, w2, g1, g2, c, d, l, l2, s, S, nx, u, U, lb, MS, MF, F, ln, L, t, T, B1.rlj K2.rlj, R1.qj hN hu K2, hN.succ, X1.rlj K2.rlj⟩
end INVS
