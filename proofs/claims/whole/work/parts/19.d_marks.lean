/-! ===== undo, find, mark: both answer the same ===== -/
section MARKS
variable {w : Wd} {n : Nat}
/-- a call that changes what is done -/
theorem INV.go {α : Type} {f g : Wd → Option (α × Wd)} (h : INV n w)
    (hq : ∀ (c : Nat) (s : DSt) (S : VW) (nx u : Nat) (U : Nat → VW) (lb : Nat) (MS : Nat → VW) (MF : Nat → FD) (F : FD), BC w c s.V s.C S nx u U lb MS MF F → NUM n s.V s.C S u U lb MS MF F → ∃ r S' nx' u' U' lb' MS' MF' F' w1, f w = some (r, w1) ∧ BC w1 c s.V s.C S' nx' u' U' lb' MS' MF' F' ∧ CLQ w w1 ∧ NUM (n + 1) s.V s.C S' u' U' lb' MS' MF' F' ∧ (BR w1 s.V s.C S u U lb MS MF F → ∃ w2, g w1 = some (r, w2) ∧ BR w2 s.V s.C S' u' U' lb' MS' MF' F' ∧ RLQ w1 w2)) : SA n w f g := by
  obtain ⟨c, d, l, l2, s, S, nx, u, U, lb, MS, MF, F, ln, L, t, T, hB, hR, hN, hX⟩ := h
  obtain ⟨r, S', nx', u', U', lb', MS', MF', F', w1, g1, B1, C1, N1, hm⟩ := hq c s S nx u U lb MS MF F hB hN
  have X1 := hX.clq C1
  obtain ⟨w2, g2, R2, Q2⟩ := hm (hR.clq hN hB.u16 C1)
  exact ⟨r, w1, w2, g1, g2, c, d, l, l2, s, S', nx', u', U', lb', MS', MF', F', ln, L, t, T, BC.rlj B1 Q2.j, R2, N1, X1.rlj Q2.j⟩
theorem i_undo (h : INV n w) : SA n w (fun w => f_X10_undo [(.inr (.inr (some (9, 0))))] w) (fun w => f_X11_undo [(.inr (.inr (some (10, 0))))] w) := h.go fun c s S nx u U lb MS MF F hB hN => by
  have hu := hB.u16
  by_cases h0 : u = 0
  · exact ⟨_, S, nx, u, U, lb, MS, MF, F, w, c_undo0 hB h0, hB, CLQ.refl w, hN.succ, fun hR => m_undo0 hR hN h0⟩
  · obtain ⟨w1, g1, B1, C1⟩ := c_undo1 hB (by omega)
    have N1 := hN.succ
    exact ⟨_, U (u - 1), pb nx, u - 1, U, lb, MS, MF, F, w1, g1, B1, C1, ⟨N1.1, N1.2.1, N1.2.2.2.1 _ (by omega), fun j hj => N1.2.2.2.1 j (by omega), N1.2.2.2.2⟩, fun hR => m_undo1 hR hN (by omega) hu⟩
theorem i_find (h : INV n w) (x y : Int32) : SA n w (fun w => f_X10_find [(.inr (.inr (some (9, 0)))), (.inl (x)), (.inl (y))] w) (fun w => f_X11_find [(.inr (.inr (some (10, 0)))), (.inl (x)), (.inl (y))] w) := h.go fun c s S nx u U lb MS MF F hB hN => by
  obtain ⟨w1, g1, B1, C1⟩ := c_find hB hN x y
  have N1 := hN.succ
  have b7 := hN.1.P
  refine ⟨_, S, nx, u, U, lb, MS, MF, fdO s.V F x y, w1, g1, B1, C1, ⟨N1.1, N1.2.1, N1.2.2.1, N1.2.2.2.1, N1.2.2.2.2.1, ?_⟩, fun hR => m_find hR hN hB.u16 x y⟩
  have hF := N1.2.2.2.2.2
  unfold fdO
  by_cases ho : okFi s.V F x y = true
  · rw [if_pos ho]
    unfold okFi at ho
    obtain ⟨h1, h2⟩ := Bool.and_eq_true_iff.mp ho
    obtain ⟨h3, h4⟩ := Bool.and_eq_true_iff.mp h1
    have h2 := of_decide_eq_true h2
    rcases inR_cases x (show nP s.V < 2 ^ 31 from by omega) with hx | ⟨a, ha, rfl, -⟩
    · rw [hx] at h3; cases h3
    · rcases inR_cases y (n := 10000) (by omega) with hy | ⟨b, hb, rfl, -⟩
      · rw [hy] at h4; cases h4
      · rw [nI_clamp (by omega), nI_clamp (by omega)]
        refine ⟨by show F.1 + 1 ≤ 8; omega, fun k hk => ?_⟩
        have hk : k < F.1 + 1 := hk
        show (if k = F.1 then (a, b) else F.2 k).1 < nP s.V ∧ (if k = F.1 then (a, b) else F.2 k).2 ≤ 9999
        by_cases c : k = F.1
        · rw [if_pos c]; exact ⟨ha, by show b ≤ 9999; omega⟩
        · rw [if_neg c]; exact hF.2 k (by omega)
  · rw [if_neg ho]; exact hF
theorem i_mark (h : INV n w) (x : Int32) (bk : Bool) : SA n w (fun w => f_X10_mark [(.inr (.inr (some (9, 0)))), (.inl (x)), (.inl (b2 bk))] w) (fun w => f_X11_mark [(.inr (.inr (some (10, 0)))), (.inl (x)), (.inl (b2 bk))] w) := h.go fun c s S nx u U lb MS MF F hB hN => by
  have hu := hB.u16
  have N1 := hN.succ
  rcases inR_cases x (n := 4) (by omega) with hx | ⟨i, hi, rfl, -⟩
  · exact ⟨_, S, nx, u, U, lb, MS, MF, F, w, c_mark0 hB hx bk, hB, CLQ.refl w, N1, fun hR => m_mark0 hR hN hu hx bk⟩
  · cases bk with
    | false =>
      obtain ⟨w1, g1, B1, C1⟩ := c_mark1 hB hN hi
      refine ⟨_, S, nx, u, U, lb ||| 2 ^ i, setV MS i S, setV MF i F, F, w1, g1, B1, C1, ⟨N1.1, N1.2.1, N1.2.2.1, N1.2.2.2.1, fun m hm ht => ?_, N1.2.2.2.2.2⟩, fun hR => m_mark1 hR hN hu hi⟩
      unfold setV
      by_cases c : m = i
      · rw [if_pos c, if_pos c]; exact ⟨N1.2.2.1, N1.2.2.2.2.2⟩
      · rw [if_neg c, if_neg c]
        refine N1.2.2.2.2.1 m hm ?_
        rw [Nat.testBit_or, Nat.testBit_two_pow, decide_eq_false (fun q => c q.symm), Bool.or_false] at ht
        exact ht
    | true =>
      cases ht : lb.testBit i with
      | false => exact ⟨_, S, nx, u, U, lb, MS, MF, F, w, c_mark2 hB hi ht, hB, CLQ.refl w, N1, fun hR => m_mark2 hR hN hu hi ht⟩
      | true =>
        obtain ⟨w1, g1, B1, C1⟩ := c_mark3 hB hN hi ht
        obtain ⟨o1, o2⟩ := N1.2.2.2.2.1 i hi ht
        exact ⟨_, MS i, nx, 0, U, lb, MS, MF, MF i, w1, g1, B1, C1, ⟨N1.1, N1.2.1, o1, fun j hj => absurd hj (Nat.not_lt_zero j), N1.2.2.2.2.1, o2⟩, fun hR => m_mark3 hR hN hu hi ht⟩
end MARKS
