/-! ===== the deeds: both answer the same ===== -/
section DEEDS
variable {w : Wd} {n u lb : Nat} {V S : VW} {C : List Int32} {U MS : Nat → VW} {MF : Nat → FD} {F : FD}
theorem num_o {o : Option VW} (h : NUM n V C S u U lb MS MF F) (ho : ∀ S', o = some S' → OKT (n + 1) V S') : NUM (n + 1) V C (o.getD S) (uO o u) (UO o u U S) lb MS MF F := by
  have h1 := h.succ
  cases o with
  | none => exact h1
  | some S' =>
    refine ⟨h1.1, h1.2.1, ho S' rfl, fun j hj => ?_, h1.2.2.2.2⟩
    have hj : j < pu u := hj
    show OKT (n + 1) V (pushU u U S j)
    unfold pushU
    unfold pu at hj
    by_cases c : u = 16
    · rw [if_pos c]
      show OKT (n + 1) V (if j < 15 then U (j + 1) else S)
      by_cases c2 : j < 15
      · rw [if_pos c2]; exact h1.2.2.2.1 _ (by omega)
      · rw [if_neg c2]; exact h1.2.2.1
    · rw [if_neg c]
      show OKT (n + 1) V (if j < u then U j else S)
      by_cases c2 : j < u
      · rw [if_pos c2]; exact h1.2.2.2.1 _ c2
      · rw [if_neg c2]; exact h1.2.2.1
theorem INV.deed {α : Type} {f g : Wd → Option (α × Wd)} (h : INV n w)
    (hq : ∀ (c : Nat) (s : DSt) (S : VW) (nx u : Nat) (U : Nat → VW) (lb : Nat) (MS : Nat → VW) (MF : Nat → FD) (F : FD), BC w c s.V s.C S nx u U lb MS MF F → NUM n s.V s.C S u U lb MS MF F → ∃ r o w1, f w = some (r, w1) ∧ BCo w1 c s.V s.C S nx u U lb MS MF F o ∧ CLQ w w1 ∧ (∀ S', o = some S' → OKT (n + 1) s.V S') ∧ (BR w1 s.V s.C S u U lb MS MF F → ∃ w2, g w1 = some (r, w2) ∧ BRo w2 s.V s.C S u U lb MS MF F o ∧ RLQ w1 w2)) : SA n w f g := by
  obtain ⟨c, d, l, l2, s, S, nx, u, U, lb, MS, MF, F, ln, L, t, T, hB, hR, hN, hX⟩ := h
  obtain ⟨r, o, w1, g1, B1, C1, hO, hm⟩ := hq c s S nx u U lb MS MF F hB hN
  have hu := hB.u16
  have X1 := hX.clq C1
  obtain ⟨w2, g2, R2, Q2⟩ := hm (hR.clq hN hu C1)
  exact ⟨r, w1, w2, g1, g2, c, d, l, l2, s, o.getD S, nxO o nx, uO o u, UO o u U S, lb, MS, MF, F, ln, L, t, T, BC.rlj B1 Q2.j, R2, num_o hN hO, X1.rlj Q2.j⟩
theorem i_swim (h : INV n w) (hn : n ≤ 64) (x y : Int32) : SA n w (fun w => f_X10_swim [(.inr (.inr (some (9, 0)))), (.inl (x)), (.inl (y))] w) (fun w => f_X11_swim [(.inr (.inr (some (10, 0)))), (.inl (x)), (.inl (y))] w) := h.deed fun c s S nx u U lb MS MF F hB hN => by
  obtain ⟨w1, g1, B1, C1⟩ := c_swim hB hN x y
  have b4 := hN.1.D
  have b8 := hN.1.W
  refine ⟨_, _, w1, g1, B1, C1, fun S' ho => ?_, fun hR => m_swim hR hN hB.u16 x y⟩
  obtain ⟨a, b, ha, hb, -, -, hf⟩ := two_some (by omega) (by omega) ho
  exact (swimO_ok hN.1 hN.2.2.1 ha hb hf).1.mono (by omega)
theorem i_lay (h : INV n w) (hn : n ≤ 64) (x y : Int32) : SA n w (fun w => f_X10_lay [(.inr (.inr (some (9, 0)))), (.inl (x)), (.inl (y))] w) (fun w => f_X11_lay_ [(.inr (.inr (some (10, 0)))), (.inl (x)), (.inl (y))] w) := h.deed fun c s S nx u U lb MS MF F hB hN => by
  obtain ⟨w1, g1, B1, C1⟩ := c_lay hB hN x y
  have b4 := hN.1.D
  have b8 := hN.1.W
  refine ⟨_, _, w1, g1, B1, C1, fun S' ho => ?_, fun hR => m_lay hR hN hB.u16 x y⟩
  obtain ⟨a, b, ha, hb, -, -, hf⟩ := two_some (by omega) (by omega) ho
  exact (layO_ok hN.1 hN.2.2.1 ha hb hf).1.mono (by omega)
theorem i_stage (h : INV n w) (hn : n ≤ 64) (x y : Int32) : SA n w (fun w => f_X10_stage [(.inr (.inr (some (9, 0)))), (.inl (x)), (.inl (y))] w) (fun w => f_X11_stage [(.inr (.inr (some (10, 0)))), (.inl (x)), (.inl (y))] w) := h.deed fun c s S nx u U lb MS MF F hB hN => by
  obtain ⟨w1, g1, B1, C1⟩ := c_stage hB hN x y
  have b4 := hN.1.D
  refine ⟨_, _, w1, g1, B1, C1, fun S' ho => ?_, fun hR => m_stage hR hN hB.u16 x y⟩
  obtain ⟨a, b, ha, hb, -, -, hf⟩ := two_some (by omega) (by omega) ho
  exact (stgO_ok hN.1 hN.2.2.1 ha (amtF_some hf).2).1.mono (by omega)
theorem i_take (h : INV n w) (hn : n ≤ 64) (x y : Int32) : SA n w (fun w => f_X10_take [(.inr (.inr (some (9, 0)))), (.inl (x)), (.inl (y))] w) (fun w => f_X11_take [(.inr (.inr (some (10, 0)))), (.inl (x)), (.inl (y))] w) := h.deed fun c s S nx u U lb MS MF F hB hN => by
  obtain ⟨w1, g1, B1, C1⟩ := c_take hB hN x y
  have b4 := hN.1.D
  refine ⟨_, _, w1, g1, B1, C1, fun S' ho => ?_, fun hR => m_take hR hN hB.u16 x y⟩
  obtain ⟨a, b, ha, hb, -, -, hf⟩ := two_some (by omega) (by omega) ho
  exact (takO_ok hN.1 hN.2.2.1 ha (amtF_some hf).2).1.mono (by omega)
theorem i_share (h : INV n w) (hn : n ≤ 64) (x y z : Int32) : SA n w (fun w => f_X10_share [(.inr (.inr (some (9, 0)))), (.inl (x)), (.inl (y)), (.inl (z))] w) (fun w => f_X11_share [(.inr (.inr (some (10, 0)))), (.inl (x)), (.inl (y)), (.inl (z))] w) := h.deed fun c s S nx u U lb MS MF F hB hN => by
  obtain ⟨w1, g1, B1, C1⟩ := c_share hB hN x y z
  have b4 := hN.1.D
  refine ⟨_, _, w1, g1, B1, C1, fun S' ho => ?_, fun hR => m_share hR hN hB.u16 x y z⟩
  unfold gvO at ho
  rcases inR_cases x (show nD s.V < 2 ^ 31 from by omega) with hx | ⟨a, ha, rfl, hx'⟩
  · rw [hx] at ho; cases ho
  · rcases inR_cases y (show nD s.V < 2 ^ 31 from by omega) with hy | ⟨b, hb, rfl, hy'⟩
    · rw [hx', hy] at ho; cases ho
    · rw [if_pos hx', if_pos hy', nI_clamp (by omega), nI_clamp (by omega)] at ho
      split at ho
      · exact (givO_ok hN.1 hN.2.2.1 ha hb ho).1.mono (by omega)
      · cases ho
theorem i_stone (h : INV n w) (hn : n ≤ 64) (y : Int32) : SA n w (fun w => f_X10_stone [(.inr (.inr (some (9, 0)))), (.inl (y))] w) (fun w => f_X11_stone [(.inr (.inr (some (10, 0)))), (.inl (y))] w) := h.deed fun c s S nx u U lb MS MF F hB hN => by
  obtain ⟨w1, g1, B1, C1⟩ := c_stone hB hN y
  refine ⟨_, _, w1, g1, B1, C1, fun S' ho => ?_, fun hR => m_stone hR hN hB.u16 y⟩
  split at ho
  · exact (cutO_ok hN.2.2.1 ho).1.mono (by omega)
  · cases ho
theorem i_hour (h : INV n w) (hn : n ≤ 64) : SA n w (fun w => f_X10_hour [(.inr (.inr (some (9, 0))))] w) (fun w => f_X11_hour [(.inr (.inr (some (10, 0))))] w) := h.deed fun c s S nx u U lb MS MF F hB hN => by
  obtain ⟨w1, g1, B1, C1⟩ := c_hour hB hN
  refine ⟨_, _, w1, g1, B1, C1, fun S' ho => ?_, fun hR => m_hour hR hN hB.u16⟩
  cases ho
  have h3 := hN.2.2.1
  exact ⟨hrS_ok h3.1 (by have := h3.2.2; omega), hrS_z h3.1 h3.2.1, by rw [hrS_0]; have := h3.2.2; omega⟩
end DEEDS
