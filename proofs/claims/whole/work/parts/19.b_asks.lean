/-! ===== the questions: both answer the same ===== -/
section ASKS
variable {w : Wd} {n : Nat}
theorem i_place (h : INV n w) (hn : n ≤ 64) (x y : Int32) : SA n w (fun w => f_X10_place [(.inr (.inr (some (9, 0)))), (.inl (x)), (.inl (y))] w) (fun w => f_X11_place [(.inr (.inr (some (10, 0)))), (.inl (x)), (.inl (y))] w) := h.ask fun c d l l2 s S nx u U lb MS MF F ln L t T hB hR hN hX => by
  exact ⟨_, w, c_place hB.1 (hN.hv hn) x y, Keep.refl w, fun hR1 _ => ⟨_, m_place hR1.1 (hN.hv hn) x y, (Keep.sI (Or.inr (Or.inr (Or.inr (Or.inl rfl))))).j⟩⟩
theorem i_way (h : INV n w) (hn : n ≤ 64) (x y : Int32) : SA n w (fun w => f_X10_way [(.inr (.inr (some (9, 0)))), (.inl (x)), (.inl (y))] w) (fun w => f_X11_way [(.inr (.inr (some (10, 0)))), (.inl (x)), (.inl (y))] w) := h.ask fun c d l l2 s S nx u U lb MS MF F ln L t T hB hR hN hX => by
  exact ⟨_, w, c_way hB.1 (hN.hv hn) x y, Keep.refl w, fun hR1 _ => ⟨_, m_way hR1.1 (hN.hv hn) x y, (Keep.sI (Or.inr (Or.inr (Or.inr (Or.inl rfl))))).j⟩⟩
theorem i_diver (h : INV n w) (hn : n ≤ 64) (x y : Int32) : SA n w (fun w => f_X10_diver [(.inr (.inr (some (9, 0)))), (.inl (x)), (.inl (y))] w) (fun w => f_X11_diver [(.inr (.inr (some (10, 0)))), (.inl (x)), (.inl (y))] w) := h.ask fun c d l l2 s S nx u U lb MS MF F ln L t T hB hR hN hX => by
  exact ⟨_, w, c_diver hB.1 (hN.hv hn) x y, Keep.refl w, fun hR1 _ => ⟨_, m_diver hR1.1 (hN.hv hn) x y, (Keep.sI (Or.inr (Or.inr (Or.inr (Or.inl rfl))))).j⟩⟩
theorem i_cost (h : INV n w) (hn : n ≤ 64) (x y : Int32) : SA n w (fun w => f_X10_cost [(.inr (.inr (some (9, 0)))), (.inl (x)), (.inl (y))] w) (fun w => f_X11_cost [(.inr (.inr (some (10, 0)))), (.inl (x)), (.inl (y))] w) := h.ask fun c d l l2 s S nx u U lb MS MF F ln L t T hB hR hN hX => by
  obtain ⟨w1, g1, K1⟩ := c_cost hB.1 (hN.hv hn) x y
  exact ⟨_, w1, g1, K1, fun hR1 _ => by
    obtain ⟨w2, g2, K2⟩ := m_cost hR1.1 (hN.hv hn) x y
    exact ⟨w2, g2, K2.j⟩⟩
theorem i_open (h : INV n w) (hn : n ≤ 64) : SA n w (fun w => f_X10_open [(.inr (.inr (some (9, 0))))] w) (fun w => f_X11_open [(.inr (.inr (some (10, 0))))] w) := h.ask fun c d l l2 s S nx u U lb MS MF F ln L t T hB hR hN hX => by
  exact ⟨_, w, c_open hB.1 (hN.hv hn), Keep.refl w, fun hR1 _ => ⟨_, m_open hR1.1 (hN.hv hn), (Keep.sI (Or.inr (Or.inr (Or.inr (Or.inl rfl))))).j⟩⟩
theorem i_spent (h : INV n w) (hn : n ≤ 64) : SA n w (fun w => f_X10_spent [(.inr (.inr (some (9, 0))))] w) (fun w => f_X11_spent [(.inr (.inr (some (10, 0))))] w) := h.ask fun c d l l2 s S nx u U lb MS MF F ln L t T hB hR hN hX => by
  exact ⟨_, w, c_spent hB.1, Keep.refl w, fun hR1 _ => ⟨_, m_spent hR1.1, (Keep.sI (Or.inr (Or.inr (Or.inr (Or.inl rfl))))).j⟩⟩
theorem i_needs (h : INV n w) (hn : n ≤ 64) (x y : Int32) : SA n w (fun w => f_X10_needs [(.inr (.inr (some (9, 0)))), (.inl (x)), (.inl (y))] w) (fun w => f_X11_needs [(.inr (.inr (some (10, 0)))), (.inl (x)), (.inl (y))] w) := h.ask fun c d l l2 s S nx u U lb MS MF F ln L t T hB hR hN hX => by
  obtain ⟨w1, g1, K1⟩ := c_needs hB.1 (hN.hv hn) x y
  exact ⟨_, w1, g1, K1, fun hR1 _ => by
    obtain ⟨w2, g2, K2⟩ := m_needs hR1.1 (hN.hv hn) x y
    exact ⟨w2, g2, K2.j⟩⟩
theorem i_out (h : INV n w) (hn : n ≤ 64) (x : Int32) : SA n w (fun w => f_X10_out [(.inr (.inr (some (9, 0)))), (.inl (x))] w) (fun w => f_X11_out [(.inr (.inr (some (10, 0)))), (.inl (x))] w) := h.ask fun c d l l2 s S nx u U lb MS MF F ln L t T hB hR hN hX => by
  obtain ⟨w1, g1, K1⟩ := c_out hB.1 (hN.hv hn) x
  exact ⟨_, w1, g1, K1, fun hR1 _ => by
    obtain ⟨w2, g2, K2⟩ := m_out hR1.1 (hN.hv hn) x
    exact ⟨w2, g2, K2.j⟩⟩
theorem i_thirds (h : INV n w) (hn : n ≤ 64) (x : Int32) : SA n w (fun w => f_X10_thirds [(.inr (.inr (some (9, 0)))), (.inl (x))] w) (fun w => f_X11_thirds [(.inr (.inr (some (10, 0)))), (.inl (x))] w) := h.ask fun c d l l2 s S nx u U lb MS MF F ln L t T hB hR hN hX => by
  obtain ⟨w1, g1, K1⟩ := c_thirds hB.1 (hN.hv hn) x
  exact ⟨_, w1, g1, K1, fun hR1 _ => by
    obtain ⟨w2, g2, K2⟩ := m_thirds hR1.1 (hN.hv hn) x
    exact ⟨w2, g2, K2.j⟩⟩
theorem i_can (h : INV n w) (hn : n ≤ 64) : SA n w (fun w => f_X10_can [(.inr (.inr (some (9, 0))))] w) (fun w => f_X11_can [(.inr (.inr (some (10, 0))))] w) := h.ask fun c d l l2 s S nx u U lb MS MF F ln L t T hB hR hN hX => by
  obtain ⟨w1, g1, K1⟩ := c_can hB.1 (hN.hv hn)
  exact ⟨_, w1, g1, K1, fun hR1 _ => by
    obtain ⟨w2, g2, K2⟩ := m_can hR1.1 (hN.hv hn)
    exact ⟨w2, g2, K2.j⟩⟩
theorem i_reaches (h : INV n w) (hn : n ≤ 64) (x : Int32) : SA n w (fun w => f_X10_reaches [(.inr (.inr (some (9, 0)))), (.inl (x))] w) (fun w => f_X11_reaches [(.inr (.inr (some (10, 0)))), (.inl (x))] w) := h.ask fun c d l l2 s S nx u U lb MS MF F ln L t T hB hR hN hX => by
  obtain ⟨w1, g1, K1⟩ := c_reaches hB.1 (hN.hv hn) x
  exact ⟨_, w1, g1, K1, fun hR1 _ => by
    obtain ⟨w2, g2, K2⟩ := m_reaches hR1.1 (hN.hv hn) x
    exact ⟨w2, g2, K2.j⟩⟩
theorem i_deepest (h : INV n w) (hn : n ≤ 64) (x : Int32) : SA n w (fun w => f_X10_deepest [(.inr (.inr (some (9, 0)))), (.inl (x))] w) (fun w => f_X11_deepest [(.inr (.inr (some (10, 0)))), (.inl (x))] w) := h.ask fun c d l l2 s S nx u U lb MS MF F ln L t T hB hR hN hX => by
  obtain ⟨w1, g1, K1⟩ := c_deepest hB.1 (hN.hv hn) x
  exact ⟨_, w1, g1, K1, fun hR1 _ => by
    obtain ⟨w2, g2, K2⟩ := m_deepest hR1.1 (hN.hv hn) x
    exact ⟨w2, g2, K2.j⟩⟩
theorem i_all (h : INV n w) (hn : n ≤ 64) : SA n w (fun w => f_X10_all [(.inr (.inr (some (9, 0))))] w) (fun w => f_X11_all [(.inr (.inr (some (10, 0))))] w) := h.ask fun c d l l2 s S nx u U lb MS MF F ln L t T hB hR hN hX => by
  obtain ⟨w1, g1, K1⟩ := c_all hB.1 (hN.hv hn)
  exact ⟨_, w1, g1, K1, fun hR1 _ => by
    obtain ⟨w2, g2, K2⟩ := m_all hR1.1 (hN.hv hn)
    exact ⟨w2, g2, K2.j⟩⟩
theorem i_lacks (h : INV n w) (hn : n ≤ 64) (x y : Int32) : SA n w (fun w => f_X10_lacks [(.inr (.inr (some (9, 0)))), (.inl (x)), (.inl (y))] w) (fun w => f_X11_lacks [(.inr (.inr (some (10, 0)))), (.inl (x)), (.inl (y))] w) := h.ask fun c d l l2 s S nx u U lb MS MF F ln L t T hB hR hN hX => by
  obtain ⟨w1, g1, K1⟩ := c_lacks hB.1 (hN.hv hn) x y
  exact ⟨_, w1, g1, K1, fun hR1 _ => by
    obtain ⟨w2, g2, K2⟩ := m_lacks hR1.1 (hN.hv hn) x y
    exact ⟨w2, g2, K2.j⟩⟩
theorem i_near (h : INV n w) (hn : n ≤ 64) (x y : Int32) : SA n w (fun w => f_X10_near [(.inr (.inr (some (9, 0)))), (.inl (x)), (.inl (y))] w) (fun w => f_X11_near [(.inr (.inr (some (10, 0)))), (.inl (x)), (.inl (y))] w) := h.ask fun c d l l2 s S nx u U lb MS MF F ln L t T hB hR hN hX => by
  obtain ⟨w1, g1, K1⟩ := c_near hB.1 (hN.hv hn) x y
  exact ⟨_, w1, g1, K1, fun hR1 _ => by
    obtain ⟨w2, g2, K2⟩ := m_near hR1.1 (hN.hv hn) x y
    exact ⟨w2, g2, K2.j⟩⟩
theorem i_sure (h : INV n w) (hn : n ≤ 64) : SA n w (fun w => f_X10_sure [(.inr (.inr (some (9, 0))))] w) (fun w => f_X11_sure [(.inr (.inr (some (10, 0))))] w) := h.ask fun c d l l2 s S nx u U lb MS MF F ln L t T hB hR hN hX => by
  obtain ⟨w1, g1, K1⟩ := c_sure hB.1 (hN.hv hn)
  exact ⟨_, w1, g1, K1, fun hR1 _ => by
    obtain ⟨w2, g2, K2⟩ := m_sure hR1.1 (hN.hv hn)
    exact ⟨w2, g2, K2.j⟩⟩
theorem i_led (h : INV n w) (hn : n ≤ 64) : SA n w (fun w => f_X10_led [(.inr (.inr (some (9, 0))))] w) (fun w => f_X11_led [(.inr (.inr (some (10, 0))))] w) := h.ask fun c d l l2 s S nx u U lb MS MF F ln L t T hB hR hN hX => by
  obtain ⟨w1, g1, K1⟩ := c_led hB.1 (hN.hv hn)
  exact ⟨_, w1, g1, K1, fun hR1 _ => by
    obtain ⟨w2, g2, K2⟩ := m_led hR1.1 (hN.hv hn)
    exact ⟨w2, g2, K2.j⟩⟩
theorem i_lost (h : INV n w) (hn : n ≤ 64) : SA n w (fun w => f_X10_lost [(.inr (.inr (some (9, 0))))] w) (fun w => f_X11_lost [(.inr (.inr (some (10, 0))))] w) := h.ask fun c d l l2 s S nx u U lb MS MF F ln L t T hB hR hN hX => by
  obtain ⟨w1, g1, K1⟩ := c_lost hB.1 (hN.hv hn)
  exact ⟨_, w1, g1, K1, fun hR1 _ => by
    obtain ⟨w2, g2, K2⟩ := m_lost hR1.1 (hN.hv hn)
    exact ⟨w2, g2, K2.j⟩⟩
theorem i_worst (h : INV n w) (hn : n ≤ 64) : SA n w (fun w => f_X10_worst [(.inr (.inr (some (9, 0))))] w) (fun w => f_X11_worst [(.inr (.inr (some (10, 0))))] w) := h.ask fun c d l l2 s S nx u U lb MS MF F ln L t T hB hR hN hX => by
  obtain ⟨w1, g1, K1⟩ := c_worst hB.1 (hN.hv hn)
  exact ⟨_, w1, g1, K1, fun hR1 _ => by
    obtain ⟨w2, g2, K2⟩ := m_worst hR1.1 (hN.hv hn)
    exact ⟨w2, g2, K2.j⟩⟩
theorem i_tie (h : INV n w) (hn : n ≤ 64) : SA n w (fun w => f_X10_tie [(.inr (.inr (some (9, 0))))] w) (fun w => f_X11_tie [(.inr (.inr (some (10, 0))))] w) := h.ask fun c d l l2 s S nx u U lb MS MF F ln L t T hB hR hN hX => by
  obtain ⟨w1, g1, K1⟩ := c_tie hB.1 (hN.hv hn)
  exact ⟨_, w1, g1, K1, fun hR1 _ => by
    obtain ⟨w2, g2, K2⟩ := m_tie hR1.1 (hN.hv hn)
    exact ⟨w2, g2, K2.j⟩⟩
theorem i_far (h : INV n w) (hn : n ≤ 64) (x : Int32) : SA n w (fun w => f_X10_far [(.inr (.inr (some (9, 0)))), (.inl (x))] w) (fun w => f_X11_far [(.inr (.inr (some (10, 0)))), (.inl (x))] w) := h.ask fun c d l l2 s S nx u U lb MS MF F ln L t T hB hR hN hX => by
  obtain ⟨w1, g1, K1⟩ := c_far hB.1 (hN.hv hn) x
  exact ⟨_, w1, g1, K1, fun hR1 _ => by
    obtain ⟨w2, g2, K2⟩ := m_far hR1.1 (hN.hv hn) x
    exact ⟨w2, g2, K2.j⟩⟩
theorem i_clear (h : INV n w) (hn : n ≤ 64) (x : Int32) : SA n w (fun w => f_X10_clear [(.inr (.inr (some (9, 0)))), (.inl (x))] w) (fun w => f_X11_clear [(.inr (.inr (some (10, 0)))), (.inl (x))] w) := h.ask fun c d l l2 s S nx u U lb MS MF F ln L t T hB hR hN hX => by
  exact ⟨_, w, c_clear hB.1 (hN.hv hn) x, Keep.refl w, fun hR1 _ => by
    obtain ⟨w2, g2, K2⟩ := m_clear hR1.1 (hN.hv hn) x
    exact ⟨w2, g2, K2.j⟩⟩
theorem i_lasts (h : INV n w) (hn : n ≤ 64) (x : Int32) : SA n w (fun w => f_X10_lasts [(.inr (.inr (some (9, 0)))), (.inl (x))] w) (fun w => f_X11_lasts [(.inr (.inr (some (10, 0)))), (.inl (x))] w) := h.ask fun c d l l2 s S nx u U lb MS MF F ln L t T hB hR hN hX => by
  obtain ⟨w1, g1, K1⟩ := c_lasts hB.1 (hN.hv hn) x
  exact ⟨_, w1, g1, K1, fun hR1 _ => by
    obtain ⟨w2, g2, K2⟩ := m_lasts hR1.1 (hN.hv hn) x
    exact ⟨w2, g2, K2.j⟩⟩
theorem i_bell (h : INV n w) (hn : n ≤ 64) : SA n w (fun w => f_X10_bell [(.inr (.inr (some (9, 0))))] w) (fun w => f_X11_bell [(.inr (.inr (some (10, 0))))] w) := h.ask fun c d l l2 s S nx u U lb MS MF F ln L t T hB hR hN hX => by
  exact ⟨_, w, c_bell hB.1 (hN.hv hn), Keep.refl w, fun hR1 _ => ⟨_, m_bell hR1.1 (hN.hv hn), (Keep.sI (Or.inr (Or.inr (Or.inr (Or.inl rfl))))).j⟩⟩
theorem i_slate (h : INV n w) (hn : n ≤ 64) : SA n w (fun w => f_X10_slate [(.inr (.inr (some (9, 0))))] w) (fun w => f_X11_slate [(.inr (.inr (some (10, 0))))] w) := h.ask fun c d l l2 s S nx u U lb MS MF F ln L t T hB hR hN hX => by
  exact ⟨_, w, c_slate hB.1 (hN.hv hn), Keep.refl w, fun hR1 _ => ⟨_, m_slate hR1.1 (hN.hv hn), (Keep.sI (Or.inr (Or.inr (Or.inr (Or.inl rfl))))).j⟩⟩
theorem i_lean (h : INV n w) (hn : n ≤ 64) (x : Int32) : SA n w (fun w => f_X10_lean [(.inr (.inr (some (9, 0)))), (.inl (x))] w) (fun w => f_X11_lean [(.inr (.inr (some (10, 0)))), (.inl (x))] w) := h.ask fun c d l l2 s S nx u U lb MS MF F ln L t T hB hR hN hX => by
  obtain ⟨w1, g1, K1⟩ := c_lean hB.1 (hN.hv hn) x
  exact ⟨_, w1, g1, K1, fun hR1 _ => by
    obtain ⟨w2, g2, K2⟩ := m_lean hR1.1 (hN.hv hn) x
    exact ⟨w2, g2, K2.j⟩⟩
theorem i_together (h : INV n w) (hn : n ≤ 64) : SA n w (fun w => f_X10_together [(.inr (.inr (some (9, 0))))] w) (fun w => f_X11_together [(.inr (.inr (some (10, 0))))] w) := h.ask fun c d l l2 s S nx u U lb MS MF F ln L t T hB hR hN hX => by
  exact ⟨_, w, c_together hB.1 (hN.hv hn), Keep.refl w, fun hR1 _ => ⟨_, m_together hR1.1 (hN.hv hn), (Keep.sI (Or.inr (Or.inr (Or.inr (Or.inl rfl))))).j⟩⟩
theorem i_who (h : INV n w) (hn : n ≤ 64) : SA n w (fun w => f_X10_who [(.inr (.inr (some (9, 0))))] w) (fun w => f_X11_who [(.inr (.inr (some (10, 0))))] w) := h.ask fun c d l l2 s S nx u U lb MS MF F ln L t T hB hR hN hX => by
  obtain ⟨w1, g1, K1, -⟩ := c_who hB.1 (hN.hv hn) hN.2.2.2.2.2 hB.2.2.2
  exact ⟨_, w1, g1, K1, fun hR1 _ => by
    obtain ⟨w2, g2, K2⟩ := m_who hR1.1 (hN.hv hn) hN.2.2.2.2.2 hR1.2.2.2
    exact ⟨w2, g2, K2.j⟩⟩
theorem i_ask (h : INV n w) (hn : n ≤ 64) : SA n w (fun w => f_X10_ask [(.inr (.inr (some (9, 0))))] w) (fun w => f_X11_ask [(.inr (.inr (some (10, 0))))] w) := h.ask fun c d l l2 s S nx u U lb MS MF F ln L t T hB hR hN hX => by
  obtain ⟨w1, g1, K1⟩ := c_ask hB.1 (hN.hv hn) hN.2.2.2.2.2 hB.2.2.2
  exact ⟨_, w1, g1, K1, fun hR1 _ => by
    obtain ⟨w2, g2, K2⟩ := m_ask hR1.1 (hN.hv hn) hN.2.2.2.2.2 hR1.2.2.2
    exact ⟨w2, g2, K2.j⟩⟩
theorem i_judged (h : INV n w) (x : Int32) : SA n w (fun w => f_X10_judged [(.inr (.inr (some (9, 0)))), (.inl (x))] w) (fun w => f_X11_judged [(.inr (.inr (some (10, 0)))), (.inl (x))] w) := h.ask fun c d l l2 s S nx u U lb MS MF F ln L t T hB hR hN hX => by
  obtain ⟨w1, g1, K1⟩ := c_judged hB.1.1 hX.2.2.1.2.1 hB.1.2.1 hN.1 hN.2.1 hX.1.1 hX.1.2.2.1 hX.1.2.2.2 x
  exact ⟨_, w1, g1, K1, fun hR1 hX1 => by
    obtain ⟨w2, g2, K2⟩ := m_judged hR1.1.1 hR1.1.2.1 hN.1 hN.2.1 hX1.1.2.1 hX1.1.2.2.1 hX1.1.2.2.2 x
    exact ⟨w2, g2, K2.j⟩⟩
theorem i_count (h : INV n w) (x : Int32) : SA n w (fun w => f_X10_count [(.inr (.inr (some (9, 0)))), (.inl (x))] w) (fun w => f_X11_count [(.inr (.inr (some (10, 0)))), (.inl (x))] w) := h.ask fun c d l l2 s S nx u U lb MS MF F ln L t T hB hR hN hX => by
  exact ⟨_, w, c_count hB hN hX.2.2.1.2.1 hX.1.1 hX.2.1.1 x, Keep.refl w, fun hR1 hX1 => ⟨_, m_count hR1 hN hB.u16 hX1.1.2.1 hX1.2.1.2.1 x, (Keep.sI (Or.inr (Or.inr (Or.inr (Or.inl rfl))))).j⟩⟩
theorem i_years (h : INV n w) (hn : n ≤ 64) (a b e : Int32) : SA n w (fun w => f_X10_years [(.inr (.inr (some (9, 0)))), (.inl (a)), (.inl (b)), (.inl (e))] w) (fun w => f_X11_years [(.inr (.inr (some (10, 0)))), (.inl (a)), (.inl (b)), (.inl (e))] w) := h.ask fun c d l l2 s S nx u U lb MS MF F ln L t T hB hR hN hX => by
  obtain ⟨w1, g1, K1⟩ := c_years hB hN hn a b e
  exact ⟨_, w1, g1, K1, fun hR1 _ => m_years hR1 hN hn a b e⟩
theorem i_chance (h : INV n w) (hn : n ≤ 64) (a b e : Int32) : SA n w (fun w => f_X10_chance [(.inr (.inr (some (9, 0)))), (.inl (a)), (.inl (b)), (.inl (e))] w) (fun w => f_X11_chance [(.inr (.inr (some (10, 0)))), (.inl (a)), (.inl (b)), (.inl (e))] w) := h.ask fun c d l l2 s S nx u U lb MS MF F ln L t T hB hR hN hX => by
  exact ⟨_, w, c_chance hB hN a b e, Keep.refl w, fun hR1 _ => by
    obtain ⟨w2, g2, K2⟩ := m_chance hR1 hN hB.u16 hn a b e
    exact ⟨w2, g2, K2.j⟩⟩
end ASKS
