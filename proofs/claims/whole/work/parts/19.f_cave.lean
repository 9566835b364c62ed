/-! ===== cave: both answer the same ===== -/
section CAVE2
variable {w : Wd} {n : Nat}
theorem i_cave (h : INV n w) : SA n w (fun w => f_X10_cave [(.inr (.inr (some (9, 0))))] w) (fun w => f_X11_cave [(.inr (.inr (some (10, 0))))] w) := by
  obtain ⟨c, d, l, l2, s, S, nx, u, U, lb, MS, MF, F, ln, L, t, T, hB, hR, hN, hX⟩ := h
  obtain ⟨⟨a1, a2, a3, a4⟩, ⟨b1, b2, b3⟩, ⟨r1, r2, r3, r4, r5⟩, c1, c2, c3, c4⟩ := hX
  have hX : XT w c d l l2 s ln L t T := ⟨⟨a1, a2, a3, a4⟩, ⟨b1, b2, b3⟩, ⟨r1, r2, r3, r4, r5⟩, c1, c2, c3, c4⟩
  obtain ⟨-, -, -, ⟨hok, hb⟩, -⟩ := m_cave b2 b3 c4
  obtain ⟨w1, g1, z1, F1, O1⟩ := c_cave b1 b3 hB.1.1 r1 r2 hb
  by_cases he : (linesF t T 1000 ds0 (0, 0)).2.2 = 0
  · obtain ⟨K1, D1, S1, q2, q3, y64, y96, y162, y165⟩ := O1 he
    have hA1 : ∀ f i k, f = 161 ∨ f = 331 ∨ f = 324 ∨ f = 325 ∨ 352 ≤ f → ¬ (AFc d f i k ∨ ANc l f i k) := fun f i k hf q => by
      have q : ((289 ≤ f ∧ f ≤ 295) ∨ f = 225 ∨ f = 226 ∨ (i = d ∧ ((32 ≤ f ∧ f ≤ 47) ∨ f = 128 ∨ f = 130))) ∨ (f = 322 ∨ f = 323 ∨ (256 ≤ f ∧ f ≤ 264 ∧ i = 0) ∨ (f = 64 ∧ i = l) ∨ (f = 96 ∧ i = 0) ∨ f = 162 ∨ f = 165 ∨ f = 129) := q
      omega
    obtain ⟨w2, g2, z2, -, -, O2⟩ := m_cave (b2.kp K1 fun f k hf => hA1 f 0 k (by omega)) b3 (c4.kp K1 fun k => hA1 361 0 k (by omega))
    obtain ⟨K2, N2⟩ := O2 he
    have hA2 : ∀ f i k, f < 352 ∨ f = 361 → ¬ (ARw f i k ∨ ACp f i k) := fun f i k hf q => by
      have q : (f = 352 ∨ (354 ≤ f ∧ f ≤ 360) ∨ f = 365 ∨ f = 367 ∨ f = 369 ∨ f = 371 ∨ f = 372 ∨ (f = 362 ∧ 70 ≤ k) ∨ ((f = 363 ∨ f = 364) ∧ 1100 ≤ k)) ∨ (f = 366 ∨ f = 368 ∨ f = 370 ∨ f = 373 ∨ f = 376 ∨ f = 377 ∨ f = 378 ∨ (f = 362 ∧ k < 70) ∨ ((f = 363 ∨ f = 364) ∧ k < 1100)) := q
      omega
    have D2 := D1.kp K2 (fun f k hf => hA2 f d k (by omega))
    have j1 : ∀ f i k, f < 352 → w2.1 f i k = w1.1 f i k := fun f i k hf => (K2 f i k (hA2 f i k (Or.inl hf))).1
    have j2 : ∀ f i k, f < 352 → w2.2.2 f i k = w1.2.2 f i k := fun f i k hf => (K2 f i k (hA2 f i k (Or.inl hf))).2.2
    have S2 := S1.same (w' := w2) fun f k p q => j1 f 0 k (by omega)
    obtain ⟨m1, m2, m3, m4, m5, m6, m7, m8⟩ := N2
    generalize linesF t T 1000 ds0 (0, 0) = r at *
    refine ⟨_, w1, w2, g1, g2, d, c, l, l2, r.1, stS r.1.V, nx, 0, U, 0, MS, MF, (0, fun _ => (0, 0)), 0, L, 0, T, ⟨⟨(j2 322 0 0 (by omega)).trans q2, D2.1.rc, S2, fun k hk => ?_⟩, ⟨?_, hB.2.1.2.1, (j1 162 0 0 (by omega)).trans y162, Nat.zero_le _, fun j hj => absurd hj (Nat.not_lt_zero j)⟩, ⟨(j1 165 0 0 (by omega)).trans y165, by omega, fun m hm ht => ?_⟩, ⟨(j1 96 0 0 (by omega)).trans y96, fun k hk => absurd hk (Nat.not_lt_zero k)⟩⟩, ⟨⟨m1, m2, m4⟩, ⟨m7, fun j hj => absurd hj (Nat.not_lt_zero j)⟩, ⟨fun m hm => ?_, fun m hm ht => ?_⟩, ⟨m5, fun k hk => absurd hk (Nat.not_lt_zero k)⟩⟩, ⟨hok.1.1, hok.2, (stS_T hok.1.1).mono (by omega), fun j hj => absurd hj (Nat.not_lt_zero j), fun m hm ht => ?_, ⟨Nat.zero_le _, fun k hk => absurd hk (Nat.not_lt_zero k)⟩⟩, ⟨⟨(j1 64 l 0 (by omega)).trans y64, fun k hk => absurd hk (Nat.not_lt_zero k)⟩, ⟨m6, fun k hk => absurd hk (Nat.not_lt_zero k)⟩, fun k hk => absurd hk (Nat.not_lt_zero k), Nat.zero_le _⟩, ⟨⟨(j1 289 0 0 (by omega)).trans z1, fun k hk => absurd hk (Nat.not_lt_zero k)⟩, ⟨z2, fun k hk => absurd hk (Nat.not_lt_zero k)⟩, okp0⟩, ⟨(j2 323 0 0 (by omega)).trans q3, ?_, ?_, fun z => r4 z.symm, r5⟩, ⟨D2.2.1, D2.2.2.1⟩, m3, hok, ?_⟩
    · exact (j1 331 0 k (by omega)).trans ((K1 331 0 k (hA1 331 0 k (by omega))).1.trans (hB.1.2.2.2 k hk))
    · exact (j1 161 0 0 (by omega)).trans ((K1 161 0 0 (hA1 161 0 0 (by omega))).1.trans hB.2.1.1)
    · rw [Nat.zero_testBit] at ht; cases ht
    · rw [Nat.zero_testBit]; exact m8 m hm
    · rw [Nat.zero_testBit] at ht; cases ht
    · rw [Nat.zero_testBit] at ht; cases ht
    · exact (j2 324 0 0 (by omega)).trans ((K1 324 0 0 (hA1 324 0 0 (by omega))).2.2.trans r2)
    · exact (j2 325 0 0 (by omega)).trans ((K1 325 0 0 (hA1 325 0 0 (by omega))).2.2.trans r3)
    · exact (c4.kp K1 fun k => hA1 361 0 k (by omega)).kp K2 fun k => hA2 361 0 k (by omega)
  · have K1 := F1 he
    have hA1 : ∀ f i k, 352 ≤ f → ¬ AFc d f i k := fun f i k hf q => by
      have q : (289 ≤ f ∧ f ≤ 295) ∨ f = 225 ∨ f = 226 ∨ (i = d ∧ ((32 ≤ f ∧ f ≤ 47) ∨ f = 128 ∨ f = 130)) := q
      omega
    obtain ⟨w2, g2, z2, -, F2, -⟩ := m_cave (b2.kp K1 fun f k hf => hA1 f 0 k (by omega)) b3 (c4.kp K1 fun k => hA1 361 0 k (by omega))
    have K2 := F2 he
    have KK : Kp (fun f i k => (289 ≤ f ∧ f ≤ 295) ∨ f = 225 ∨ f = 226 ∨ (i = d ∧ ((32 ≤ f ∧ f ≤ 47) ∨ f = 128 ∨ f = 130)) ∨ f = 352 ∨ (354 ≤ f ∧ f ≤ 360) ∨ f = 365 ∨ f = 367 ∨ f = 369 ∨ f = 371 ∨ f = 372 ∨ (f = 362 ∧ 70 ≤ k) ∨ ((f = 363 ∨ f = 364) ∧ 1100 ≤ k)) w w2 := by
      refine (K1.mono fun f i k q => ?_).tr (K2.mono fun f i k q => ?_)
      · have q : (289 ≤ f ∧ f ≤ 295) ∨ f = 225 ∨ f = 226 ∨ (i = d ∧ ((32 ≤ f ∧ f ≤ 47) ∨ f = 128 ∨ f = 130)) := q
        show (289 ≤ f ∧ f ≤ 295) ∨ f = 225 ∨ f = 226 ∨ (i = d ∧ ((32 ≤ f ∧ f ≤ 47) ∨ f = 128 ∨ f = 130)) ∨ f = 352 ∨ (354 ≤ f ∧ f ≤ 360) ∨ f = 365 ∨ f = 367 ∨ f = 369 ∨ f = 371 ∨ f = 372 ∨ (f = 362 ∧ 70 ≤ k) ∨ ((f = 363 ∨ f = 364) ∧ 1100 ≤ k)
        omega
      · have q : f = 352 ∨ (354 ≤ f ∧ f ≤ 360) ∨ f = 365 ∨ f = 367 ∨ f = 369 ∨ f = 371 ∨ f = 372 ∨ (f = 362 ∧ 70 ≤ k) ∨ ((f = 363 ∨ f = 364) ∧ 1100 ≤ k) := q
        show (289 ≤ f ∧ f ≤ 295) ∨ f = 225 ∨ f = 226 ∨ (i = d ∧ ((32 ≤ f ∧ f ≤ 47) ∨ f = 128 ∨ f = 130)) ∨ f = 352 ∨ (354 ≤ f ∧ f ≤ 360) ∨ f = 365 ∨ f = 367 ∨ f = 369 ∨ f = 371 ∨ f = 372 ∨ (f = 362 ∧ 70 ≤ k) ∨ ((f = 363 ∨ f = 364) ∧ 1100 ≤ k)
        omega
    refine ⟨_, w1, w2, g1, g2, c, d, l, l2, s, S, nx, u, U, lb, MS, MF, F, ln, L, 0, T, hB.kp KK (fun f i k hf q => ?_), hR.kp hN hB.u16 KK (fun f k hf q => ?_), hN.succ, hX.kp KK (fun f i k hf q => ?_) ⟨?_, fun k hk => absurd hk (Nat.not_lt_zero k)⟩ ⟨z2, fun k hk => absurd hk (Nat.not_lt_zero k)⟩ okp0⟩
    · have q : (289 ≤ f ∧ f ≤ 295) ∨ f = 225 ∨ f = 226 ∨ (i = d ∧ ((32 ≤ f ∧ f ≤ 47) ∨ f = 128 ∨ f = 130)) ∨ f = 352 ∨ (354 ≤ f ∧ f ≤ 360) ∨ f = 365 ∨ f = 367 ∨ f = 369 ∨ f = 371 ∨ f = 372 ∨ (f = 362 ∧ 70 ≤ k) ∨ ((f = 363 ∨ f = 364) ∧ 1100 ≤ k) := q
      omega
    · have q : (289 ≤ f ∧ f ≤ 295) ∨ f = 225 ∨ f = 226 ∨ ((0 : Nat) = d ∧ ((32 ≤ f ∧ f ≤ 47) ∨ f = 128 ∨ f = 130)) ∨ f = 352 ∨ (354 ≤ f ∧ f ≤ 360) ∨ f = 365 ∨ f = 367 ∨ f = 369 ∨ f = 371 ∨ f = 372 ∨ (f = 362 ∧ 70 ≤ k) ∨ ((f = 363 ∨ f = 364) ∧ 1100 ≤ k) := q
      omega
    · have q : (289 ≤ f ∧ f ≤ 295) ∨ f = 225 ∨ f = 226 ∨ (i = d ∧ ((32 ≤ f ∧ f ≤ 47) ∨ f = 128 ∨ f = 130)) ∨ f = 352 ∨ (354 ≤ f ∧ f ≤ 360) ∨ f = 365 ∨ f = 367 ∨ f = 369 ∨ f = 371 ∨ f = 372 ∨ (f = 362 ∧ 70 ≤ k) ∨ ((f = 363 ∨ f = 364) ∧ 1100 ≤ k) := q
      omega
    · exact (K2 289 0 0 (fun q => by
        have q : 289 = 352 ∨ (354 ≤ 289 ∧ 289 ≤ 360) ∨ 289 = 365 ∨ 289 = 367 ∨ 289 = 369 ∨ 289 = 371 ∨ 289 = 372 ∨ (289 = 362 ∧ 70 ≤ 0) ∨ ((289 = 363 ∨ 289 = 364) ∧ 1100 ≤ 0) := q
        omega)).1.trans z1
end CAVE2
