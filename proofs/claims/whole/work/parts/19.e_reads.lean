/-! ===== feed, dive, cave: both answer the same ===== -/
section READS
variable {w w' : Wd} {c d l l2 n nx u lb ln t : Nat} {s : DSt} {V S : VW} {C : List Int32} {U MS : Nat → VW} {MF : Nat → FD} {F : FD} {L : Nat → LT} {T : Nat → Nat}
theorem BC.kp {A : Nat → Nat → Nat → Prop} (h : BC w c V C S nx u U lb MS MF F) (hK : Kp A w w') (hA : ∀ f i k, (((32 ≤ f ∧ f ≤ 47) ∨ f = 128 ∨ f = 130) ∧ i = c) ∨ (256 ≤ f ∧ f ≤ 264 ∧ i ≠ 1) ∨ f = 331 ∨ f = 161 ∨ f = 162 ∨ f = 165 ∨ (96 ≤ f ∧ f ≤ 98) ∨ f = 322 → ¬ A f i k) : BC w' c V C S nx u U lb MS MF F := by
  have e : ∀ f i k, (((32 ≤ f ∧ f ≤ 47) ∨ f = 128 ∨ f = 130) ∧ i = c) ∨ (256 ≤ f ∧ f ≤ 264 ∧ i ≠ 1) ∨ f = 331 ∨ f = 161 ∨ f = 162 ∨ f = 165 ∨ (96 ≤ f ∧ f ≤ 98) ∨ f = 322 → w'.1 f i k = w.1 f i k := fun f i k q => (hK f i k (hA f i k q)).1
  obtain ⟨⟨h1, h2, h3, h3'⟩, h4, h5, h6⟩ := h
  refine ⟨⟨((hK 322 0 0 (hA 322 0 0 (by omega))).2.2).trans h1, ?_, h3.same fun f k _ _ => e _ _ _ (by omega), fun k hk => (e _ _ _ (by omega)).trans (h3' k hk)⟩, h4.same (fun f q => e _ _ _ (by omega)) (fun f i k _ _ _ _ _ => e _ _ _ (by omega)), h5.same (e _ _ _ (by omega)) (fun f i k _ _ _ _ => e _ _ _ (by omega)) (fun f i k _ _ _ _ => e _ _ _ (by omega)), h6.same fun f k _ _ => e _ _ _ (by omega)⟩
  have hk2 : Keep A w (w'.1, w.2) := ⟨fun f i k q => (hK f i k q).1, rfl⟩
  have h9 := h2.keep hk2 (fun f k hf => hA f c k (Or.inl ⟨hf, rfl⟩))
  exact h9
theorem BR.kp {A : Nat → Nat → Nat → Prop} (h : BR w V C S u U lb MS MF F) (hN : NUM n V C S u U lb MS MF F) (hu : u ≤ 16) (hK : Kp A w w') (hA : ∀ f k, (f = 362 ∧ k < 70) ∨ ((f = 363 ∨ f = 364) ∧ k ≤ 1000) ∨ f = 376 ∨ f = 377 ∨ f = 378 → ¬ A f 0 k) : BR w' V C S u U lb MS MF F := by
  have e : ∀ f k, (f = 362 ∧ k < 70) ∨ ((f = 363 ∨ f = 364) ∧ k ≤ 1000) ∨ f = 376 ∨ f = 377 ∨ f = 378 → w'.1 f 0 k = w.1 f 0 k := fun f k q => (hK f 0 k (hA f k q)).1
  have b7 := hN.1.P
  have b8 := hN.1.W
  have b4 := hN.1.D
  have b12 := hN.1.R
  have bC := hN.2.1.2
  obtain ⟨⟨h1, h2, h3⟩, h4, h5, h6⟩ := h
  refine ⟨⟨?_, ?_, h3.keep hN.1 fun k _ _ => e _ _ (by omega)⟩, h4.same hN.1 hu (e _ _ (by omega)) fun k _ _ => e _ _ (by omega), h5.same hN.1 hN.mf (fun m _ => e _ _ (by omega)) fun k _ _ => e _ _ (by omega), h6.same hN.2.2.2.2.2.1 fun k _ _ => e _ _ (by omega)⟩
  · refine ⟨(e _ _ (by omega)).trans h1.P, (e _ _ (by omega)).trans h1.W, (e _ _ (by omega)).trans h1.D, (e _ _ (by omega)).trans h1.R, fun k hk => (e _ _ (by omega)).trans (h1.dep hk), fun k hk => (e _ _ (by omega)).trans (h1.e1 hk), fun k hk => (e _ _ (by omega)).trans (h1.e2 hk), fun k hk => (e _ _ (by omega)).trans (h1.len hk), fun k hk => (e _ _ (by omega)).trans (h1.nar hk), fun k hk => (e _ _ (by omega)).trans (h1.kind hk), fun k hk => (e _ _ (by omega)).trans (h1.tank hk), fun k hk => ?_⟩
    have hk2 : k < 13 := by
      by_cases z : nR V = 0
      · rw [if_pos z] at hk; omega
      · rw [if_neg z] at hk; omega
    exact (e _ _ (by omega)).trans (h1.rn hk)
  · rcases h2 with ⟨x1, x2⟩ | ⟨x1, x2, x3⟩
    · exact Or.inl ⟨(e _ _ (by omega)).trans x1, x2⟩
    · exact Or.inr ⟨(e _ _ (by omega)).trans x1, fun i hi => by rw [e 363 i (by omega), e 364 i (by omega)]; exact x2 i hi, (e _ _ (by omega)).trans x3⟩
theorem LNc.kp {A : Nat → Nat → Nat → Prop} (h : LNc w l ln L) (hK : Kp A w w') (hA : ∀ f k, 64 ≤ f → f ≤ 68 → ¬ A f l k) : LNc w' l ln L := ⟨(hK 64 l 0 (hA _ _ (by omega) (by omega))).1.trans h.1, fun k hk => by
  obtain ⟨x1, x2, x3, x4⟩ := h.2 k hk
  exact ⟨(hK 65 l k (hA _ _ (by omega) (by omega))).2.2.trans x1, fun z => (hK 66 l k (hA _ _ (by omega) (by omega))).1.trans (x2 z), fun z => (hK 67 l k (hA _ _ (by omega) (by omega))).1.trans (x3 z), fun z => (hK 68 l k (hA _ _ (by omega) (by omega))).1.trans (x4 z)⟩⟩
theorem LNm.kp {A : Nat → Nat → Nat → Prop} (h : LNm w ln L) (h40 : ln ≤ 40) (hK : Kp A w w') (hA : ∀ k, k ≤ 160 → ¬ A 373 0 k) : LNm w' ln L := ⟨(hK 373 0 0 (hA _ (by omega))).1.trans h.1, fun k hk => by
  obtain ⟨x1, x2, x3, x4⟩ := h.2 k hk
  exact ⟨(hK 373 0 _ (hA _ (by omega))).1.trans x1, (hK 373 0 _ (hA _ (by omega))).1.trans x2, (hK 373 0 _ (hA _ (by omega))).1.trans x3, (hK 373 0 _ (hA _ (by omega))).1.trans x4⟩⟩
theorem TPm.kp {A : Nat → Nat → Nat → Prop} (h : TPm w t T) (hK : Kp A w w') (hA : ∀ f k, f = 353 ∨ f = 354 → ¬ A f 0 k) : TPm w' t T := ⟨(hK 354 0 0 (hA _ _ (Or.inr rfl))).1.trans h.1, fun k hk => (hK 353 0 k (hA _ _ (Or.inl rfl))).1.trans (h.2 k hk)⟩
theorem NmC.kp {A : Nat → Nat → Nat → Prop} (h : NmC w c s) (hK : Kp A w w') (hA : ∀ f k, f = 33 ∨ f = 41 → ¬ A f c k) : NmC w' c s := ⟨fun p hp => (hK 33 c p (hA _ _ (Or.inl rfl))).2.1.trans (h.1 p hp), fun p hp => (hK 41 c p (hA _ _ (Or.inr rfl))).2.1.trans (h.2 p hp)⟩
theorem KWm.kp {A : Nat → Nat → Nat → Prop} (h : KWm w) (hK : Kp A w w') (hA : ∀ k, ¬ A 361 0 k) : KWm w' := fun j hj => (hK 361 0 j (hA j)).2.1.trans (h j hj)
/-- what a call keeps of all that isn't done -/
theorem XT.kp {A : Nat → Nat → Nat → Prop} {t' : Nat} {T' : Nat → Nat} (h : XT w c d l l2 s ln L t T) (hK : Kp A w w') (hA : ∀ f i k, (64 ≤ f ∧ f ≤ 68 ∧ i = l) ∨ (f = 373 ∧ k ≤ 160) ∨ ((f = 33 ∨ f = 41) ∧ i = c) ∨ f = 361 ∨ f = 366 ∨ f = 368 ∨ f = 370 ∨ f = 323 ∨ f = 324 ∨ f = 325 → ¬ A f i k) (h1 : TPc w' t' T') (h2 : TPm w' t' T') (h3 : OKP t' T') : XT w' c d l l2 s ln L t' T' := by
  obtain ⟨⟨a1, a2, a3, a4⟩, -, ⟨r1, r2, r3, r4, r5⟩, c1, c2, c3, c4⟩ := h
  exact ⟨⟨a1.kp hK fun f k p q => hA f l k (Or.inl ⟨p, q, rfl⟩), a2.kp a4 hK fun k p => hA 373 0 k (Or.inr (Or.inl ⟨rfl, p⟩)), a3, a4⟩, ⟨h1, h2, h3⟩, ⟨(hK 323 0 0 (hA 323 0 0 (by omega))).2.2.trans r1, (hK 324 0 0 (hA 324 0 0 (by omega))).2.2.trans r2, (hK 325 0 0 (hA 325 0 0 (by omega))).2.2.trans r3, r4, r5⟩, c1.kp hK fun f k p => hA f c k (by omega), c2.kp hK fun f k p => hA f 0 k (by omega), c3, c4.kp hK fun k => hA 361 0 k (by omega)⟩
theorem i_feed (h : INV n w) (a b e : Int64) : SA n w (fun w => f_X10_feed [(.inr (.inr (some (9, 0)))), (.inr (.inl (a))), (.inr (.inl (b))), (.inr (.inl (e)))] w) (fun w => f_X11_feed [(.inr (.inr (some (10, 0)))), (.inr (.inl (a))), (.inr (.inl (b))), (.inr (.inl (e)))] w) := by
  obtain ⟨c, d, l, l2, s, S, nx, u, U, lb, MS, MF, F, ln, L, t, T, hB, hR, hN, hX⟩ := h
  obtain ⟨w1, g1, K1, T1⟩ := c_feed hX.2.1.1 hX.2.1.2.2 a b e
  have K1 := Kp.of K1
  have Tm1 : TPm w1 t T := hX.2.1.2.1.kp K1 (fun f k hf q => by have q : f = 288 ∨ f = 289 := q; omega)
  obtain ⟨w2, g2, K2, T2⟩ := m_feed Tm1 hX.2.1.2.2 a b e
  have K2 := Kp.of K2
  have KK : Kp (fun f _ _ => f = 288 ∨ f = 289 ∨ f = 352 ∨ f = 353 ∨ f = 354) w w2 := by
    refine (K1.mono fun f i k q => ?_).tr (K2.mono fun f i k q => ?_)
    · have q : f = 288 ∨ f = 289 := q
      show f = 288 ∨ f = 289 ∨ f = 352 ∨ f = 353 ∨ f = 354
      omega
    · have q : f = 353 ∨ f = 354 ∨ f = 352 := q
      show f = 288 ∨ f = 289 ∨ f = 352 ∨ f = 353 ∨ f = 354
      omega
  have ok : OKP (feedS a b e (t, T)).1 (feedS a b e (t, T)).2 := putS_ok (putS_ok (putS_ok (q := (t, T)) hX.2.1.2.2))
  refine ⟨_, w1, w2, g1, g2, c, d, l, l2, s, S, nx, u, U, lb, MS, MF, F, ln, L, _, _, hB.kp KK (fun f i k hf q => ?_), hR.kp hN hB.u16 KK (fun f k hf q => ?_), hN.succ, hX.kp KK (fun f i k hf q => ?_) (T1.kp K2 (fun f k hf q => ?_)) T2 ok⟩
  · have q : f = 288 ∨ f = 289 ∨ f = 352 ∨ f = 353 ∨ f = 354 := q
    omega
  · have q : f = 288 ∨ f = 289 ∨ f = 352 ∨ f = 353 ∨ f = 354 := q
    omega
  · have q : f = 288 ∨ f = 289 ∨ f = 352 ∨ f = 353 ∨ f = 354 := q
    omega
  · have q : f = 353 ∨ f = 354 ∨ f = 352 := q
    omega
theorem okp0 : OKP 0 T := ⟨Nat.zero_le _, fun k hk => absurd hk (Nat.not_lt_zero k)⟩
theorem i_dive (h : INV n w) : SA n w (fun w => f_X10_dive [(.inr (.inr (some (9, 0))))] w) (fun w => f_X11_dive [(.inr (.inr (some (10, 0))))] w) := by
  obtain ⟨c, d, l, l2, s, S, nx, u, U, lb, MS, MF, F, ln, L, t, T, hB, hR, hN, hX⟩ := h
  obtain ⟨⟨a1, a2, a3, a4⟩, ⟨b1, b2, b3⟩, ⟨r1, r2, r3, r4, r5⟩, c1, c2, c3, c4⟩ := hX
  have hX : XT w c d l l2 s ln L t T := ⟨⟨a1, a2, a3, a4⟩, ⟨b1, b2, b3⟩, ⟨r1, r2, r3, r4, r5⟩, c1, c2, c3, c4⟩
  obtain ⟨-, -, -, hb, -⟩ := m_dive b2 b3 c4 c2 c3.1 L
  obtain ⟨w1, g1, z1, F1, O1⟩ := c_dive b1 b3 ⟨hB.1.2.1, c1.1, c1.2⟩ c3.1 hB.1.1 r2 r3 L hb
  have okl := dvsF_ok (t := t) (T := T) (s := s) c3.1.1.D 41 0 L (0, 0) (fun k hk => absurd hk (Nat.not_lt_zero k))
  by_cases he : (dvsF t T s 41 0 L (0, 0)).2.2.2 = 0
  · obtain ⟨K1, q4, q5, L1⟩ := O1 he
    have hA1 : ∀ f i k, 352 ≤ f → ¬ (AFd l2 f i k ∨ f = 324 ∨ f = 325) := fun f i k hf q => by
      have q : ((289 ≤ f ∧ f ≤ 295) ∨ f = 225 ∨ f = 226 ∨ (i = l2 ∧ 64 ≤ f ∧ f ≤ 68)) ∨ f = 324 ∨ f = 325 := q
      omega
    obtain ⟨w2, g2, z2, -, -, O2⟩ := m_dive (b2.kp K1 fun f k hf => hA1 f 0 k (by omega)) b3 (c4.kp K1 fun k => hA1 361 0 k (by omega)) (c2.kp K1 fun f k hf q => by
      have q : ((289 ≤ f ∧ f ≤ 295) ∨ f = 225 ∨ f = 226 ∨ ((0 : Nat) = l2 ∧ 64 ≤ f ∧ f ≤ 68)) ∨ f = 324 ∨ f = 325 := q
      omega) c3.1 L
    obtain ⟨K2, n40, L2⟩ := O2 he
    have KK : Kp (fun f i k => (289 ≤ f ∧ f ≤ 295) ∨ f = 225 ∨ f = 226 ∨ (i = l2 ∧ 64 ≤ f ∧ f ≤ 68) ∨ f = 324 ∨ f = 325 ∨ f = 352 ∨ (354 ≤ f ∧ f ≤ 360) ∨ f = 373) w w2 := by
      refine (K1.mono fun f i k q => ?_).tr (K2.mono fun f i k q => ?_)
      · have q : ((289 ≤ f ∧ f ≤ 295) ∨ f = 225 ∨ f = 226 ∨ (i = l2 ∧ 64 ≤ f ∧ f ≤ 68)) ∨ f = 324 ∨ f = 325 := q
        show (289 ≤ f ∧ f ≤ 295) ∨ f = 225 ∨ f = 226 ∨ (i = l2 ∧ 64 ≤ f ∧ f ≤ 68) ∨ f = 324 ∨ f = 325 ∨ f = 352 ∨ (354 ≤ f ∧ f ≤ 360) ∨ f = 373
        omega
      · have q : (f = 352 ∨ (354 ≤ f ∧ f ≤ 360) ∨ (f = 373 ∧ 165 ≤ k)) ∨ f = 373 := q
        show (289 ≤ f ∧ f ≤ 295) ∨ f = 225 ∨ f = 226 ∨ (i = l2 ∧ 64 ≤ f ∧ f ≤ 68) ∨ f = 324 ∨ f = 325 ∨ f = 352 ∨ (354 ≤ f ∧ f ≤ 360) ∨ f = 373
        omega
    have hA2 : ∀ f i k, f < 352 → ¬ (ARv f i k ∨ f = 373) := fun f i k hf q => by
      have q : (f = 352 ∨ (354 ≤ f ∧ f ≤ 360) ∨ (f = 373 ∧ 165 ≤ k)) ∨ f = 373 := q
      omega
    refine ⟨_, w1, w2, g1, g2, c, d, l2, l, s, S, nx, u, U, lb, MS, MF, F, _, _, 0, T, hB.kp KK (fun f i k hf q => ?_), hR.kp hN hB.u16 KK (fun f k hf q => ?_), hN.succ, ⟨L1.kp K2 (fun f k p q => hA2 f l2 k (by omega)), L2, okl he, n40⟩, ⟨⟨(K2 289 0 0 (hA2 289 0 0 (by omega))).1.trans z1, fun k hk => absurd hk (Nat.not_lt_zero k)⟩, ⟨z2, fun k hk => absurd hk (Nat.not_lt_zero k)⟩, okp0⟩, ⟨?_, (K2 324 0 0 (hA2 324 0 0 (by omega))).2.2.trans q4, (K2 325 0 0 (hA2 325 0 0 (by omega))).2.2.trans q5, r4, fun z => r5 z.symm⟩, c1.kp KK (fun f k hf q => ?_), c2.kp KK (fun f k hf q => ?_), c3, c4.kp KK (fun k q => ?_)⟩
    · have q : (289 ≤ f ∧ f ≤ 295) ∨ f = 225 ∨ f = 226 ∨ (i = l2 ∧ 64 ≤ f ∧ f ≤ 68) ∨ f = 324 ∨ f = 325 ∨ f = 352 ∨ (354 ≤ f ∧ f ≤ 360) ∨ f = 373 := q
      omega
    · have q : (289 ≤ f ∧ f ≤ 295) ∨ f = 225 ∨ f = 226 ∨ ((0 : Nat) = l2 ∧ 64 ≤ f ∧ f ≤ 68) ∨ f = 324 ∨ f = 325 ∨ f = 352 ∨ (354 ≤ f ∧ f ≤ 360) ∨ f = 373 := q
      omega
    · exact (KK 323 0 0 (fun q => by
        have q : (289 ≤ 323 ∧ 323 ≤ 295) ∨ 323 = 225 ∨ 323 = 226 ∨ (0 = l2 ∧ 64 ≤ 323 ∧ 323 ≤ 68) ∨ 323 = 324 ∨ 323 = 325 ∨ 323 = 352 ∨ (354 ≤ 323 ∧ 323 ≤ 360) ∨ 323 = 373 := q
        omega)).2.2.trans r1
    · have q : (289 ≤ f ∧ f ≤ 295) ∨ f = 225 ∨ f = 226 ∨ (c = l2 ∧ 64 ≤ f ∧ f ≤ 68) ∨ f = 324 ∨ f = 325 ∨ f = 352 ∨ (354 ≤ f ∧ f ≤ 360) ∨ f = 373 := q
      omega
    · have q : (289 ≤ f ∧ f ≤ 295) ∨ f = 225 ∨ f = 226 ∨ ((0 : Nat) = l2 ∧ 64 ≤ f ∧ f ≤ 68) ∨ f = 324 ∨ f = 325 ∨ f = 352 ∨ (354 ≤ f ∧ f ≤ 360) ∨ f = 373 := q
      omega
    · have q : (289 ≤ 361 ∧ 361 ≤ 295) ∨ 361 = 225 ∨ 361 = 226 ∨ (0 = l2 ∧ 64 ≤ 361 ∧ 361 ≤ 68) ∨ 361 = 324 ∨ 361 = 325 ∨ 361 = 352 ∨ (354 ≤ 361 ∧ 361 ≤ 360) ∨ 361 = 373 := q
      omega
  · have K1 := F1 he
    have hA1 : ∀ f i k, 352 ≤ f → ¬ AFd l2 f i k := fun f i k hf q => by
      have q : (289 ≤ f ∧ f ≤ 295) ∨ f = 225 ∨ f = 226 ∨ (i = l2 ∧ 64 ≤ f ∧ f ≤ 68) := q
      omega
    obtain ⟨w2, g2, z2, -, F2, -⟩ := m_dive (b2.kp K1 fun f k hf => hA1 f 0 k (by omega)) b3 (c4.kp K1 fun k => hA1 361 0 k (by omega)) (c2.kp K1 fun f k hf => hA1 f 0 k (by omega)) c3.1 L
    have K2 := F2 he
    have KK : Kp (fun f i k => (289 ≤ f ∧ f ≤ 295) ∨ f = 225 ∨ f = 226 ∨ (i = l2 ∧ 64 ≤ f ∧ f ≤ 68) ∨ f = 352 ∨ (354 ≤ f ∧ f ≤ 360) ∨ (f = 373 ∧ 165 ≤ k)) w w2 := by
      refine (K1.mono fun f i k q => ?_).tr (K2.mono fun f i k q => ?_)
      · have q : (289 ≤ f ∧ f ≤ 295) ∨ f = 225 ∨ f = 226 ∨ (i = l2 ∧ 64 ≤ f ∧ f ≤ 68) := q
        show (289 ≤ f ∧ f ≤ 295) ∨ f = 225 ∨ f = 226 ∨ (i = l2 ∧ 64 ≤ f ∧ f ≤ 68) ∨ f = 352 ∨ (354 ≤ f ∧ f ≤ 360) ∨ (f = 373 ∧ 165 ≤ k)
        omega
      · have q : f = 352 ∨ (354 ≤ f ∧ f ≤ 360) ∨ (f = 373 ∧ 165 ≤ k) := q
        show (289 ≤ f ∧ f ≤ 295) ∨ f = 225 ∨ f = 226 ∨ (i = l2 ∧ 64 ≤ f ∧ f ≤ 68) ∨ f = 352 ∨ (354 ≤ f ∧ f ≤ 360) ∨ (f = 373 ∧ 165 ≤ k)
        omega
    refine ⟨_, w1, w2, g1, g2, c, d, l, l2, s, S, nx, u, U, lb, MS, MF, F, ln, L, 0, T, hB.kp KK (fun f i k hf q => ?_), hR.kp hN hB.u16 KK (fun f k hf q => ?_), hN.succ, hX.kp KK (fun f i k hf q => ?_) ⟨?_, fun k hk => absurd hk (Nat.not_lt_zero k)⟩ ⟨z2, fun k hk => absurd hk (Nat.not_lt_zero k)⟩ okp0⟩
    · have q : (289 ≤ f ∧ f ≤ 295) ∨ f = 225 ∨ f = 226 ∨ (i = l2 ∧ 64 ≤ f ∧ f ≤ 68) ∨ f = 352 ∨ (354 ≤ f ∧ f ≤ 360) ∨ (f = 373 ∧ 165 ≤ k) := q
      omega
    · have q : (289 ≤ f ∧ f ≤ 295) ∨ f = 225 ∨ f = 226 ∨ ((0 : Nat) = l2 ∧ 64 ≤ f ∧ f ≤ 68) ∨ f = 352 ∨ (354 ≤ f ∧ f ≤ 360) ∨ (f = 373 ∧ 165 ≤ k) := q
      omega
    · have q : (289 ≤ f ∧ f ≤ 295) ∨ f = 225 ∨ f = 226 ∨ (i = l2 ∧ 64 ≤ f ∧ f ≤ 68) ∨ f = 352 ∨ (354 ≤ f ∧ f ≤ 360) ∨ (f = 373 ∧ 165 ≤ k) := q
      omega
    · exact (K2 289 0 0 (fun q => by
        have q : 289 = 352 ∨ (354 ≤ 289 ∧ 289 ≤ 360) ∨ (289 = 373 ∧ 165 ≤ 0) := q
        omega)).1.trans z1
end READS
