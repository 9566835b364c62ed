/-! ===== the two halves of the invariant ===== -/
def UC (w : Wd) (V : VW) (nx u : Nat) (U : Nat → VW) : Prop := w.1 161 0 0 = nI nx ∧ nx ≤ 16 ∧ w.1 162 0 0 = nI u ∧ u ≤ 16 ∧ ∀ j, j < u → RS w ((nx + 17 - u + j) % 17 + 2) V (U j)
def UR (w : Wd) (V : VW) (u : Nat) (U : Nat → VW) : Prop := w.1 377 0 0 = nI u ∧ ∀ j, j < u → RMS w (240 + 48 * j) V (U j)
def MC (w : Wd) (V : VW) (lb : Nat) (MS : Nat → VW) (MF : Nat → FD) : Prop := w.1 165 0 0 = nI lb ∧ lb < 16 ∧ ∀ m, m < 4 → lb.testBit m = true → RS w (m + 19) V (MS m) ∧ RFc w (m + 1) (MF m)
def MR (w : Wd) (V : VW) (lb : Nat) (MS : Nat → VW) (MF : Nat → FD) : Prop := (∀ m, m < 4 → w.1 378 0 m = b2 (lb.testBit m)) ∧ ∀ m, m < 4 → lb.testBit m = true → RMS w (48 * (1 + m)) V (MS m) ∧ RFm w (48 * (1 + m)) (MF m)
def BC (w : Wd) (c : Nat) (V : VW) (C : List Int32) (S : VW) (nx u : Nat) (U : Nat → VW) (lb : Nat) (MS : Nat → VW) (MF : Nat → FD) (F : FD) : Prop := HCc w c V C S ∧ UC w V nx u U ∧ MC w V lb MS MF ∧ RFc w 0 F
def BR (w : Wd) (V : VW) (C : List Int32) (S : VW) (u : Nat) (U : Nat → VW) (lb : Nat) (MS : Nat → VW) (MF : Nat → FD) (F : FD) : Prop := HRr w V C S ∧ UR w V u U ∧ MR w V lb MS MF ∧ RFm w 0 F
def NUM (n : Nat) (V : VW) (C : List Int32) (S : VW) (u : Nat) (U : Nat → VW) (lb : Nat) (MS : Nat → VW) (MF : Nat → FD) (F : FD) : Prop := OKV V ∧ OKC C ∧ OKT n V S ∧ (∀ j, j < u → OKT n V (U j)) ∧ (∀ m, m < 4 → lb.testBit m = true → OKT n V (MS m) ∧ OKF V (MF m)) ∧ OKF V F
def CLQ (w w1 : Wd) : Prop := (∀ f i k, 352 ≤ f ∨ (64 ≤ f ∧ f ≤ 68) ∨ (288 ≤ f ∧ f ≤ 295) → w1.1 f i k = w.1 f i k) ∧ w1.2 = w.2
def RLQ (w1 w2 : Wd) : Prop := (∀ f i k, f < 352 ∨ f = 353 ∨ f = 354 ∨ f = 368 ∨ f = 370 ∨ f = 373 → w2.1 f i k = w1.1 f i k) ∧ w2.2 = w1.2
section BLOCKS
variable {w w' : Wd} {n c : Nat} {V S : VW} {C : List Int32} {nx u : Nat} {U : Nat → VW} {lb : Nat} {MS : Nat → VW} {MF : Nat → FD} {F : FD}
theorem CLQ.refl (w : Wd) : CLQ w w := ⟨fun _ _ _ _ => rfl, rfl⟩
theorem CLQ.tr {a b d : Wd} (h : CLQ a b) (h2 : CLQ b d) : CLQ a d := ⟨fun f i k q => (h2.1 f i k q).trans (h.1 f i k q), h2.2.trans h.2⟩
theorem RLQ.refl (w : Wd) : RLQ w w := ⟨fun _ _ _ _ => rfl, rfl⟩
theorem RLQ.tr {a b d : Wd} (h : RLQ a b) (h2 : RLQ b d) : RLQ a d := ⟨fun f i k q => (h2.1 f i k q).trans (h.1 f i k q), h2.2.trans h.2⟩
theorem Keep.clq {A : Nat → Nat → Nat → Prop} (h : Keep A w w') (hA : ∀ f i k, 352 ≤ f ∨ (64 ≤ f ∧ f ≤ 68) ∨ (288 ≤ f ∧ f ≤ 295) → ¬ A f i k) : CLQ w w' := ⟨fun f i k q => h.1 f i k (hA f i k q), h.2⟩
theorem Keep.rlq {A : Nat → Nat → Nat → Prop} (h : Keep A w w') (hA : ∀ f i k, f < 352 ∨ f = 353 ∨ f = 354 ∨ f = 368 ∨ f = 370 ∨ f = 373 → ¬ A f i k) : RLQ w w' := ⟨fun f i k q => h.1 f i k (hA f i k q), h.2⟩
theorem clq_q (h : Keep AQc w w') : CLQ w w' := h.clq fun f i k q e => by
  have e : f = 129 ∨ f = 330 ∨ f = 192 ∨ (256 ≤ f ∧ f ≤ 264 ∧ i = 1) := e
  omega
theorem rlq_q (h : Keep AQm w w') : RLQ w w' := h.rlq fun f i k q e => by
  have e : f = 374 ∨ f = 375 ∨ f = 379 ∨ f = 352 ∨ (f = 376 ∧ 1008 ≤ k) := e
  omega
theorem RS.same {i : Nat} (h : RS w i V S) (e : ∀ f k, 256 ≤ f → f ≤ 264 → w'.1 f i k = w.1 f i k) : RS w' i V S := by
  obtain ⟨b1, b2, b3, b4, b5, b6, b7, b8, b9⟩ := h
  exact ⟨(e _ _ (by omega) (by omega)).trans b1, (e _ _ (by omega) (by omega)).trans b2, (e _ _ (by omega) (by omega)).trans b3, (e _ _ (by omega) (by omega)).trans b4, fun d hd => (e _ _ (by omega) (by omega)).trans (b5 d hd), fun d hd => (e _ _ (by omega) (by omega)).trans (b6 d hd), fun d hd => (e _ _ (by omega) (by omega)).trans (b7 d hd), fun d hd => (e _ _ (by omega) (by omega)).trans (b8 d hd), fun d hd => (e _ _ (by omega) (by omega)).trans (b9 d hd)⟩
theorem RFc.same {i : Nat} (h : RFc w i F) (e : ∀ f k, 96 ≤ f → f ≤ 98 → w'.1 f i k = w.1 f i k) : RFc w' i F := ⟨(e _ _ (by omega) (by omega)).trans h.1, fun k hk => ⟨(e _ _ (by omega) (by omega)).trans (h.2 k hk).1, (e _ _ (by omega) (by omega)).trans (h.2 k hk).2⟩⟩
theorem RFm.same {b : Nat} (h : RFm w b F) (h8 : F.1 ≤ 8) (e : ∀ k, b + 31 ≤ k → k < b + 48 → w'.1 376 0 k = w.1 376 0 k) : RFm w' b F := ⟨(e _ (by omega) (by omega)).trans h.1, fun k hk => ⟨(e _ (by omega) (by omega)).trans (h.2 k hk).1, (e _ (by omega) (by omega)).trans (h.2 k hk).2⟩⟩
theorem UC.same (h : UC w V nx u U) (h1 : ∀ f, f = 161 ∨ f = 162 → w'.1 f 0 0 = w.1 f 0 0) (h2 : ∀ f i k, 256 ≤ f → f ≤ 264 → 2 ≤ i → i ≤ 18 → i ≠ nx + 2 → w'.1 f i k = w.1 f i k) : UC w' V nx u U := by
  obtain ⟨a1, a2, a3, a4, a6⟩ := h
  refine ⟨(h1 _ (by omega)).trans a1, a2, (h1 _ (by omega)).trans a3, a4, fun j hj => (a6 j hj).same fun f k q1 q2 => ?_⟩
  have hm : (nx + 17 - u + j) % 17 < 17 := Nat.mod_lt _ (by omega)
  exact h2 f _ k q1 q2 (by omega) (by omega) (by omega)
theorem UR.same (h : UR w V u U) (hV : OKV V) (hu : u ≤ 16) (h1 : w'.1 377 0 0 = w.1 377 0 0) (h2 : ∀ k, 240 ≤ k → k < 1008 → w'.1 376 0 k = w.1 376 0 k) : UR w' V u U := ⟨h1.trans h.1, fun j hj => (h.2 j hj).keep hV fun k q1 q2 => h2 k (by omega) (by omega)⟩
theorem MC.same (h : MC w V lb MS MF) (h1 : w'.1 165 0 0 = w.1 165 0 0) (h2 : ∀ f i k, 256 ≤ f → f ≤ 264 → 19 ≤ i → i ≤ 22 → w'.1 f i k = w.1 f i k) (h3 : ∀ f i k, 96 ≤ f → f ≤ 98 → 1 ≤ i → i ≤ 4 → w'.1 f i k = w.1 f i k) : MC w' V lb MS MF := ⟨h1.trans h.1, h.2.1, fun m hm ht => ⟨(h.2.2 m hm ht).1.same fun f k q1 q2 => h2 f _ k q1 q2 (by omega) (by omega), (h.2.2 m hm ht).2.same fun f k q1 q2 => h3 f _ k q1 q2 (by omega) (by omega)⟩⟩
theorem MR.same (h : MR w V lb MS MF) (hV : OKV V) (hF : ∀ m, m < 4 → lb.testBit m = true → (MF m).1 ≤ 8) (h1 : ∀ m, m < 4 → w'.1 378 0 m = w.1 378 0 m) (h2 : ∀ k, 48 ≤ k → k < 240 → w'.1 376 0 k = w.1 376 0 k) : MR w' V lb MS MF := ⟨fun m hm => (h1 m hm).trans (h.1 m hm), fun m hm ht => ⟨(h.2 m hm ht).1.keep hV fun k q1 q2 => h2 k (by omega) (by omega), (h.2 m hm ht).2.same (hF m hm ht) fun k q1 q2 => h2 k (by omega) (by omega)⟩⟩
theorem NUM.hv (h : NUM n V C S u U lb MS MF F) (hn : n ≤ 64) : HVv V C S := ⟨h.1, h.2.1, h.2.2.1.1, h.2.2.1.2.1, Nat.le_trans h.2.2.1.2.2 hn⟩
theorem NUM.mf (h : NUM n V C S u U lb MS MF F) : ∀ m, m < 4 → lb.testBit m = true → (MF m).1 ≤ 8 := fun m hm ht => (h.2.2.2.2.1 m hm ht).2.1
theorem OKT.mono {n' : Nat} (h : OKT n V S) (hn : n ≤ n') : OKT n' V S := ⟨h.1, h.2.1, Nat.le_trans h.2.2 hn⟩
theorem NUM.mono {n' : Nat} (h : NUM n V C S u U lb MS MF F) (hn : n ≤ n') : NUM n' V C S u U lb MS MF F := ⟨h.1, h.2.1, h.2.2.1.mono hn, fun j hj => (h.2.2.2.1 j hj).mono hn, fun m hm ht => ⟨(h.2.2.2.2.1 m hm ht).1.mono hn, (h.2.2.2.2.1 m hm ht).2⟩, h.2.2.2.2.2⟩
/-- the reference's half doesn't see the class's calls, and the other way round -/
theorem BR.clq (h : BR w V C S u U lb MS MF F) (hN : NUM n V C S u U lb MS MF F) (hu : u ≤ 16) (hC : CLQ w w') : BR w' V C S u U lb MS MF F := by
  have e : ∀ f k, 352 ≤ f → w'.1 f 0 k = w.1 f 0 k := fun f k q => hC.1 f 0 k (Or.inl q)
  obtain ⟨⟨h1, h2, h3⟩, h4, h5, h6⟩ := h
  exact ⟨⟨h1.keep fun k => e _ _ (by omega), h2.keep (e _ _ (by omega)) (fun k => e _ _ (by omega)) (fun k => e _ _ (by omega)), h3.keep hN.1 fun k _ _ => e _ _ (by omega)⟩, h4.same hN.1 hu (e _ _ (by omega)) fun k _ _ => e _ _ (by omega), h5.same hN.1 hN.mf (fun m _ => e _ _ (by omega)) fun k _ _ => e _ _ (by omega), h6.same hN.2.2.2.2.2.1 fun k _ _ => e _ _ (by omega)⟩
theorem BC.rlq (h : BC w c V C S nx u U lb MS MF F) (hR : RLQ w w') : BC w' c V C S nx u U lb MS MF F := by
  have e : ∀ f i k, f < 352 → w'.1 f i k = w.1 f i k := fun f i k q => hR.1 f i k (Or.inl q)
  obtain ⟨⟨h1, h2, h3, h3'⟩, h4, h5, h6⟩ := h
  refine ⟨⟨by rw [hR.2]; exact h1, ?_, h3.same fun f k _ _ => e _ _ _ (by omega), fun k hk => (e _ _ _ (by omega)).trans (h3' k hk)⟩, h4.same (fun f q => e _ _ _ (by omega)) (fun f i k _ _ _ _ _ => e _ _ _ (by omega)), h5.same (e _ _ _ (by omega)) (fun f i k _ _ _ _ => e _ _ _ (by omega)) (fun f i k _ _ _ _ => e _ _ _ (by omega)), h6.same fun f k _ _ => e _ _ _ (by omega)⟩
  unfold RC
  simp (disch := omega) only [e]
  exact h2
/-- questions leave the halves as they are -/
theorem BC.qc (h : BC w c V C S nx u U lb MS MF F) (hK : Keep AQc w w') : BC w' c V C S nx u U lb MS MF F := by
  have e : ∀ f i k, f ≠ 129 → f ≠ 330 → f ≠ 192 → ¬ (256 ≤ f ∧ f ≤ 264 ∧ i = 1) → w'.1 f i k = w.1 f i k := fun f i k q1 q2 q3 q4 => hK.1 f i k fun z => by
    have z : f = 129 ∨ f = 330 ∨ f = 192 ∨ (256 ≤ f ∧ f ≤ 264 ∧ i = 1) := z
    omega
  obtain ⟨h1, h4, h5, h6⟩ := h
  exact ⟨h1.kc hK, h4.same (fun f q => e _ _ _ (by omega) (by omega) (by omega) (by omega)) (fun f i k _ _ _ _ _ => e _ _ _ (by omega) (by omega) (by omega) (by omega)), h5.same (e _ _ _ (by omega) (by omega) (by omega) (by omega)) (fun f i k _ _ _ _ => e _ _ _ (by omega) (by omega) (by omega) (by omega)) (fun f i k _ _ _ _ => e _ _ _ (by omega) (by omega) (by omega) (by omega)), h6.kc hK⟩
theorem BR.qm (h : BR w V C S u U lb MS MF F) (hN : NUM n V C S u U lb MS MF F) (hu : u ≤ 16) (hK : Keep AQm w w') : BR w' V C S u U lb MS MF F := by
  have e : ∀ f k, f ≠ 374 → f ≠ 375 → f ≠ 379 → f ≠ 352 → ¬ (f = 376 ∧ 1008 ≤ k) → w'.1 f 0 k = w.1 f 0 k := fun f k q1 q2 q3 q4 q5 => hK.1 f 0 k fun z => by
    have z : f = 374 ∨ f = 375 ∨ f = 379 ∨ f = 352 ∨ (f = 376 ∧ 1008 ≤ k) := z
    omega
  obtain ⟨h1, h4, h5, h6⟩ := h
  exact ⟨h1.km hN.1 hK, h4.same hN.1 hu (e _ _ (by omega) (by omega) (by omega) (by omega) (by omega)) fun k _ _ => e _ _ (by omega) (by omega) (by omega) (by omega) (by omega), h5.same hN.1 hN.mf (fun m _ => e _ _ (by omega) (by omega) (by omega) (by omega) (by omega)) fun k _ _ => e _ _ (by omega) (by omega) (by omega) (by omega) (by omega), h6.km hN.2.2.2.2.2 hK⟩
/-! deeds -/
def ADc (nx : Nat) : Nat → Nat → Nat → Prop := fun f i _ => f = 129 ∨ f = 161 ∨ f = 162 ∨ (256 ≤ f ∧ f ≤ 264 ∧ (i = 0 ∨ i = nx + 2))
theorem AS_nx (h : Keep (AS (nx + 2)) w w') : Keep (ADc nx) w w' := h.mono fun f i k e => by
  have e : f = 129 ∨ (256 ≤ f ∧ f ≤ 264 ∧ i = nx + 2) := e
  show f = 129 ∨ f = 161 ∨ f = 162 ∨ (256 ≤ f ∧ f ≤ 264 ∧ (i = 0 ∨ i = nx + 2))
  omega
theorem AS_0 (h : Keep (AS 0) w w') : Keep (ADc nx) w w' := h.mono fun f i k e => by
  have e : f = 129 ∨ (256 ≤ f ∧ f ≤ 264 ∧ i = 0) := e
  show f = 129 ∨ f = 161 ∨ f = 162 ∨ (256 ≤ f ∧ f ≤ 264 ∧ (i = 0 ∨ i = nx + 2))
  omega
theorem clq_d (h : Keep (ADc nx) w w') : CLQ w w' := h.clq fun f i k q e => by
  have e : f = 129 ∨ f = 161 ∨ f = 162 ∨ (256 ≤ f ∧ f ≤ 264 ∧ (i = 0 ∨ i = nx + 2)) := e
  omega
theorem HCc.d {S' : VW} (h : HCc w c V C S) (hK : Keep (ADc nx) w w') (hs : RS w' 0 V S') : HCc w' c V C S' := by
  obtain ⟨h1, h2, h3, h4⟩ := h
  refine ⟨by rw [hK.2]; exact h1, h2.keep hK fun f k hf e => ?_, hs, fun k hk => ?_⟩
  · have e : f = 129 ∨ f = 161 ∨ f = 162 ∨ (256 ≤ f ∧ f ≤ 264 ∧ (c = 0 ∨ c = nx + 2)) := e
    omega
  · rw [hK.1 _ _ _ (fun e => by
      have e : (331 : Nat) = 129 ∨ (331 : Nat) = 161 ∨ (331 : Nat) = 162 ∨ (256 ≤ 331 ∧ 331 ≤ 264 ∧ (0 = 0 ∨ 0 = nx + 2)) := e
      omega)]
    exact h4 k hk
theorem MC.d (h : MC w V lb MS MF) (hK : Keep (ADc nx) w w') (hnx : nx ≤ 16) : MC w' V lb MS MF := by
  have e : ∀ f i k, ¬ (f = 129 ∨ f = 161 ∨ f = 162 ∨ (256 ≤ f ∧ f ≤ 264 ∧ (i = 0 ∨ i = nx + 2))) → w'.1 f i k = w.1 f i k := fun f i k q => hK.1 f i k q
  exact h.same (e _ _ _ (by omega)) (fun f i k _ _ _ _ => e _ _ _ (by omega)) (fun f i k _ _ _ _ => e _ _ _ (by omega))
/-- the class's half behind a deed: o says whether it was done -/
def nxO (o : Option VW) (nx : Nat) : Nat := if o.isSome then pn nx else nx
def uO (o : Option VW) (u : Nat) : Nat := if o.isSome then pu u else u
def UO (o : Option VW) (u : Nat) (U : Nat → VW) (S : VW) : Nat → VW := if o.isSome then pushU u U S else U
/-- hold, the deed, and keep if it was done -/
theorem c_deed (h : BC w c V C S nx u U lb MS MF F) {o : Option VW} {w1 w2 : Wd} (K1 : Keep (AS (nx + 2)) w w1) (R1 : RS w1 (nx + 2) V S) (K2 : Keep (AS 0) w1 w2) (R2 : RS w2 0 V (o.getD S)) :
    (o = none → BC w2 c V C S nx u U lb MS MF F) ∧ (o.isSome → w2.1 161 0 0 = nI nx ∧ w2.1 162 0 0 = nI u ∧ BC (sI (sI w2 161 0 0 (nI (pn nx))) 162 0 0 (nI (pu u))) c V C (o.getD S) (pn nx) (pu u) (pushU u U S) lb MS MF F) ∧ CLQ w w2 := by
  obtain ⟨h1, ⟨a1, a2, a3, a4, a5⟩, h5, h6⟩ := h
  have kk : Keep (ADc nx) w w2 := (AS_nx K1).tr (AS_0 K2)
  have e : ∀ f i k, ¬ (f = 129 ∨ f = 161 ∨ f = 162 ∨ (256 ≤ f ∧ f ≤ 264 ∧ (i = 0 ∨ i = nx + 2))) → w2.1 f i k = w.1 f i k := fun f i k q => kk.1 f i k q
  have e161 : w2.1 161 0 0 = nI nx := by
    rw [K2.1 161 0 0 (fun q => by have q : (161 : Nat) = 129 ∨ (256 ≤ 161 ∧ 161 ≤ 264 ∧ 0 = 0) := q; omega), K1.1 161 0 0 (fun q => by have q : (161 : Nat) = 129 ∨ (256 ≤ 161 ∧ 161 ≤ 264 ∧ 0 = nx + 2) := q; omega)]
    exact a1
  have e162 : w2.1 162 0 0 = nI u := by
    rw [K2.1 162 0 0 (fun q => by have q : (162 : Nat) = 129 ∨ (256 ≤ 162 ∧ 162 ≤ 264 ∧ 0 = 0) := q; omega), K1.1 162 0 0 (fun q => by have q : (162 : Nat) = 129 ∨ (256 ≤ 162 ∧ 162 ≤ 264 ∧ 0 = nx + 2) := q; omega)]
    exact a3
  have eF : RFc w2 0 F := h6.same fun f k q1 q2 => e _ _ _ (by omega)
  refine ⟨fun ho => ?_, fun ho => ⟨e161, e162, ?_⟩, clq_d kk⟩
  · subst ho
    exact ⟨h1.d kk R2, ⟨e161, a2, e162, a4, fun j hj => (a5 j hj).same fun f k q1 q2 => by
      have hm : (nx + 17 - u + j) % 17 < 17 := Nat.mod_lt _ (by omega)
      exact e _ _ _ (by omega)⟩, h5.d kk a2, eF⟩
  · have k3 : Keep (ADc nx) w (sI (sI w2 161 0 0 (nI (pn nx))) 162 0 0 (nI (pu u))) := (kk.tr (Keep.sI (Or.inr (Or.inl rfl)))).tr (Keep.sI (Or.inr (Or.inr (Or.inl rfl))))
    have s3 : ∀ i T, RS w2 i V T → RS (sI (sI w2 161 0 0 (nI (pn nx))) 162 0 0 (nI (pu u))) i V T := fun i T hh => hh.same fun f k q1 q2 => by
      rw [sI_1, if_neg (by omega), sI_1, if_neg (by omega)]
    have hnew : RS w2 (nx + 2) V S := R1.same fun f k q1 q2 => K2.1 f _ k (fun q => by have q : f = 129 ∨ (256 ≤ f ∧ f ≤ 264 ∧ nx + 2 = 0) := q; omega)
    refine ⟨h1.d k3 (s3 _ _ R2), ⟨by simp only [sI_1, sI_2, sA_1, sA_2, sJ_1, sJ_21, sJ_22, sE_1, sE_21, sE_22, false_and, and_false, true_and, and_true, and_self, ↓reduceIte, Nat.reduceEqDiff, Nat.reduceLeDiff], by unfold pn; split <;> omega, by simp only [sI_1, sI_2, sA_1, sA_2, sJ_1, sJ_21, sJ_22, sE_1, sE_21, sE_22, false_and, and_false, true_and, and_true, and_self, ↓reduceIte, Nat.reduceEqDiff, Nat.reduceLeDiff], by unfold pu; split <;> omega, ?_⟩, h5.d k3 a2, eF.same fun f k q1 q2 => by rw [sI_1, if_neg (by omega), sI_1, if_neg (by omega)]⟩
    exact ring_push a2 a4 a5 (s3 _ _ hnew) (fun i T q1 q2 q3 hh => s3 _ _ (hh.same fun f k q4 q5 => e _ _ _ (by omega)))
/-- the reference's half behind a deed -/
def ADm : Nat → Nat → Nat → Prop := fun f _ k => f = 352 ∨ f = 374 ∨ f = 375 ∨ f = 377 ∨ (f = 376 ∧ (k < 31 ∨ (240 ≤ k ∧ k < 1008)))
theorem AK_d (h : Keep AK w w') : Keep ADm w w' := h.mono fun f i k e => by
  have e : f = 377 ∨ (f = 376 ∧ 240 ≤ k ∧ k < 1008) := e
  show f = 352 ∨ f = 374 ∨ f = 375 ∨ f = 377 ∨ (f = 376 ∧ (k < 31 ∨ (240 ≤ k ∧ k < 1008)))
  omega
theorem AM_d (h : Keep AM w w') : Keep ADm w w' := h.mono fun f i k e => by
  have e : f = 374 ∨ f = 375 := e
  show f = 352 ∨ f = 374 ∨ f = 375 ∨ f = 377 ∨ (f = 376 ∧ (k < 31 ∨ (240 ≤ k ∧ k < 1008)))
  omega
theorem AM0_d (h : Keep (AMb 0) w w') : Keep ADm w w' := h.mono fun f i k e => by
  have e : f = 374 ∨ f = 375 ∨ (f = 376 ∧ 0 ≤ k ∧ k < 0 + 31) := e
  show f = 352 ∨ f = 374 ∨ f = 375 ∨ f = 377 ∨ (f = 376 ∧ (k < 31 ∨ (240 ≤ k ∧ k < 1008)))
  omega
theorem thr_d (w : Wd) (x : Int32) : Keep ADm w (sI w 352 0 0 x) := Keep.sI (Or.inl rfl)
theorem rlq_d (h : Keep ADm w w') : RLQ w w' := h.rlq fun f i k q e => by
  have e : f = 352 ∨ f = 374 ∨ f = 375 ∨ f = 377 ∨ (f = 376 ∧ (k < 31 ∨ (240 ≤ k ∧ k < 1008))) := e
  omega
theorem m_deed (h : BR w V C S u U lb MS MF F) (hN : NUM n V C S u U lb MS MF F) {S' : VW} {u' : Nat} {U' : Nat → VW} (hK : Keep ADm w w') (hs : RMS w' 0 V S') (h1 : w'.1 377 0 0 = nI u') (hU : ∀ j, j < u' → RMS w' (240 + 48 * j) V (U' j)) : BR w' V C S' u' U' lb MS MF F := by
  have e : ∀ f k, ¬ (f = 352 ∨ f = 374 ∨ f = 375 ∨ f = 377 ∨ (f = 376 ∧ (k < 31 ∨ (240 ≤ k ∧ k < 1008)))) → w'.1 f 0 k = w.1 f 0 k := fun f k q => hK.1 f 0 k q
  obtain ⟨⟨g1, g2, -⟩, -, h5, h6⟩ := h
  exact ⟨⟨g1.keep fun k => e _ _ (by omega), g2.keep (e _ _ (by omega)) (fun k => e _ _ (by omega)) (fun k => e _ _ (by omega)), hs⟩, ⟨h1, hU⟩, h5.same hN.1 hN.mf (fun m _ => e _ _ (by omega)) fun k _ _ => e _ _ (by omega), h6.same hN.2.2.2.2.2.1 fun k _ _ => e _ _ (by omega)⟩
theorem HRr.dm (h : HRr w V C S) (hK : Keep ADm w w') : RMC w' V ∧ RML w' C := by
  have e : ∀ f k, ¬ (f = 352 ∨ f = 374 ∨ f = 375 ∨ f = 377 ∨ (f = 376 ∧ (k < 31 ∨ (240 ≤ k ∧ k < 1008)))) → w'.1 f 0 k = w.1 f 0 k := fun f k q => hK.1 f 0 k q
  exact ⟨h.1.keep fun k => e _ _ (by omega), h.2.1.keep (e _ _ (by omega)) (fun k => e _ _ (by omega)) (fun k => e _ _ (by omega))⟩
end BLOCKS
