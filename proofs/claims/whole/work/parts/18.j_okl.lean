/-! ===== the lines of a dive that is read are in order ===== -/
section OKLN
variable {t : Nat} {T : Nat → Nat} {i n : Nat} {s : DSt}
theorem dlF_ok (h4 : nD s.V ≤ 4) (hz : (dlF t T s n (i, 0)).2.2 = 0) : OKL s.V (dlF t T s n (i, 0)).1 := by
  have h0 : (ckT t T (cDd t T n) (i, 0)).2 = 0 := by
    by_cases c : (ckT t T (cDd t T n) (i, 0)).2 = 0
    · exact c
    · unfold dlF at hz
      rw [fqF_e c, sqF_e c, nqF_e c] at hz
      exact hz
  obtain ⟨-, a2, a3⟩ := ckT_ok h0
  have a2 : cDd t T n i = 0 := a2
  cases ho : dvO (wdI t T i) with
  | none => unfold cDd at a2; rw [ho] at a2; cases a2
  | some a =>
    have ha : a ≤ 6 := by
      cases hw : wdI t T i with
      | none => rw [hw] at ho; cases ho
      | some j =>
        rw [hw] at ho
        have ho : (if 10 ≤ j ∧ j < 10 + 7 then some (j - 10) else none) = some a := ho
        by_cases c : 10 ≤ j ∧ j < 10 + 7
        · rw [if_pos c] at ho
          have := Option.some.inj ho
          omega
        · rw [if_neg c] at ho; cases ho
    have eA : dlA t T (i, 0) = a := by unfold dlA; rw [ho]; rfl
    have eD : dlF t T s n (i, 0) = ((a, if a < 5 then dvI t T s (i + 1) else 0, if a = 6 then 0 else nvI t T (sqF t T s a (dvI t T s (i + 1)) (fqF t T s a (i + 1, 0))).1, if a = 4 then dvI t T s (fqF t T s a (i + 1, 0)).1 else 0), nqF t T a (sqF t T s a (dvI t T s (i + 1)) (fqF t T s a (i + 1, 0)))) := by
      unfold dlF
      rw [eA, a3]
    rw [eD] at hz ⊢
    have hz : (nqF t T a (sqF t T s a (dvI t T s (i + 1)) (fqF t T s a (i + 1, 0)))).2 = 0 := hz
    have hs3 : (sqF t T s a (dvI t T s (i + 1)) (fqF t T s a (i + 1, 0))).2 = 0 := by
      by_cases c : (sqF t T s a (dvI t T s (i + 1)) (fqF t T s a (i + 1, 0))).2 = 0
      · exact c
      · rw [nqF_e c] at hz; exact hz
    have hs2 : (fqF t T s a (i + 1, 0)).2 = 0 := by
      by_cases c : (fqF t T s a (i + 1, 0)).2 = 0
      · exact c
      · rw [sqF_e c] at hs3; exact hs3
    have hnum : a = 6 ∨ (nvI t T (sqF t T s a (dvI t T s (i + 1)) (fqF t T s a (i + 1, 0))).1 ≤ 99 ∧ (2 ≤ a → a ≤ 4 → 1 ≤ nvI t T (sqF t T s a (dvI t T s (i + 1)) (fqF t T s a (i + 1, 0))).1)) := by
      generalize sqF t T s a (dvI t T s (i + 1)) (fqF t T s a (i + 1, 0)) = q3 at *
      by_cases h6 : a = 6
      · exact Or.inl h6
      · right
        unfold nqF at hz
        rw [if_neg h6] at hz
        by_cases h24 : 2 ≤ a ∧ a ≤ 4
        · rw [if_pos h24] at hz
          obtain ⟨-, b1, b2⟩ := cNum_ok (ckT_ok hz).2.1
          exact ⟨b2, fun _ _ => b1⟩
        · rw [if_neg h24] at hz
          obtain ⟨-, b1, b2⟩ := cNum_ok (ckT_ok hz).2.1
          exact ⟨by omega, fun c d => absurd ⟨c, d⟩ h24⟩
    have hfst : a < 5 → dvI t T s (i + 1) < nD s.V := fun h5 => by
      unfold fqF at hs2
      rw [if_pos h5] at hs2
      obtain ⟨-, c2, -⟩ := ckT_ok hs2
      have c2 : cTB t T (dnD s) 0 (i + 1) = 0 := c2
      obtain ⟨-, d, hd, -⟩ := cTB_ok c2
      have d4 := (fdG_s _ _ hd).1
      unfold dvI
      rw [hd]; exact d4
    have hsnd : a = 4 → dvI t T s (fqF t T s a (i + 1, 0)).1 < nD s.V := fun h5 => by
      unfold sqF at hs3
      rw [if_pos h5] at hs3
      obtain ⟨-, c2, -⟩ := ckT_ok hs3
      obtain ⟨-, d, hd, -⟩ := cTB_ok c2
      have d4 := (fdG_s _ _ hd).1
      unfold dvI
      rw [hd]; exact d4
    generalize nvI t T (sqF t T s a (dvI t T s (i + 1)) (fqF t T s a (i + 1, 0))).1 = y at *
    generalize dvI t T s (fqF t T s a (i + 1, 0)).1 = z at *
    generalize dvI t T s (i + 1) = x at *
    refine ⟨ha, fun h5 => ?_, fun h5 => ?_, fun c d => ?_, ?_, ?_, ?_⟩
    · show (if a < 5 then x else 0) < nD s.V
      rw [if_pos h5]; exact hfst h5
    · show (if a = 4 then z else 0) < nD s.V
      rw [if_pos h5]; exact hsnd h5
    · have c : 2 ≤ a := c
      have d : a ≤ 4 := d
      show 1 ≤ (if a = 6 then 0 else y) ∧ (if a = 6 then 0 else y) ≤ 99
      rw [if_neg (by omega)]
      rcases hnum with e | e
      · omega
      · exact ⟨e.2 c d, e.1⟩
    · show (if a = 6 then 0 else y) ≤ 99
      split
      · omega
      · rcases hnum with e | e
        · omega
        · exact e.1
    · show (if a < 5 then x else 0) < 2 ^ 31
      split
      · rename_i h5
        have := hfst h5
        omega
      · omega
    · show (if a = 4 then z else 0) < 2 ^ 31
      split
      · rename_i h5
        have := hsnd h5
        omega
      · omega
theorem dvsF_ok (h4 : nD s.V ≤ 4) : ∀ m n L q, (∀ k, k < n → OKL s.V (L k)) → (dvsF t T s m n L q).2.2.2 = 0 → ∀ k, k < (dvsF t T s m n L q).1 → OKL s.V ((dvsF t T s m n L q).2.1 k)
  | 0, n, L, q, h, _ => h
  | m + 1, n, L, q, h, hz => by
    by_cases hq : q.2 = 0 ∧ ¬ kdI t T q.1 = 0
    · have e1 : dvsF t T s (m + 1) n L q = dvsF t T s m (n + 1) (upN L n (dlF t T s n q).1) (ckT t T (cSg t T 59) (dlF t T s n q).2) := by
        show (if q.2 = 0 ∧ ¬ kdI t T q.1 = 0 then _ else _) = _
        rw [if_pos hq]
      rw [e1] at hz ⊢
      by_cases hl : (ckT t T (cSg t T 59) (dlF t T s n q).2).2 = 0
      · refine dvsF_ok h4 m (n + 1) _ _ (fun k hk => ?_) hz
        unfold upN
        by_cases c : k = n
        · rw [if_pos c]
          obtain ⟨i, e⟩ := q
          have he : e = 0 := hq.1
          subst he
          exact dlF_ok h4 (ckT_ok hl).1
        · rw [if_neg c]; exact h k (by omega)
      · exfalso
        rw [dvsF_end (fun z => hl z.1)] at hz
        exact hl hz
    · rw [dvsF_end hq] at hz ⊢
      exact h
end OKLN
