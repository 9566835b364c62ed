/-! ===== what the lines keep: bounds, names, the law ===== -/
theorem fdG_up {α : Type} [DecidableEq α] {g : Nat → α} {x y : α} {n : Nat} : fdG (upN g n x) y (n + 1) = (fdG g y n).or (if x = y then some n else none) := by
  have e : fdG (upN g n x) y n = fdG g y n := fdG_congr n fun p hp => by
    unfold upN
    rw [if_neg (by omega)]
  show (match fdG (upN g n x) y n with
    | some p => some p
    | none => if upN g n x n = y then some n else none) = _
  rw [e]
  cases fdG g y n with
  | some p => rfl
  | none =>
    show (if upN g n x n = y then some n else none) = if x = y then some n else none
    unfold upN
    rw [if_pos rfl]
def nmM (a b : Option Nat) : Option Nat := match a with
  | some p => some p
  | none => b.map (20 + ·)
section PUR
variable {t : Nat} {T : Nat → Nat} {i N : Nat} {s : DSt} {l : List Nat}
theorem NMok.tt (h : NMok s) (l : List Nat) : (fdG s.N l (nP s.V + nD s.V)).map s.O = nmM (pnD s l) (dnD s l) := h.1 l
theorem NMok_P {v : Nat} (h : NMok s) (hp : pnD s l = none) (hd : dnD s l = none) (ho : okLt l) (h8 : l.length ≤ 8) (hb : nP s.V < 7) : NMok (addP s l v) := by
  have e2 : ∀ l', pnD (addP s l v) l' = (pnD s l').or (if l = l' then some (nP s.V) else none) := fun l' => fdG_up
  have e3 : ∀ l', dnD (addP s l v) l' = dnD s l' := fun l' => rfl
  have e1 : ∀ l', tnD (addP s l v) l' = ((fdG s.N l' (nP s.V + nD s.V)).or (if l = l' then some (nP s.V + nD s.V) else none)).map (upN s.O (nP s.V + nD s.V) (nP s.V)) := fun l' => by
    show (fdG (upN s.N (nP s.V + nD s.V) l) l' (nP s.V + 1 + nD s.V)).map _ = _
    rw [show nP s.V + 1 + nD s.V = nP s.V + nD s.V + 1 from by omega, fdG_up]
    rfl
  refine ⟨fun l' => ?_, fun l' p hq => ?_, fun k hk => ?_, h.2.2.2.1, fun k hk => ?_⟩
  · show tnD (addP s l v) l' = nmM (pnD (addP s l v) l') (dnD (addP s l v) l')
    rw [e1, e2, e3]
    have h1 := h.tt l'
    cases hk : fdG s.N l' (nP s.V + nD s.V) with
    | some k =>
      rw [hk] at h1
      have hkl := (fdG_s _ _ hk).1
      have eo : upN s.O (nP s.V + nD s.V) (nP s.V) k = s.O k := if_neg (by omega)
      show some (upN s.O (nP s.V + nD s.V) (nP s.V) k) = _
      rw [eo]
      cases hpp : pnD s l' with
      | some p => rw [hpp] at h1; exact h1
      | none =>
        rw [hpp] at h1
        have hne : ¬ l = l' := fun e => by
          subst e
          rw [hd] at h1
          cases h1
        rw [if_neg hne]
        exact h1
    | none =>
      rw [hk] at h1
      cases hpp : pnD s l' with
      | some p => rw [hpp] at h1; cases h1
      | none =>
        rw [hpp] at h1
        by_cases e : l = l'
        · rw [if_pos e, if_pos e]
          show some (upN s.O (nP s.V + nD s.V) (nP s.V) (nP s.V + nD s.V)) = some (nP s.V)
          exact congrArg some (if_pos rfl)
        · rw [if_neg e, if_neg e]; exact h1
  · rw [e2] at hq
    rw [e3]
    cases hpp : pnD s l' with
    | some r => exact h.2.1 l' r hpp
    | none =>
      rw [hpp] at hq
      by_cases e : l = l'
      · rw [← e]; exact hd
      · rw [if_neg e] at hq; cases hq
  · have hk : k < nP s.V + 1 := hk
    show okLt (if k = nP s.V then l else s.P k) ∧ (if k = nP s.V then l else s.P k).length ≤ 8
    by_cases e : k = nP s.V
    · rw [if_pos e]; exact ⟨ho, h8⟩
    · rw [if_neg e]; exact h.2.2.1 k (by omega)
  · have hk : k < nP s.V + 1 + nD s.V := hk
    show okLt (if k = nP s.V + nD s.V then l else s.N k) ∧ (if k = nP s.V + nD s.V then l else s.N k).length ≤ 8 ∧ (if k = nP s.V + nD s.V then nP s.V else s.O k) < 30
    by_cases e : k = nP s.V + nD s.V
    · rw [if_pos e, if_pos e]; exact ⟨ho, h8, by omega⟩
    · rw [if_neg e, if_neg e]; exact h.2.2.2.2 k (by omega)
theorem NMok_D {k0 v : Nat} (h : NMok s) (hp : pnD s l = none) (hd : dnD s l = none) (ho : okLt l) (h8 : l.length ≤ 8) (hb : nD s.V < 4) : NMok (addD s l k0 v) := by
  have e2 : ∀ l', dnD (addD s l k0 v) l' = (dnD s l').or (if l = l' then some (nD s.V) else none) := fun l' => fdG_up
  have e3 : ∀ l', pnD (addD s l k0 v) l' = pnD s l' := fun l' => rfl
  have e1 : ∀ l', tnD (addD s l k0 v) l' = ((fdG s.N l' (nP s.V + nD s.V)).or (if l = l' then some (nP s.V + nD s.V) else none)).map (upN s.O (nP s.V + nD s.V) (20 + nD s.V)) := fun l' => by
    show (fdG (upN s.N (nP s.V + nD s.V) l) l' (nP s.V + (nD s.V + 1))).map _ = _
    rw [show nP s.V + (nD s.V + 1) = nP s.V + nD s.V + 1 from by omega, fdG_up]
    rfl
  refine ⟨fun l' => ?_, fun l' p hq => ?_, h.2.2.1, fun k hk => ?_, fun k hk => ?_⟩
  · show tnD (addD s l k0 v) l' = nmM (pnD (addD s l k0 v) l') (dnD (addD s l k0 v) l')
    rw [e1, e2, e3]
    have h1 := h.tt l'
    cases hk : fdG s.N l' (nP s.V + nD s.V) with
    | some k =>
      rw [hk] at h1
      have hkl := (fdG_s _ _ hk).1
      have eo : upN s.O (nP s.V + nD s.V) (20 + nD s.V) k = s.O k := if_neg (by omega)
      show some (upN s.O (nP s.V + nD s.V) (20 + nD s.V) k) = _
      rw [eo]
      cases hpp : pnD s l' with
      | some p => rw [hpp] at h1; exact h1
      | none =>
        rw [hpp] at h1
        cases hdd : dnD s l' with
        | some d => rw [hdd] at h1; exact h1
        | none => rw [hdd] at h1; cases h1
    | none =>
      rw [hk] at h1
      cases hpp : pnD s l' with
      | some p => rw [hpp] at h1; cases h1
      | none =>
        rw [hpp] at h1
        cases hdd : dnD s l' with
        | some d => rw [hdd] at h1; cases h1
        | none =>
          by_cases e : l = l'
          · rw [if_pos e, if_pos e]
            show some (upN s.O (nP s.V + nD s.V) (20 + nD s.V) (nP s.V + nD s.V)) = some (20 + nD s.V)
            exact congrArg some (if_pos rfl)
          · rw [if_neg e, if_neg e]; rfl
  · rw [e3] at hq
    rw [e2, h.2.1 l' p hq]
    have e : ¬ l = l' := fun e => by
      subst e
      rw [hp] at hq
      cases hq
    rw [if_neg e]; rfl
  · have hk : k < nD s.V + 1 := hk
    show okLt (if k = nD s.V then l else s.D k) ∧ (if k = nD s.V then l else s.D k).length ≤ 8
    by_cases e : k = nD s.V
    · rw [if_pos e]; exact ⟨ho, h8⟩
    · rw [if_neg e]; exact h.2.2.2.1 k (by omega)
  · have hk : k < nP s.V + (nD s.V + 1) := hk
    show okLt (if k = nP s.V + nD s.V then l else s.N k) ∧ (if k = nP s.V + nD s.V then l else s.N k).length ≤ 8 ∧ (if k = nP s.V + nD s.V then 20 + nD s.V else s.O k) < 30
    by_cases e : k = nP s.V + nD s.V
    · rw [if_pos e, if_pos e]; exact ⟨ho, h8, by omega⟩
    · rw [if_neg e, if_neg e]; exact h.2.2.2.2 k (by omega)
theorem OKV_P {v : Nat} (h : OKV s.V) (hb : nP s.V < 7) (hv : v ≤ 9) : OKV (addP s l v).V := by
  refine ⟨hb, h.W, h.D, h.R, fun p => ?_, fun k hk => ⟨Nat.lt_succ_of_lt (h.e1 hk), Nat.lt_succ_of_lt (h.e2 hk)⟩, h.len, h.nar, h.kind, h.tank, h.rn, fun k hk => h.len1 hk⟩
  show (if 1 = 1 ∧ p = nP s.V then v else s.V 1 p) ≤ 9
  have := h.dep p
  split <;> omega
theorem OKV_D {k0 v : Nat} (h : OKV s.V) (hb : nD s.V < 4) (hk : k0 ≤ 3) (hv : v ≤ 900) : OKV (addD s l k0 v).V := by
  refine ⟨h.P, h.W, hb, h.R, h.dep, fun k hk => ⟨h.e1 hk, h.e2 hk⟩, h.len, h.nar, fun d => ?_, fun d => ?_, h.rn, fun k hk => h.len1 hk⟩
  · show (if 6 = 6 ∧ d = nD s.V then k0 else s.V 6 d) ≤ 3
    have := h.kind d
    split <;> omega
  · show (if 7 = 7 ∧ d = nD s.V then v else s.V 7 d) ≤ 900
    have := h.tank d
    split <;> omega
theorem OKV_W {a b x v : Nat} (h : OKV s.V) (hb : nW s.V < 8) (ha : a < nP s.V) (hb2 : b < nP s.V) (hx : x ≤ 1) (h1 : 1 ≤ v) (hv : v ≤ 9) : OKV (addW s a b x v).V := by
  refine ⟨h.P, hb, h.D, h.R, h.dep, fun k hk => ⟨?_, ?_⟩, fun k => ?_, fun k => ?_, h.kind, h.tank, h.rn, fun k hk => ?_⟩
  · have hk : k < nW s.V + 1 := hk
    show (if 2 = 2 ∧ k = nW s.V then a else s.V 2 k) < nP s.V
    by_cases e : k = nW s.V
    · rw [if_pos ⟨rfl, e⟩]; exact ha
    · rw [if_neg (by omega)]; exact h.e1 (by omega)
  · have hk : k < nW s.V + 1 := hk
    show (if 3 = 3 ∧ k = nW s.V then b else s.V 3 k) < nP s.V
    by_cases e : k = nW s.V
    · rw [if_pos ⟨rfl, e⟩]; exact hb2
    · rw [if_neg (by omega)]; exact h.e2 (by omega)
  · show (if 4 = 4 ∧ k = nW s.V then v else s.V 4 k) ≤ 9
    have := h.len k
    split <;> omega
  · show (if 5 = 5 ∧ k = nW s.V then x else s.V 5 k) ≤ 1
    have := h.nar k
    split <;> omega
  · have hk : k < nW s.V + 1 := hk
    show 1 ≤ (if 4 = 4 ∧ k = nW s.V then v else s.V 4 k)
    by_cases e : k = nW s.V
    · rw [if_pos ⟨rfl, e⟩]; exact h1
    · rw [if_neg (by omega)]; exact h.len1 (by omega)
theorem OKV_R {n : Nat} {R : Nat → Nat} (h : OKV s.V) (hn : n ≤ 12) (hR : ∀ r, R r ≤ 9) : OKV (setR s n R).V := ⟨h.P, h.W, h.D, hn, h.dep, fun k hk => ⟨h.e1 hk, h.e2 hk⟩, h.len, h.nar, h.kind, h.tank, hR, fun k hk => h.len1 hk⟩
theorem rnF_ok : ∀ m n R q, n + m = 12 → (∀ r, R r ≤ 9) → (rnF t T m n R q).2.2.2 = 0 → (rnF t T m n R q).1 ≤ 12 ∧ ∀ r, (rnF t T m n R q).2.1 r ≤ 9
  | 0, n, R, q, hn, hR, h => by
    unfold rnF at h ⊢
    split at h
    · rename_i hc
      rw [if_pos hc]
      exact ⟨by show n ≤ 12; omega, hR⟩
    · rename_i hc
      rw [if_neg hc]
      exact ⟨by show n ≤ 12; omega, hR⟩
  | m + 1, n, R, q, hn, hR, h => by
    unfold rnF at h ⊢
    split at h
    · rename_i hc
      rw [if_pos hc]
      by_cases hz : (ckT t T (cNum t T 0 9) q).2 = 0
      · refine rnF_ok m (n + 1) _ _ (by omega) (fun r => ?_) h
        unfold upN
        by_cases e : r = n
        · rw [if_pos e]; exact (cNum_ok (ckT_ok hz).2.1).2.2
        · rw [if_neg e]; exact hR r
      · exfalso
        have e1 : ∀ m' n' R', rnF t T m' n' R' (ckT t T (cNum t T 0 9) q) = (n', R', ckT t T (cNum t T 0 9) q) := fun m' n' R' => by
          cases m' with
          | zero =>
            show (if (ckT t T (cNum t T 0 9) q).2 = 0 ∧ _ then _ else (n', R', ckT t T (cNum t T 0 9) q)) = _
            rw [if_neg (fun z => hz z.1)]
          | succ m' =>
            show (if (ckT t T (cNum t T 0 9) q).2 = 0 ∧ _ then _ else (n', R', ckT t T (cNum t T 0 9) q)) = _
            rw [if_neg (fun z => hz z.1)]
        rw [e1] at h
        exact hz h
    · rename_i hc
      rw [if_neg hc]
      exact ⟨by show n ≤ 12; omega, hR⟩
theorem cNew_ok (h : cNew t T s i = 0) : kdI t T i = 1 ∧ pnD s (wlI t T i) = none ∧ dnD s (wlI t T i) = none := by
  refine ⟨cNew_kd h, ?_⟩
  unfold cNew at h
  split at h
  · cases h
  · split at h
    · cases h
    · rename_i hc
      cases hp : pnD s (wlI t T i) with
      | some p => rw [hp] at hc; exact absurd rfl hc
      | none =>
        cases hd : dnD s (wlI t T i) with
        | some p => rw [hp, hd] at hc; exact absurd rfl hc
        | none => exact ⟨rfl, rfl⟩
theorem okc_us : okc [1, -1, -10] 0 := by
  unfold okc
  rw [if_neg (by decide)]
  refine ⟨by omega, ?_⟩
  unfold okc
  rw [if_neg (by decide)]
  refine ⟨by omega, ?_⟩
  unfold okc
  rw [if_pos (by decide), if_neg (by decide)]
  exact ⟨by decide, by omega, rfl⟩
/-- all that holds of what is read -/
def DOC (s : DSt) : Prop := DOK s ∧ OKC s.C
theorem lineF_ok (hN : NTk t T N) (h1000 : N ≤ 1000) (hi : i < N) (h : DOC s) : DOC (lineF t T s (i, 0)).1 := by
  have hV := h.1.1
  have hM := h.1.2
  have b7 := hV.P
  have b8 := hV.W
  have b4 := hV.D
  unfold lineF
  split
  · by_cases hl : nP s.V = 7
    · rw [lnP_f hl]; exact h
    · rw [lnP_0 hl]
      by_cases hq : (ckT t T (cNum t T 0 9) (ckT t T (cWd t T 1) (ckT t T (cNew t T s) (i + 1, 0)))).2 = 0
      · obtain ⟨a1, a2, a3⟩ := ckT_ok hq
        obtain ⟨b1, b2, b3⟩ := ckT_ok a1
        obtain ⟨c1, c2, c3⟩ := ckT_ok b1
        have c2 : cNew t T s (i + 1) = 0 := c2
        have e : (ckT t T (cWd t T 1) (ckT t T (cNew t T s) (i + 1, 0))).1 = i + 3 := by rw [b3, c3]
        rw [e] at a2
        obtain ⟨n1, n2, n3⟩ := cNew_ok c2
        obtain ⟨o1, o2⟩ := wlI_ok n1
        obtain ⟨-, -, v9⟩ := cNum_ok a2
        show DOC (if _ then _ else _)
        rw [if_pos hq]
        exact ⟨⟨OKV_P hV (by omega) v9, NMok_P hM n2 n3 o1 o2 (by omega)⟩, h.2⟩
      · show DOC (if _ then _ else _)
        rw [if_neg hq]; exact h
  · split
    · by_cases hl : nW s.V = 8
      · rw [lnW_f hl]; exact h
      · rw [lnW_0 hl]
        by_cases hq : (ckT t T (cNum t T 1 9) (ckT t T (cWd t T 3) (ckT t T (cWth t T) (ckT t T (cTold t T s (some (plA t T s (i + 1)))) (ckT t T (cTold t T s none) (i + 1, 0)))))).2 = 0
        · obtain ⟨a1, a2, a3⟩ := ckT_ok hq
          obtain ⟨b1, b2, b3⟩ := ckT_ok a1
          obtain ⟨c1, c2, c3⟩ := ckT_ok b1
          obtain ⟨d1, d2, d3⟩ := ckT_ok c1
          obtain ⟨f1, f2, f3⟩ := ckT_ok d1
          have f2 : cTold t T s none (i + 1) = 0 := f2
          rw [f3] at d2
          have d2 : cTold t T s (some (plA t T s (i + 1))) (i + 2) = 0 := d2
          have e : (ckT t T (cWd t T 3) (ckT t T (cWth t T) (ckT t T (cTold t T s (some (plA t T s (i + 1)))) (ckT t T (cTold t T s none) (i + 1, 0))))).1 = i + 5 := by rw [b3, c3, d3, f3]
          rw [e] at a2
          obtain ⟨-, p, hp, -⟩ := cTold_ok f2
          obtain ⟨-, r, hr, -⟩ := cTold_ok d2
          obtain ⟨-, v1, v9⟩ := cNum_ok a2
          have eA : plA t T s (i + 1) = p := by unfold plA; rw [hp]; rfl
          have eB : plA t T s (i + 2) = r := by unfold plA; rw [hr]; rfl
          show DOC (if _ then _ else _)
          rw [if_pos hq, eA, eB]
          refine ⟨⟨OKV_W hV (by omega) (fdG_s _ _ hp).1 (fdG_s _ _ hr).1 ?_ v1 v9, hM⟩, h.2⟩
          split <;> omega
        · show DOC (if _ then _ else _)
          rw [if_neg hq]; exact h
    · split
      · by_cases hl : nD s.V = 4
        · rw [lnD_f hl]; exact h
        · rw [lnD_0 hl]
          by_cases hq : (ckT t T (cNum t T 1 900) (ckT t T (cWd t T 5) (ckT t T (cKnd t T) (ckT t T (cNew t T s) (i + 1, 0))))).2 = 0
          · obtain ⟨a1, a2, a3⟩ := ckT_ok hq
            obtain ⟨b1, b2, b3⟩ := ckT_ok a1
            obtain ⟨c1, c2, c3⟩ := ckT_ok b1
            obtain ⟨d1, d2, d3⟩ := ckT_ok c1
            have d2 : cNew t T s (i + 1) = 0 := d2
            rw [d3] at c2
            have c2 : cKnd t T (i + 2) = 0 := c2
            have e : (ckT t T (cWd t T 5) (ckT t T (cKnd t T) (ckT t T (cNew t T s) (i + 1, 0)))).1 = i + 4 := by rw [b3, c3, d3]
            rw [e] at a2
            obtain ⟨n1, n2, n3⟩ := cNew_ok d2
            obtain ⟨o1, o2⟩ := wlI_ok n1
            obtain ⟨-, -, v9⟩ := cNum_ok a2
            obtain ⟨-, k, hk, k4⟩ := cKnd_ok c2
            show DOC (if _ then _ else _)
            rw [if_pos hq, hk]
            exact ⟨⟨OKV_D hV (by omega) (by show k ≤ 3; omega) v9, NMok_D hM n2 n3 o1 o2 (by omega)⟩, h.2⟩
          · show DOC (if _ then _ else _)
            rw [if_neg hq]; exact h
      · split
        · by_cases hl : nR s.V = 0
          · rw [lnR_0 hl]
            by_cases hq : (rnF t T 12 0 (s.V 8) (i + 1, 0)).2.2.2 = 0
            · show DOC (if _ then _ else _)
              rw [if_pos hq]
              obtain ⟨r1, r2⟩ := rnF_ok 12 0 (s.V 8) (i + 1, 0) (by omega) hV.rn hq
              exact ⟨⟨OKV_R hV r1 r2, hM⟩, h.2⟩
            · show DOC (if _ then _ else _)
              rw [if_neg hq]; exact h
          · rw [lnR_f hl]; exact h
        · split
          · cases hl : s.L with
            | false =>
              rw [lnL_0 hl]
              have hg := testsF_gd hN (partF_gd hN 5) (i + 1, 0, []) hi
              have hlo := fun hq => law_okc (t := t) (T := T) (s := (i + 1, 0, [])) rfl rfl hq
              generalize testsF t T (partF t T 5) (i + 1, 0, []) = r at hg hlo ⊢
              by_cases hq : r.e = 0
              · have e1 : (if r.e = 0 then setL s r.C else s, ((r.i, r.e) : St2)).1 = setL s r.C := if_pos hq
                rw [e1]
                refine ⟨⟨hV, hM⟩, hlo hq, ?_⟩
                have c1 : r.C.length + (i + 1) ≤ 0 + r.i := hg.2.2
                have c2 := hg.2.1
                show r.C.length ≤ 1000
                omega
              · have e1 : (if r.e = 0 then setL s r.C else s, ((r.i, r.e) : St2)).1 = s := if_neg hq
                rw [e1]; exact h
            | true => rw [lnL_f hl]; exact h
          · exact h
end PUR
