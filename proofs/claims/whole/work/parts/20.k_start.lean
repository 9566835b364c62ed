/-! ===== what the Statement gives of the start ===== -/
def insL : List Cond := [.instantiable RX0 16, .instantiable RX1 5, .instantiable RX2 3, .instantiable RX3 3, .instantiable RX4 6, .instantiable RX5 1, .instantiable RX6 3, .instantiable RX7 9, .instantiable RX8 8, .instantiable RX10 15, .instantiable RX11 29]
theorem ins_ok : ∀ w ∈ insL, w ∈ gw := gwAll (by decide +kernel)
theorem ao_ok : aoL.all (fun C => decide (Cond.arrayOver (.object C) ∈ lw_tbl)) = true := by decide +kernel
def givC : List Cond := flatC (Jvm.Cond.and given_1 narrow_1)
def dW : String := "LDrownedCave$Word;"
def dK : String := "[LDrownedCave$Word;"
def tmW (i : Nat) : Term := .static RX9 (eNm.getD i "") dW
def tmK : Term := .static RX9 "KNOWN" dK
def tmS : Term := .string RX8 68
def byS : List Int32 := [40, 41, 60, 61, 43, 45, 42, 59]
theorem s_lays : (List.range 28).all (fun i => decide (Cond.laysStatic RX9 (eNm.getD i "") dW ∈ lw_tbl)) = true := by decide +kernel
theorem s_exact : (List.range 28).all (fun i => decide (Cond.exactly (tmW i) RX9 ∈ givC)) = true := by decide +kernel
theorem s_code : (List.range 28).all (fun i => decide (Cond.eq (.field (tmW i) RX9 "code" "J") (.long (eCd.getD i 0)) ∈ givC)) = true := by decide +kernel
theorem s_elem : (List.range 28).all (fun i => decide (Cond.eq (.elem tmK (.int (Int32.ofNat i))) (tmW i) ∈ givC)) = true := by decide +kernel
theorem s_bytes : (List.range 8).all (fun j => decide (Cond.eq (.elem (.field tmS "java/lang/String" "value" "[B") (.int (Int32.ofNat j))) (.int (byS.getD j 0)) ∈ givC)) = true := by decide +kernel
def tabL : List Cond := [.laysStatic RX9 "KNOWN" dK, .initialized RX9, .stringRef RX8 68 "()<=+-*;", .laysStatic "java/lang/String" "COMPACT_STRINGS" "Z", .initialized "java/lang/String", .laysStatic Bundle.tN "UNASSIGNED_STACK" Bundle.steD, .laysStatic Bundle.tN "SUPPRESSED_SENTINEL" Bundle.listD, .initialized Bundle.tN]
theorem tab_ok : tabL.all (fun w => decide (w ∈ lw_tbl)) = true := by decide +kernel
def givL : List Cond := [.arrayOf tmK (.object RX9), .eq (.length tmK) (.int (Int32.ofNat 28)), .eq (.static "java/lang/String" "COMPACT_STRINGS" "Z") (.int 1), .exactly tmS "java/lang/String", .eq (.field tmS "java/lang/String" "coder" "B") (.int 0), .arrayOf (.field tmS "java/lang/String" "value" "[B") .byte, .eq (.length (.field tmS "java/lang/String" "value" "[B")) (.int (Int32.ofNat 8)), .isRef (.static Bundle.tN "UNASSIGNED_STACK" Bundle.steD), .isRef (.static Bundle.tN "SUPPRESSED_SENTINEL" Bundle.listD)]
theorem giv_ok : givL.all (fun w => decide (w ∈ givC)) = true := by decide +kernel
theorem eCd_inj : ∀ i, i < 28 → ∀ j, j < 28 → eCd.getD i 0 = eCd.getD j 0 → i = j := by decide +kernel
theorem all_at {n : Nat} {P : Nat → Bool} (h : (List.range n).all P = true) {i : Nat} (hi : i < n) : P i = true := List.all_eq_true.mp h i (List.mem_range.mpr hi)
def exF (ad : Nat → Nat) (aK aS aV b o : Nat) : Nat → Nat → Nat := fun f i => match f with
  | 21 => ad i
  | 22 => b
  | 23 => aK
  | 24 => aS
  | 25 => aV
  | _ => o
section START
variable {s : State} {args : Array Value}
theorem kn_one (hts : ∀ w ∈ gw, w.before args s = true) {c N : Nat} {C : String} {T : u_T} (hF : FOK c C T N) (hi : Cond.instantiable C N ∈ gw) : ∃ q : ClassId × (Nat → Nat), ∀ cl, cls12[c]? = some cl → u_Kn s cl.1 cl.2.1 cl.2.2 q.1 q.2 := by
  obtain ⟨cC, iS, h⟩ := u_known hts hF.2.2.2 (hts _ hi)
  exact ⟨(cC, iS), fun cl hc => by
    have e := Option.some.inj (hF.2.1.symm.trans hc)
    subst e
    exact h⟩
theorem kn_all (hts : ∀ w ∈ gw, w.before args s = true) : ∃ D : va_G, ∀ (c : Nat) (q : vw_C), cls12[c]? = some q → u_Kn s q.1 q.2.1 q.2.2 (D.1 c) (D.2 c) := by
  have i : ∀ w ∈ insL, w ∈ gw := ins_ok
  have h : ∀ c : Nat, ∃ q : ClassId × (Nat → Nat), ∀ cl, cls12[c]? = some cl → u_Kn s cl.1 cl.2.1 cl.2.2 q.1 q.2 := by
    intro c
    match c with
    | 0 => exact kn_one hts FO_0 (i _ (List.mem_of_getElem? (i := 0) rfl))
    | 1 => exact kn_one hts FO_1 (i _ (List.mem_of_getElem? (i := 1) rfl))
    | 2 => exact kn_one hts FO_2 (i _ (List.mem_of_getElem? (i := 2) rfl))
    | 3 => exact kn_one hts FO_3 (i _ (List.mem_of_getElem? (i := 3) rfl))
    | 4 => exact kn_one hts FO_4 (i _ (List.mem_of_getElem? (i := 4) rfl))
    | 5 => exact kn_one hts FO_5 (i _ (List.mem_of_getElem? (i := 5) rfl))
    | 6 => exact kn_one hts FO_6 (i _ (List.mem_of_getElem? (i := 6) rfl))
    | 7 => exact kn_one hts FO_7 (i _ (List.mem_of_getElem? (i := 7) rfl))
    | 8 => exact kn_one hts FO_8 (i _ (List.mem_of_getElem? (i := 8) rfl))
    | 9 => exact kn_one hts FO_9 (i _ (List.mem_of_getElem? (i := 9) rfl))
    | 10 => exact kn_one hts FO_10 (i _ (List.mem_of_getElem? (i := 10) rfl))
    | c + 11 =>
      obtain ⟨q, -⟩ := kn_one hts FO_0 (i _ (List.mem_of_getElem? (i := 0) rfl))
      exact ⟨q, fun cl hc => absurd (List.getElem?_eq_some_iff.mp hc).1 (by show ¬ (c + 11 < 11); omega)⟩
  obtain ⟨f, hf⟩ := Classical.axiomOfChoice h
  exact ⟨(fun c => (f c).1, fun c => (f c).2), fun c q hq => hf c q hq⟩
theorem arr_p {ty : FieldType} (h : (Cond.arrayClass ty).before args s = true) : ∃ cA, ArrOfT s cA ty ∧ s.vm.findClass ("[" ++ ty.toString) = some cA := by
  obtain ⟨c, k, comp, h1, h2, h3⟩ := Cond.arrayClass_spec h
  exact ⟨c, fun n z => ⟨fun k h => (by cases h), k, h2, comp, h3⟩, h1⟩
theorem arr_o {C : String} (h : va_AO C s) : ∃ cA, ArrOfT s cA (.object C) ∧ va_RA s cA (.object C) := by
  obtain ⟨comp, c, k, h1, h2, h3, h4, h5⟩ := Cond.arrayOver_spec h
  exact ⟨c, fun n z => ⟨fun k h => (by cases h), k, h3, comp, h4⟩, k, comp, h3, h4, h1, h5⟩
theorem arr_all (hts : ∀ w ∈ gw, w.before args s = true) (hao : ∀ C ∈ aoL, va_AO C s) : ∃ f : Nat → ClassId, ∀ j, j < 8 → ArrOfT s (f j) (tyE j) ∧ va_RA s (f j) (tyE j) := by
  have h : ∀ j : Nat, ∃ cA : ClassId, j < 8 → ArrOfT s cA (tyE j) ∧ va_RA s cA (tyE j) := by
    intro j
    match j with
    | 0 => obtain ⟨c, h1, h2⟩ := arr_p (hts _ kw_127); exact ⟨c, fun _ => ⟨h1, h2⟩⟩
    | 1 => obtain ⟨c, h1, h2⟩ := arr_p (hts _ kw_126); exact ⟨c, fun _ => ⟨h1, h2⟩⟩
    | 2 => obtain ⟨c, h1, h2⟩ := arr_p (hts _ kw_128); exact ⟨c, fun _ => ⟨h1, h2⟩⟩
    | 3 => obtain ⟨c, h1, h2⟩ := arr_p (hts _ kw_80); exact ⟨c, fun _ => ⟨h1, h2⟩⟩
    | 4 => obtain ⟨c, h1, h2⟩ := arr_o (hao RX7 (List.mem_of_getElem? (i := 0) rfl)); exact ⟨c, fun _ => ⟨h1, h2⟩⟩
    | 5 => obtain ⟨c, h1, h2⟩ := arr_o (hao RX2 (List.mem_of_getElem? (i := 1) rfl)); exact ⟨c, fun _ => ⟨h1, h2⟩⟩
    | 6 => obtain ⟨c, h1, h2⟩ := arr_o (hao RX5 (List.mem_of_getElem? (i := 2) rfl)); exact ⟨c, fun _ => ⟨h1, h2⟩⟩
    | 7 => obtain ⟨c, h1, h2⟩ := arr_o (hao RX9 (List.mem_of_getElem? (i := 3) rfl)); exact ⟨c, fun _ => ⟨h1, h2⟩⟩
    | j + 8 =>
      obtain ⟨c, -, -⟩ := arr_p (hts _ kw_127)
      exact ⟨c, fun hj => absurd hj (by omega)⟩
  obtain ⟨f, hf⟩ := Classical.axiomOfChoice h
  exact ⟨f, hf⟩
theorem gtys_all {g : GG} {U : State} (h : ∀ j, j < 8 → ArrOfT U (g.2.2.2.2 j) (tyE j) ∧ va_RA U (g.2.2.2.2 j) (tyE j)) (k : Nat) (q : ClassId × FieldType) (hk : (gtys g)[k]? = some q) : ArrOfT U q.1 q.2 ∧ va_RA U q.1 q.2 := by
  have h8 : k < 8 := by
    have := (List.getElem?_eq_some_iff.mp hk).1
    simpa [gtys] using this
  rw [gtys_at h8] at hk
  cases hk
  exact h k h8
/-- the words -/
theorem st_words {A : Nat → Prop} (hts : ∀ w ∈ lw_tbl, w.before args s = true) (hgv : ∀ w ∈ givC, w.before args s = true) (hA : ∀ a : Nat, a < s.heap.size → ¬ A a) : ∃ ad : Nat → Nat, (∀ i, i < 28 → (tmW i).eval args s none [] s = some (.ref (ad i))) ∧ va_En RX9 dW eNm [] ad A s s.heap ∧ va_Ef 28 RX9 "code" "J" (fun i => .long (eCd.getD i 0)) ad A s s.heap := by
  have h0 : ∀ i : Nat, ∃ t : Nat, i < 28 → (tmW i).eval args s none [] s = some (.ref t) ∧ va_O RX9 t A s s.heap := by
    intro i
    by_cases hi : i < 28
    · obtain ⟨a, c, cell, k, q1, q2, q3, q4, q5, q6, -⟩ := Cond.exactly_spec (hgv _ (of_decide_eq_true (all_at s_exact hi)))
      exact ⟨a, fun _ => ⟨q1, cell, q3, q5, by rw [q6]; exact q2, hA a (Array.getElem?_eq_some_iff.mp q3).1⟩⟩
    · exact ⟨0, fun h => absurd h hi⟩
  obtain ⟨ad, had⟩ := Classical.axiomOfChoice h0
  have hini : (Cond.initialized RX9).before args s = true := hts _ (of_decide_eq_true (List.all_eq_true.mp tab_ok _ (List.mem_of_getElem? (i := 1) rfl)))
  have hef : va_Ef 28 RX9 "code" "J" (fun i => .long (eCd.getD i 0)) ad A s s.heap := va_Efof (nm := eNm) (tm := fun i => .long (eCd.getD i 0)) (fun i hi => (had i hi).1) (fun i hi => hgv _ (of_decide_eq_true (all_at s_code hi))) (fun i hi => rfl) hA
  refine ⟨ad, fun i hi => (had i hi).1, ⟨fun i hi => ⟨va_Zref (hts _ (of_decide_eq_true (all_at s_lays hi))) hini (had i hi).1 hA, (had i hi).2, fun q hq => by cases hq⟩, fun i j hi hj e => ?_⟩, hef⟩
  obtain ⟨cf, k, fi, f, cell, h1, h2, h3, h4, h5, h6⟩ := hef i hi
  obtain ⟨cf', k', fi', f', cell', h1', h2', h3', h4', h5', h6'⟩ := hef j hj
  rw [e] at h3
  cases Option.some.inj (h1.symm.trans h1')
  cases Option.some.inj (h3.symm.trans h3')
  have e2 := Option.some.inj (h5.symm.trans h5')
  injection e2 with e3
  exact eCd_inj i hi j hj e3
theorem start_ok (hts : ∀ w ∈ lw_tbl, w.before args s = true) (hgv0 : (Jvm.Cond.and given_1 narrow_1).before args s = true) : ∃ (gb : GB) (ad : Nat → Nat) (aK aS aV : Nat), gb.1 = s.heap.size ∧ (∀ b o, STb gb (exF ad aK aS aV b o) s s.heap) ∧ (∀ C ∈ aoL, va_AO C s) ∧ TX (fun q => s.heap.size ≤ q) s s.heap := by
  have hgv : ∀ w ∈ givC, w.before args s = true := flat_of_before _ hgv0
  have hgw : ∀ w ∈ gw, w.before args s = true := fun w hw => hts w (List.mem_filter.mp hw).1
  have hA : ∀ a : Nat, a < s.heap.size → ¬ s.heap.size ≤ a := fun a h => Nat.not_le.mpr h
  have ht : ∀ {w : Cond} (i : Nat), tabL[i]? = some w → w.before args s = true := fun i h => hts _ (of_decide_eq_true (List.all_eq_true.mp tab_ok _ (List.mem_of_getElem? h)))
  have hg : ∀ {w : Cond} (i : Nat), givL[i]? = some w → w.before args s = true := fun i h => hgv _ (of_decide_eq_true (List.all_eq_true.mp giv_ok _ (List.mem_of_getElem? h)))
  have hao : ∀ C ∈ aoL, va_AO C s := fun C hC => va_AO.of (hts _ (of_decide_eq_true (List.all_eq_true.mp ao_ok C hC)))
  obtain ⟨D, hD⟩ := kn_all hgw
  obtain ⟨f, hf⟩ := arr_all hgw hao
  obtain ⟨ad, hev, hEn, hEf⟩ := st_words (A := fun q => s.heap.size ≤ q) hts hgv hA
  obtain ⟨aK, hK1, hK2⟩ := va_Tof (tm := tmK) (ty := .object RX9) (N := 28) (f := fun i => .ref (ad i)) (A := fun q => s.heap.size ≤ q) (by decide) (hg 0 rfl) (va_eqv (hg 1 rfl) rfl) (fun j hj => va_eqv (hgv _ (of_decide_eq_true (all_at s_elem hj))) (hev j hj)) hA
  obtain ⟨adK, adV, hS1, hS2⟩ := vk_Sof (args := args) (s := s) (N := 1) (tm := fun _ => tmS) (len := [8]) (byt := [byS]) (A := fun q => s.heap.size ≤ q) (fun i hi => by rw [show i = 0 by omega]; decide) (fun i hi => hg 3 rfl) (fun i hi => hg 4 rfl) (fun i hi => hg 5 rfl) (fun i hi => by rw [show i = 0 by omega]; exact hg 6 rfl) (fun i hi j hj => by
    have e : i = 0 := by omega
    subst e
    exact hgv _ (of_decide_eq_true (all_at s_bytes hj))) (fun i j hi hj hij => absurd (show i = j by omega) hij) hA
  have hN : ∀ w ∈ lw_tbl, isNest w = true → va_Nw w s := fun w hw hn => by
    have := hts w hw
    cases w with
    | fieldLinkNest a b c d e f => exact va_Nw.of rfl this
    | methodLinkNest a b c d => exact va_Nw.of rfl this
    | _ => simp [isNest] at hn
  refine ⟨(s.heap.size, D, f), ad, aK, adK 0, adV 0, rfl, fun b o => ⟨⟨hD, gtys_all hf⟩, hN, hEn, hEf, va_Zref (ht 0 rfl) (ht 1 rfl) hK1 hA, hK2, vk_R.of (ht 2 rfl) (hS2 0 (by omega)), ⟨fun i hi => ?_, fun i j hi hj _ => by omega⟩, va_Zof (ht 3 rfl) (ht 4 rfl) (va_eqi (hg 2 rfl)) hA⟩, hao, fun w hw => ?_, vx_Zqof (ht 5 rfl) (ht 7 rfl) (hg 7 rfl) hA, vx_Zqof (ht 6 rfl) (ht 7 rfl) (hg 8 rfl) hA⟩
  · have e : i = 0 := by omega
    subst e
    exact hS1.1 0 (by omega)
  · have h7 := List.all_eq_true.mp at_7 w hw
    obtain ⟨h8, h9⟩ := (Bool.and_eq_true _ _).mp h7
    exact va_Nw.of h9 (hts w (of_decide_eq_true h8))
theorem TX.narrow {A B : Nat → Prop} {U : State} {H : Heap} (h : TX A U H) (hAB : ∀ q, B q → A q) : TX B U H := ⟨h.1, h.2.1.narrow hAB, h.2.2.narrow hAB⟩
end START
