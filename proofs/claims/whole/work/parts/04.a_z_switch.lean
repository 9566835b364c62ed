def TK {ρ : Type} (g : GG) (l : Launch) (Y : MD) (Q : Array Value → State → List Frame → ρ × Wd → State → Prop) (pc : Nat) (offs : List Int) (Ds : List (Den ρ)) : Prop := ∀ (j : Nat) (E : Den ρ), Ds[j]? = some E → ∃ (off : Int) (tgt : Nat), offs[j]? = some off ∧ (pc : Int) + off = (tgt : Int) ∧ Snd g l Y Q tgt E
section TKS
variable {ρ : Type} {g : GG} {l : Launch} {Y : MD} {Q : Array Value → State → List Frame → ρ × Wd → State → Prop} {pc : Nat}
theorem tk_nil : TK g l Y Q pc [] [] := fun j E h => by cases j <;> cases h
theorem tk_cons {off : Int} {tgt : Nat} {E : Den ρ} {r : List Int} {Ds : List (Den ρ)} (h1 : (pc : Int) + off = (tgt : Int)) (h2 : Snd g l Y Q tgt E) (h3 : TK g l Y Q pc r Ds) : TK g l Y Q pc (off :: r) (E :: Ds) := fun j F h => by
  cases j with
  | zero => cases h; exact ⟨off, tgt, rfl, h1, h2⟩
  | succ j => exact h3 j F h
theorem tk_arr {offs : Array Int} {Ds : List (Den ρ)} (h : TK g l Y Q pc offs.toList Ds) : ∀ (j : Nat) (E : Den ρ), Ds[j]? = some E → ∃ (off : Int) (tgt : Nat), offs[j]? = some off ∧ (pc : Int) + off = (tgt : Int) ∧ Snd g l Y Q tgt E := fun j E h1 => by
  obtain ⟨off, tgt, a, b, c⟩ := h j E h1
  exact ⟨off, tgt, by rw [← Array.getElem?_toList]; exact a, b, c⟩
end TKS
