/-! ===== Word.of, Tape.isSign: by hand ===== -/
def ofF (x : Int64) : Nat → Nat → Option Nat
  | 0, _ => none
  | n + 1, i => if eCd.getD i 0 = x then some i else ofF x n (i + 1)
def f_X9_of : List VV → Wd → Option (Option (Nat × Nat) × Wd) := fun as w => match as with
  | [.inr (.inl x)] => some ((ofF x 28 0).map (fun i => (21, i)), w)
  | _ => none
def M_X9_of : MD := (yX9_of, cX9_of, 3, (some (.object "DrownedCave$Word")), { frames := 1, cells := 0, slots := 0, locals := 64 }, 0, 0)
theorem co_X9_of : CO M_X9_of 1 := sorry
theorem mt_X9_of {g : GG} {l : Launch} (hG : GOK g) : Mt g l M_X9_of ijR f_X9_of := sorry
def isSg (c : Int32) : Int32 := if c = 40 ∨ c = 41 ∨ c = 60 ∨ c = 61 ∨ c = 43 ∨ c = 45 ∨ c = 42 ∨ c = 59 then 1 else 0
def f_X8_isSign : List VV → Wd → Option (Int32 × Wd) := fun as w => match as with
  | [.inl c] => some (isSg c, w)
  | _ => none
def M_X8_isSign : MD := (yX8_isSign, cX8_isSign, 2, (some .boolean), { frames := 12, cells := 0, slots := 0, locals := 768 }, 0, 0)
theorem co_X8_isSign : CO M_X8_isSign 1 := sorry
theorem mt_X8_isSign {g : GG} {l : Launch} (hG : GOK g) : Mt g l M_X8_isSign ijI f_X8_isSign := sorry
