/-! ===== stores into a state, on both sides ===== -/
section PUT
variable {w : Wd} {i b : Nat} {V S : VW}
theorem RS.p_hour (h : RS w i V S) (v : Nat) : RS (sI w 256 i 0 (nI v)) i V (up1 S 0 0 v) := by
  exact ⟨by rw [sI_1, if_pos (by omega), up1_s],
    by rw [sI_1, if_neg (by omega), up1_j (by decide)]; exact h.br,
    by rw [sI_1, if_neg (by omega), up1_j (by decide)]; exact h.dr,
    by rw [sI_1, if_neg (by omega), up1_j (by decide)]; exact h.th,
    fun k hk => by rw [sI_1, if_neg (by omega), up1_j (by decide)]; exact h.at hk.1 hk.2,
    fun k hk => by rw [sI_1, if_neg (by omega), up1_j (by decide)]; exact h.gas hk,
    fun k hk => by rw [sI_1, if_neg (by omega), up1_j (by decide)]; exact h.und hk,
    fun k hk => by rw [sI_1, if_neg (by omega), up1_j (by decide)]; exact h.silt hk,
    fun k hk => by rw [sI_1, if_neg (by omega), up1_j (by decide)]; exact h.stg hk⟩
theorem RS.p_br (h : RS w i V S) (v : Nat) : RS (sI w 257 i 0 (nI v)) i V (up1 S 1 0 v) := by
  exact ⟨by rw [sI_1, if_neg (by omega), up1_j (by decide)]; exact h.hour,
    by rw [sI_1, if_pos (by omega), up1_s],
    by rw [sI_1, if_neg (by omega), up1_j (by decide)]; exact h.dr,
    by rw [sI_1, if_neg (by omega), up1_j (by decide)]; exact h.th,
    fun k hk => by rw [sI_1, if_neg (by omega), up1_j (by decide)]; exact h.at hk.1 hk.2,
    fun k hk => by rw [sI_1, if_neg (by omega), up1_j (by decide)]; exact h.gas hk,
    fun k hk => by rw [sI_1, if_neg (by omega), up1_j (by decide)]; exact h.und hk,
    fun k hk => by rw [sI_1, if_neg (by omega), up1_j (by decide)]; exact h.silt hk,
    fun k hk => by rw [sI_1, if_neg (by omega), up1_j (by decide)]; exact h.stg hk⟩
theorem RS.p_dr (h : RS w i V S) (v : Nat) : RS (sI w 258 i 0 (nI v)) i V (up1 S 2 0 v) := by
  exact ⟨by rw [sI_1, if_neg (by omega), up1_j (by decide)]; exact h.hour,
    by rw [sI_1, if_neg (by omega), up1_j (by decide)]; exact h.br,
    by rw [sI_1, if_pos (by omega), up1_s],
    by rw [sI_1, if_neg (by omega), up1_j (by decide)]; exact h.th,
    fun k hk => by rw [sI_1, if_neg (by omega), up1_j (by decide)]; exact h.at hk.1 hk.2,
    fun k hk => by rw [sI_1, if_neg (by omega), up1_j (by decide)]; exact h.gas hk,
    fun k hk => by rw [sI_1, if_neg (by omega), up1_j (by decide)]; exact h.und hk,
    fun k hk => by rw [sI_1, if_neg (by omega), up1_j (by decide)]; exact h.silt hk,
    fun k hk => by rw [sI_1, if_neg (by omega), up1_j (by decide)]; exact h.stg hk⟩
theorem RS.p_th (h : RS w i V S) (v : Nat) : RS (sI w 259 i 0 (nI v)) i V (up1 S 3 0 v) := by
  exact ⟨by rw [sI_1, if_neg (by omega), up1_j (by decide)]; exact h.hour,
    by rw [sI_1, if_neg (by omega), up1_j (by decide)]; exact h.br,
    by rw [sI_1, if_neg (by omega), up1_j (by decide)]; exact h.dr,
    by rw [sI_1, if_pos (by omega), up1_s],
    fun k hk => by rw [sI_1, if_neg (by omega), up1_j (by decide)]; exact h.at hk.1 hk.2,
    fun k hk => by rw [sI_1, if_neg (by omega), up1_j (by decide)]; exact h.gas hk,
    fun k hk => by rw [sI_1, if_neg (by omega), up1_j (by decide)]; exact h.und hk,
    fun k hk => by rw [sI_1, if_neg (by omega), up1_j (by decide)]; exact h.silt hk,
    fun k hk => by rw [sI_1, if_neg (by omega), up1_j (by decide)]; exact h.stg hk⟩
theorem RS.p_at (h : RS w i V S) (d v : Nat) : RS (sI w 260 i d (atI V v)) i V (up1 S 4 d v) := by
  exact ⟨by rw [sI_1, if_neg (by omega), up1_j (by decide)]; exact h.hour,
    by rw [sI_1, if_neg (by omega), up1_j (by decide)]; exact h.br,
    by rw [sI_1, if_neg (by omega), up1_j (by decide)]; exact h.dr,
    by rw [sI_1, if_neg (by omega), up1_j (by decide)]; exact h.th,
    fun k hk => by
      by_cases e : k = d
      · rw [sI_1, if_pos (by omega), e, up1_s]
      · rw [sI_1, if_neg (by omega), up1_n, if_neg (fun q => e q.2)]; exact h.at hk.1 hk.2,
    fun k hk => by rw [sI_1, if_neg (by omega), up1_j (by decide)]; exact h.gas hk,
    fun k hk => by rw [sI_1, if_neg (by omega), up1_j (by decide)]; exact h.und hk,
    fun k hk => by rw [sI_1, if_neg (by omega), up1_j (by decide)]; exact h.silt hk,
    fun k hk => by rw [sI_1, if_neg (by omega), up1_j (by decide)]; exact h.stg hk⟩
theorem RS.p_gas (h : RS w i V S) (d v : Nat) : RS (sI w 261 i d (nI v)) i V (up1 S 5 d v) := by
  exact ⟨by rw [sI_1, if_neg (by omega), up1_j (by decide)]; exact h.hour,
    by rw [sI_1, if_neg (by omega), up1_j (by decide)]; exact h.br,
    by rw [sI_1, if_neg (by omega), up1_j (by decide)]; exact h.dr,
    by rw [sI_1, if_neg (by omega), up1_j (by decide)]; exact h.th,
    fun k hk => by rw [sI_1, if_neg (by omega), up1_j (by decide)]; exact h.at hk.1 hk.2,
    fun k hk => by
      by_cases e : k = d
      · rw [sI_1, if_pos (by omega), e, up1_s]
      · rw [sI_1, if_neg (by omega), up1_n, if_neg (fun q => e q.2)]; exact h.gas hk,
    fun k hk => by rw [sI_1, if_neg (by omega), up1_j (by decide)]; exact h.und hk,
    fun k hk => by rw [sI_1, if_neg (by omega), up1_j (by decide)]; exact h.silt hk,
    fun k hk => by rw [sI_1, if_neg (by omega), up1_j (by decide)]; exact h.stg hk⟩
theorem RS.p_und (h : RS w i V S) (d v : Nat) : RS (sI w 262 i d (nI v)) i V (up1 S 6 d v) := by
  exact ⟨by rw [sI_1, if_neg (by omega), up1_j (by decide)]; exact h.hour,
    by rw [sI_1, if_neg (by omega), up1_j (by decide)]; exact h.br,
    by rw [sI_1, if_neg (by omega), up1_j (by decide)]; exact h.dr,
    by rw [sI_1, if_neg (by omega), up1_j (by decide)]; exact h.th,
    fun k hk => by rw [sI_1, if_neg (by omega), up1_j (by decide)]; exact h.at hk.1 hk.2,
    fun k hk => by rw [sI_1, if_neg (by omega), up1_j (by decide)]; exact h.gas hk,
    fun k hk => by
      by_cases e : k = d
      · rw [sI_1, if_pos (by omega), e, up1_s]
      · rw [sI_1, if_neg (by omega), up1_n, if_neg (fun q => e q.2)]; exact h.und hk,
    fun k hk => by rw [sI_1, if_neg (by omega), up1_j (by decide)]; exact h.silt hk,
    fun k hk => by rw [sI_1, if_neg (by omega), up1_j (by decide)]; exact h.stg hk⟩
theorem RS.p_silt (h : RS w i V S) (d v : Nat) : RS (sI w 263 i d (nI v)) i V (up1 S 7 d v) := by
  exact ⟨by rw [sI_1, if_neg (by omega), up1_j (by decide)]; exact h.hour,
    by rw [sI_1, if_neg (by omega), up1_j (by decide)]; exact h.br,
    by rw [sI_1, if_neg (by omega), up1_j (by decide)]; exact h.dr,
    by rw [sI_1, if_neg (by omega), up1_j (by decide)]; exact h.th,
    fun k hk => by rw [sI_1, if_neg (by omega), up1_j (by decide)]; exact h.at hk.1 hk.2,
    fun k hk => by rw [sI_1, if_neg (by omega), up1_j (by decide)]; exact h.gas hk,
    fun k hk => by rw [sI_1, if_neg (by omega), up1_j (by decide)]; exact h.und hk,
    fun k hk => by
      by_cases e : k = d
      · rw [sI_1, if_pos (by omega), e, up1_s]
      · rw [sI_1, if_neg (by omega), up1_n, if_neg (fun q => e q.2)]; exact h.silt hk,
    fun k hk => by rw [sI_1, if_neg (by omega), up1_j (by decide)]; exact h.stg hk⟩
theorem RS.p_stg (h : RS w i V S) (d v : Nat) : RS (sI w 264 i d (nI v)) i V (up1 S 8 d v) := by
  exact ⟨by rw [sI_1, if_neg (by omega), up1_j (by decide)]; exact h.hour,
    by rw [sI_1, if_neg (by omega), up1_j (by decide)]; exact h.br,
    by rw [sI_1, if_neg (by omega), up1_j (by decide)]; exact h.dr,
    by rw [sI_1, if_neg (by omega), up1_j (by decide)]; exact h.th,
    fun k hk => by rw [sI_1, if_neg (by omega), up1_j (by decide)]; exact h.at hk.1 hk.2,
    fun k hk => by rw [sI_1, if_neg (by omega), up1_j (by decide)]; exact h.gas hk,
    fun k hk => by rw [sI_1, if_neg (by omega), up1_j (by decide)]; exact h.und hk,
    fun k hk => by rw [sI_1, if_neg (by omega), up1_j (by decide)]; exact h.silt hk,
    fun k hk => by
      by_cases e : k = d
      · rw [sI_1, if_pos (by omega), e, up1_s]
      · rw [sI_1, if_neg (by omega), up1_n, if_neg (fun q => e q.2)]; exact h.stg hk⟩
theorem RMS.hour (h : RMS w b V S) : w.1 376 0 (b + 0) = nI (S 0 0) := h.1
theorem RMS.br (h : RMS w b V S) : w.1 376 0 (b + 3) = nI (S 1 0) := h.2.1
theorem RMS.dr (h : RMS w b V S) : w.1 376 0 (b + 2) = nI (S 2 0) := h.2.2.1
theorem RMS.th (h : RMS w b V S) : w.1 376 0 (b + 1) = nI (S 3 0) := h.2.2.2.1
theorem RMS.at (h : RMS w b V S) {k : Nat} (hk : k < nD V) : w.1 376 0 (b + 19 + k) = atI V (S 4 k) := h.2.2.2.2.1 k hk
theorem RMS.gas (h : RMS w b V S) {k : Nat} (hk : k < 4) : w.1 376 0 (b + 23 + k) = nI (S 5 k) := h.2.2.2.2.2.1 k hk
theorem RMS.und (h : RMS w b V S) {k : Nat} (hk : k < 4) : w.1 376 0 (b + 27 + k) = nI (S 6 k) := h.2.2.2.2.2.2.1 k hk
theorem RMS.silt (h : RMS w b V S) {k : Nat} (hk : k < 8) : w.1 376 0 (b + 4 + k) = nI (S 7 k) := h.2.2.2.2.2.2.2.1 k hk
theorem RMS.stg (h : RMS w b V S) {k : Nat} (hk : k < 7) : w.1 376 0 (b + 12 + k) = nI (S 8 k) := h.2.2.2.2.2.2.2.2 k hk
theorem RMS.p_hour (h : RMS w b V S) (hV : OKV V) (v : Nat) : RMS (sI w 376 0 (b + 0) (nI v)) b V (up1 S 0 0 v) := by
  have b4 := hV.D
  exact ⟨by rw [sI_1, if_pos (by omega), up1_s],
    by rw [sI_1, if_neg (by omega), up1_j (by decide)]; exact h.br,
    by rw [sI_1, if_neg (by omega), up1_j (by decide)]; exact h.dr,
    by rw [sI_1, if_neg (by omega), up1_j (by decide)]; exact h.th,
    fun k hk => by rw [sI_1, if_neg (by omega), up1_j (by decide)]; exact h.at hk,
    fun k hk => by rw [sI_1, if_neg (by omega), up1_j (by decide)]; exact h.gas hk,
    fun k hk => by rw [sI_1, if_neg (by omega), up1_j (by decide)]; exact h.und hk,
    fun k hk => by rw [sI_1, if_neg (by omega), up1_j (by decide)]; exact h.silt hk,
    fun k hk => by rw [sI_1, if_neg (by omega), up1_j (by decide)]; exact h.stg hk⟩
theorem RMS.p_br (h : RMS w b V S) (hV : OKV V) (v : Nat) : RMS (sI w 376 0 (b + 3) (nI v)) b V (up1 S 1 0 v) := by
  have b4 := hV.D
  exact ⟨by rw [sI_1, if_neg (by omega), up1_j (by decide)]; exact h.hour,
    by rw [sI_1, if_pos (by omega), up1_s],
    by rw [sI_1, if_neg (by omega), up1_j (by decide)]; exact h.dr,
    by rw [sI_1, if_neg (by omega), up1_j (by decide)]; exact h.th,
    fun k hk => by rw [sI_1, if_neg (by omega), up1_j (by decide)]; exact h.at hk,
    fun k hk => by rw [sI_1, if_neg (by omega), up1_j (by decide)]; exact h.gas hk,
    fun k hk => by rw [sI_1, if_neg (by omega), up1_j (by decide)]; exact h.und hk,
    fun k hk => by rw [sI_1, if_neg (by omega), up1_j (by decide)]; exact h.silt hk,
    fun k hk => by rw [sI_1, if_neg (by omega), up1_j (by decide)]; exact h.stg hk⟩
theorem RMS.p_dr (h : RMS w b V S) (hV : OKV V) (v : Nat) : RMS (sI w 376 0 (b + 2) (nI v)) b V (up1 S 2 0 v) := by
  have b4 := hV.D
  exact ⟨by rw [sI_1, if_neg (by omega), up1_j (by decide)]; exact h.hour,
    by rw [sI_1, if_neg (by omega), up1_j (by decide)]; exact h.br,
    by rw [sI_1, if_pos (by omega), up1_s],
    by rw [sI_1, if_neg (by omega), up1_j (by decide)]; exact h.th,
    fun k hk => by rw [sI_1, if_neg (by omega), up1_j (by decide)]; exact h.at hk,
    fun k hk => by rw [sI_1, if_neg (by omega), up1_j (by decide)]; exact h.gas hk,
    fun k hk => by rw [sI_1, if_neg (by omega), up1_j (by decide)]; exact h.und hk,
    fun k hk => by rw [sI_1, if_neg (by omega), up1_j (by decide)]; exact h.silt hk,
    fun k hk => by rw [sI_1, if_neg (by omega), up1_j (by decide)]; exact h.stg hk⟩
theorem RMS.p_th (h : RMS w b V S) (hV : OKV V) (v : Nat) : RMS (sI w 376 0 (b + 1) (nI v)) b V (up1 S 3 0 v) := by
  have b4 := hV.D
  exact ⟨by rw [sI_1, if_neg (by omega), up1_j (by decide)]; exact h.hour,
    by rw [sI_1, if_neg (by omega), up1_j (by decide)]; exact h.br,
    by rw [sI_1, if_neg (by omega), up1_j (by decide)]; exact h.dr,
    by rw [sI_1, if_pos (by omega), up1_s],
    fun k hk => by rw [sI_1, if_neg (by omega), up1_j (by decide)]; exact h.at hk,
    fun k hk => by rw [sI_1, if_neg (by omega), up1_j (by decide)]; exact h.gas hk,
    fun k hk => by rw [sI_1, if_neg (by omega), up1_j (by decide)]; exact h.und hk,
    fun k hk => by rw [sI_1, if_neg (by omega), up1_j (by decide)]; exact h.silt hk,
    fun k hk => by rw [sI_1, if_neg (by omega), up1_j (by decide)]; exact h.stg hk⟩
theorem RMS.p_at (h : RMS w b V S) (hV : OKV V) {d : Nat} (hd : d < nD V) (v : Nat) : RMS (sI w 376 0 (b + 19 + d) (atI V v)) b V (up1 S 4 d v) := by
  have b4 := hV.D
  exact ⟨by rw [sI_1, if_neg (by omega), up1_j (by decide)]; exact h.hour,
    by rw [sI_1, if_neg (by omega), up1_j (by decide)]; exact h.br,
    by rw [sI_1, if_neg (by omega), up1_j (by decide)]; exact h.dr,
    by rw [sI_1, if_neg (by omega), up1_j (by decide)]; exact h.th,
    fun k hk => by
      by_cases e : k = d
      · rw [sI_1, if_pos (by omega), e, up1_s]
      · rw [sI_1, if_neg (by omega), up1_n, if_neg (fun q => e q.2)]; exact h.at hk,
    fun k hk => by rw [sI_1, if_neg (by omega), up1_j (by decide)]; exact h.gas hk,
    fun k hk => by rw [sI_1, if_neg (by omega), up1_j (by decide)]; exact h.und hk,
    fun k hk => by rw [sI_1, if_neg (by omega), up1_j (by decide)]; exact h.silt hk,
    fun k hk => by rw [sI_1, if_neg (by omega), up1_j (by decide)]; exact h.stg hk⟩
theorem RMS.p_gas (h : RMS w b V S) (hV : OKV V) {d : Nat} (hd : d < 4) (v : Nat) : RMS (sI w 376 0 (b + 23 + d) (nI v)) b V (up1 S 5 d v) := by
  have b4 := hV.D
  exact ⟨by rw [sI_1, if_neg (by omega), up1_j (by decide)]; exact h.hour,
    by rw [sI_1, if_neg (by omega), up1_j (by decide)]; exact h.br,
    by rw [sI_1, if_neg (by omega), up1_j (by decide)]; exact h.dr,
    by rw [sI_1, if_neg (by omega), up1_j (by decide)]; exact h.th,
    fun k hk => by rw [sI_1, if_neg (by omega), up1_j (by decide)]; exact h.at hk,
    fun k hk => by
      by_cases e : k = d
      · rw [sI_1, if_pos (by omega), e, up1_s]
      · rw [sI_1, if_neg (by omega), up1_n, if_neg (fun q => e q.2)]; exact h.gas hk,
    fun k hk => by rw [sI_1, if_neg (by omega), up1_j (by decide)]; exact h.und hk,
    fun k hk => by rw [sI_1, if_neg (by omega), up1_j (by decide)]; exact h.silt hk,
    fun k hk => by rw [sI_1, if_neg (by omega), up1_j (by decide)]; exact h.stg hk⟩
theorem RMS.p_und (h : RMS w b V S) (hV : OKV V) {d : Nat} (hd : d < 4) (v : Nat) : RMS (sI w 376 0 (b + 27 + d) (nI v)) b V (up1 S 6 d v) := by
  have b4 := hV.D
  exact ⟨by rw [sI_1, if_neg (by omega), up1_j (by decide)]; exact h.hour,
    by rw [sI_1, if_neg (by omega), up1_j (by decide)]; exact h.br,
    by rw [sI_1, if_neg (by omega), up1_j (by decide)]; exact h.dr,
    by rw [sI_1, if_neg (by omega), up1_j (by decide)]; exact h.th,
    fun k hk => by rw [sI_1, if_neg (by omega), up1_j (by decide)]; exact h.at hk,
    fun k hk => by rw [sI_1, if_neg (by omega), up1_j (by decide)]; exact h.gas hk,
    fun k hk => by
      by_cases e : k = d
      · rw [sI_1, if_pos (by omega), e, up1_s]
      · rw [sI_1, if_neg (by omega), up1_n, if_neg (fun q => e q.2)]; exact h.und hk,
    fun k hk => by rw [sI_1, if_neg (by omega), up1_j (by decide)]; exact h.silt hk,
    fun k hk => by rw [sI_1, if_neg (by omega), up1_j (by decide)]; exact h.stg hk⟩
theorem RMS.p_silt (h : RMS w b V S) (hV : OKV V) {d : Nat} (hd : d < 8) (v : Nat) : RMS (sI w 376 0 (b + 4 + d) (nI v)) b V (up1 S 7 d v) := by
  have b4 := hV.D
  exact ⟨by rw [sI_1, if_neg (by omega), up1_j (by decide)]; exact h.hour,
    by rw [sI_1, if_neg (by omega), up1_j (by decide)]; exact h.br,
    by rw [sI_1, if_neg (by omega), up1_j (by decide)]; exact h.dr,
    by rw [sI_1, if_neg (by omega), up1_j (by decide)]; exact h.th,
    fun k hk => by rw [sI_1, if_neg (by omega), up1_j (by decide)]; exact h.at hk,
    fun k hk => by rw [sI_1, if_neg (by omega), up1_j (by decide)]; exact h.gas hk,
    fun k hk => by rw [sI_1, if_neg (by omega), up1_j (by decide)]; exact h.und hk,
    fun k hk => by
      by_cases e : k = d
      · rw [sI_1, if_pos (by omega), e, up1_s]
      · rw [sI_1, if_neg (by omega), up1_n, if_neg (fun q => e q.2)]; exact h.silt hk,
    fun k hk => by rw [sI_1, if_neg (by omega), up1_j (by decide)]; exact h.stg hk⟩
theorem RMS.p_stg (h : RMS w b V S) (hV : OKV V) {d : Nat} (hd : d < 7) (v : Nat) : RMS (sI w 376 0 (b + 12 + d) (nI v)) b V (up1 S 8 d v) := by
  have b4 := hV.D
  exact ⟨by rw [sI_1, if_neg (by omega), up1_j (by decide)]; exact h.hour,
    by rw [sI_1, if_neg (by omega), up1_j (by decide)]; exact h.br,
    by rw [sI_1, if_neg (by omega), up1_j (by decide)]; exact h.dr,
    by rw [sI_1, if_neg (by omega), up1_j (by decide)]; exact h.th,
    fun k hk => by rw [sI_1, if_neg (by omega), up1_j (by decide)]; exact h.at hk,
    fun k hk => by rw [sI_1, if_neg (by omega), up1_j (by decide)]; exact h.gas hk,
    fun k hk => by rw [sI_1, if_neg (by omega), up1_j (by decide)]; exact h.und hk,
    fun k hk => by rw [sI_1, if_neg (by omega), up1_j (by decide)]; exact h.silt hk,
    fun k hk => by
      by_cases e : k = d
      · rw [sI_1, if_pos (by omega), e, up1_s]
      · rw [sI_1, if_neg (by omega), up1_n, if_neg (fun q => e q.2)]; exact h.stg hk⟩
theorem up1_comm {S : VW} {j k v j' k' v' : Nat} (h : j ≠ j') : up1 (up1 S j k v) j' k' v' = up1 (up1 S j' k' v') j k v := by
  funext x y
  simp only [up1_n]
  by_cases h1 : x = j' ∧ y = k'
  · rw [if_pos h1, if_neg (fun q => h (q.1.symm.trans h1.1)), if_pos h1]
  · rw [if_neg h1]
    by_cases h2 : x = j ∧ y = k
    · rw [if_pos h2, if_pos h2]
    · rw [if_neg h2, if_neg h2, if_neg h1]
theorem up1_up1 {S : VW} {j k v v' : Nat} : up1 (up1 S j k v) j k v' = up1 S j k v' := by
  funext x y
  simp only [up1_n]
  by_cases h1 : x = j ∧ y = k
  · rw [if_pos h1, if_pos h1]
  · rw [if_neg h1, if_neg h1, if_neg h1]
theorem up1_same {S : VW} {j k v : Nat} (h : S j k = v) : up1 S j k v = S := by
  funext x y
  simp only [up1_n]
  by_cases h1 : x = j ∧ y = k
  · rw [if_pos h1, h1.1, h1.2, h]
  · rw [if_neg h1]
end PUT
