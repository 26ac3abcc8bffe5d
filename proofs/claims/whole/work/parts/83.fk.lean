/-! THE START: the store -/
def iA (A nd k i : Nat) : Nat := if k = 0 then A else if k = 1 then A + 1 else if k = 2 then A + 2 else if k = 5 then A + 3 else if k = 8 then A + 4 else if k = 6 then A + 5 + 2 * i else if k = 7 then A + 6 + 2 * i else if k = 3 then A + 5 + 2 * nd else if k = 9 then A + 6 + 2 * nd else if k = 12 then A + 7 + 2 * nd else if k = 10 then A + 8 + 2 * nd + 4 * i else if k = 11 then A + 9 + 2 * nd + 4 * i else if k = 13 then A + 10 + 2 * nd + 4 * i else if k = 14 then A + 11 + 2 * nd + 4 * i else if k = 15 then A + 20 + 2 * nd else if k = 16 then A + 21 + 2 * nd else if k = 17 then A + 22 + 9 * nd else if k = 18 then A + 23 + 9 * nd else if k ≤ 25 then A + 22 + 2 * nd + 7 * i + (k - 19) else if k = 32 then A + 24 + 9 * nd else if k = 33 then A + 25 + 9 * nd + 2 * i else if k = 34 then A + 26 + 9 * nd + 2 * i else if k = 41 then A + 33 + 9 * nd else if k = 43 then A + 34 + 9 * nd else if k ≤ 54 then A + 34 + 9 * nd + (k - 44) else if k ≤ 95 then A + 34 + 9 * nd + (k - 46) else A + 84 + 9 * nd
def iO (A nd q : Nat) : gK := if q = A then pk 0 0 0 else if q = A + 1 then pk 1 0 0 else if q = A + 2 then pk 2 0 0 else if q = A + 3 then pk 5 0 0 else if q = A + 4 then pk 8 0 0 else if q < A + 5 + 2 * nd then pk (6 + (q - (A + 5)) % 2) 0 ((q - (A + 5)) / 2) else if q = A + 5 + 2 * nd then pk 3 0 0 else if q = A + 6 + 2 * nd then pk 9 0 0 else if q = A + 7 + 2 * nd then pk 12 0 0 else if q < A + 20 + 2 * nd then pk (10 + (q - (A + 8 + 2 * nd)) % 4 + (q - (A + 8 + 2 * nd)) % 4 / 2) 0 ((q - (A + 8 + 2 * nd)) / 4) else if q = A + 20 + 2 * nd then pk 15 0 0 else if q = A + 21 + 2 * nd then pk 16 0 0 else if q < A + 22 + 9 * nd then pk (19 + (q - (A + 22 + 2 * nd)) % 7) 0 ((q - (A + 22 + 2 * nd)) / 7) else if q = A + 22 + 9 * nd then pk 17 0 0 else if q = A + 23 + 9 * nd then pk 18 0 0 else if q = A + 24 + 9 * nd then pk 32 0 0 else if q < A + 33 + 9 * nd then pk (33 + (q - (A + 25 + 9 * nd)) % 2) 0 ((q - (A + 25 + 9 * nd)) / 2) else if q = A + 33 + 9 * nd then pk 41 0 0 else if q = A + 34 + 9 * nd then pk 43 0 0 else if q < A + 45 + 9 * nd then pk (q - (A + 34 + 9 * nd) + 44) 0 0 else if q < A + 84 + 9 * nd then pk (q - (A + 34 + 9 * nd) + 46) 0 0 else pk 97 0 0
def iK (nd k i : Nat) : Prop := ((k = 0 ∨ k = 1 ∨ k = 2 ∨ k = 3 ∨ k = 5 ∨ k = 8 ∨ k = 9 ∨ k = 12 ∨ k = 15 ∨ k = 16 ∨ k = 17 ∨ k = 18 ∨ k = 32 ∨ k = 41 ∨ k = 43 ∨ (45 ≤ k ∧ k ≤ 54) ∨ (57 ≤ k ∧ k ≤ 95) ∨ k = 97) ∧ i = 0) ∨ ((k = 6 ∨ k = 7 ∨ (19 ≤ k ∧ k ≤ 25)) ∧ i < nd) ∨ ((k = 10 ∨ k = 11 ∨ k = 13 ∨ k = 14) ∧ i < 3) ∨ ((k = 33 ∨ k = 34) ∧ i < 4)
theorem kd_0 {k : Nat} (h : gVc.getD k 9 = 0) : k = 0 ∨ k = 1 ∨ k = 2 ∨ k = 3 ∨ k = 5 ∨ k = 8 ∨ k = 9 ∨ k = 12 ∨ k = 32 ∨ k = 41 ∨ k = 43 ∨ (45 ≤ k ∧ k ≤ 54) ∨ (57 ≤ k ∧ k ≤ 95) ∨ k = 97 := by
  have hl := kd_lt h (by decide)
  have g : ∀ a b, (∀ k, k < 98 → a ≤ k → k ≤ b → gVc.getD k 9 ≠ 0) → ¬ (a ≤ k ∧ k ≤ b) := fun a b q z => q k hl z.1 z.2 h
  have g1 := g 4 4 (by decide)
  have g2 := g 6 7 (by decide)
  have g3 := g 10 11 (by decide)
  have g4 := g 13 31 (by decide)
  have g5 := g 33 40 (by decide)
  have g6 := g 42 42 (by decide)
  have g7 := g 44 44 (by decide)
  have g8 := g 55 56 (by decide)
  have g9 := g 96 96 (by decide)
  omega
theorem gV_i {nd k w i : Nat} (h : gV (nd, 0, false, false) k w i) : w = 0 ∧ iK nd k i := by
  have mw : ∀ w, gMW (nd, 0, false, false) w → w = 0 := fun w h => by
    rcases h with h | ⟨_, h⟩ | ⟨_, h⟩
    · exact h
    · cases h
    · cases h
  unfold iK
  rcases gV_cs h with q | q | q | q | q | q | q | q | q
  · have := kd_0 q.1
    exact ⟨q.2.1, by have := q.2.2; omega⟩
  · exact absurd q.2.2 (Nat.not_lt_zero _)
  · have : i < nd := q.2.2
    exact ⟨q.2.1, by omega⟩
  · have := q.2.2
    exact ⟨q.2.1, by omega⟩
  · have := q.2.2
    exact ⟨mw w q.2.1, by omega⟩
  · have : i < nd := q.2.2
    exact ⟨mw w q.2.1, by omega⟩
  · exact absurd q.2.2 (Nat.not_lt_zero _)
  · have := q.2.2
    exact ⟨q.2.1, by omega⟩
  · have := mw w (Or.inr q.2.1)
    subst this
    rcases q.2.1 with ⟨h, _⟩ | ⟨h, _⟩ <;> omega
theorem iO_w {A nd k i : Nat} (h : iK nd k i) : iO A nd (iA A nd k i) = pk k 0 i ∧ iA A nd k i < A + 85 + 9 * nd := by
  unfold iK at h
  have main : ∀ a, a = iA A nd k i → iO A nd a = pk k 0 i ∧ a < A + 85 + 9 * nd := by
    intro a ha
    rcases h with ⟨hk, rfl⟩ | ⟨hk, hi⟩ | ⟨hk, hi⟩ | ⟨hk, hi⟩
    · have hk2 : k = 0 ∨ k = 1 ∨ k = 2 ∨ k = 3 ∨ k = 5 ∨ k = 8 ∨ k = 9 ∨ k = 12 ∨ k = 15 ∨ k = 16 ∨ k = 17 ∨ k = 18 ∨ k = 32 ∨ k = 41 ∨ k = 43 ∨ (45 ≤ k ∧ k ≤ 54) ∨ (57 ≤ k ∧ k ≤ 95) ∨ k = 97 := hk
      rcases hk2 with rfl | rfl | rfl | rfl | rfl | rfl | rfl | rfl | rfl | rfl | rfl | rfl | rfl | rfl | rfl | hk3 | hk3 | rfl
      all_goals try (
        simp only [iA] at ha
        simp at ha
        refine ⟨?_, by omega⟩
        unfold iO
        repeat rw [if_neg (by omega)]
        first
          | (rw [if_pos (by omega)]; done)
          | rfl
          | skip)
      · unfold iA at ha
        repeat rw [if_neg (by omega)] at ha
        rw [if_pos (by omega)] at ha
        refine ⟨?_, by omega⟩
        unfold iO
        repeat rw [if_neg (by omega)]
        rw [if_pos (by omega), show a - (A + 34 + 9 * nd) + 44 = k by omega]
      · unfold iA at ha
        repeat rw [if_neg (by omega)] at ha
        rw [if_pos (by omega)] at ha
        refine ⟨?_, by omega⟩
        unfold iO
        repeat rw [if_neg (by omega)]
        rw [if_pos (by omega), show a - (A + 34 + 9 * nd) + 46 = k by omega]
    · have hk2 : k = 6 ∨ k = 7 ∨ (19 ≤ k ∧ k ≤ 25) := hk
      rcases hk2 with rfl | rfl | hk3
      · have ha : a = A + 5 + 2 * i := ha
        refine ⟨?_, by omega⟩
        unfold iO
        repeat rw [if_neg (by omega)]
        rw [if_pos (by omega), show 6 + (a - (A + 5)) % 2 = 6 by omega, show (a - (A + 5)) / 2 = i by omega]
      · have ha : a = A + 6 + 2 * i := ha
        refine ⟨?_, by omega⟩
        unfold iO
        repeat rw [if_neg (by omega)]
        rw [if_pos (by omega), show 6 + (a - (A + 5)) % 2 = 7 by omega, show (a - (A + 5)) / 2 = i by omega]
      · unfold iA at ha
        repeat rw [if_neg (by omega)] at ha
        rw [if_pos (by omega)] at ha
        refine ⟨?_, by omega⟩
        unfold iO
        repeat rw [if_neg (by omega)]
        rw [if_pos (by omega), show 19 + (a - (A + 22 + 2 * nd)) % 7 = k by omega, show (a - (A + 22 + 2 * nd)) / 7 = i by omega]
    · have hk2 : k = 10 ∨ k = 11 ∨ k = 13 ∨ k = 14 := hk
      have ha : a = A + 8 + 2 * nd + 4 * i + (k - 10) - (k - 10) / 3 := by
        rcases hk2 with rfl | rfl | rfl | rfl
        · exact ha.trans (show A + 8 + 2 * nd + 4 * i = _ by omega)
        · exact ha.trans (show A + 9 + 2 * nd + 4 * i = _ by omega)
        · exact ha.trans (show A + 10 + 2 * nd + 4 * i = _ by omega)
        · exact ha.trans (show A + 11 + 2 * nd + 4 * i = _ by omega)
      refine ⟨?_, by omega⟩
      unfold iO
      repeat rw [if_neg (by omega)]
      rw [if_pos (by omega), show 10 + (a - (A + 8 + 2 * nd)) % 4 + (a - (A + 8 + 2 * nd)) % 4 / 2 = k by omega, show (a - (A + 8 + 2 * nd)) / 4 = i by omega]
    · have hk2 : k = 33 ∨ k = 34 := hk
      have ha : a = A + 25 + 9 * nd + 2 * i + (k - 33) := by
        rcases hk2 with rfl | rfl
        · exact ha
        · exact ha.trans (show A + 26 + 9 * nd + 2 * i = _ by omega)
      refine ⟨?_, by omega⟩
      unfold iO
      repeat rw [if_neg (by omega)]
      rw [if_pos (by omega), show 33 + (a - (A + 25 + 9 * nd)) % 2 = k by omega, show (a - (A + 25 + 9 * nd)) / 2 = i by omega]
  exact main _ rfl
