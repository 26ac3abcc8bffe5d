/-! THE STORE WITH MORE CELLS -/
theorem kd_lt {k c : Nat} (h : gVc.getD k 9 = c) (hc : c ≠ 9) : k < 98 := by
  refine Nat.not_le.mp (fun q => hc ?_)
  rw [← h]
  exact getD_def (by show 98 ≤ k; exact q)
theorem kd_4 {k : Nat} (h : gVc.getD k 9 = 4) : 15 ≤ k ∧ k ≤ 18 := (by decide : ∀ k, k < 98 → gVc.getD k 9 = 4 → 15 ≤ k ∧ k ≤ 18) k (kd_lt h (by decide)) h
theorem kd_5 {k : Nat} (h : gVc.getD k 9 = 5) : 19 ≤ k ∧ k ≤ 25 := (by decide : ∀ k, k < 98 → gVc.getD k 9 = 5 → 19 ≤ k ∧ k ≤ 25) k (kd_lt h (by decide)) h
theorem kd_6 {k : Nat} (h : gVc.getD k 9 = 6) : 26 ≤ k ∧ k ≤ 31 := (by decide : ∀ k, k < 98 → gVc.getD k 9 = 6 → 26 ≤ k ∧ k ≤ 31) k (kd_lt h (by decide)) h
theorem kd_8 {k : Nat} (h : gVc.getD k 9 = 8) : k = 35 ∨ k = 36 := (by decide : ∀ k, k < 98 → gVc.getD k 9 = 8 → k = 35 ∨ k = 36) k (kd_lt h (by decide)) h
theorem kd_1 {k : Nat} (h : gVc.getD k 9 = 1) : k = 4 := (by decide : ∀ k, k < 98 → gVc.getD k 9 = 1 → k = 4) k (kd_lt h (by decide)) h
theorem kd_2 {k : Nat} (h : gVc.getD k 9 = 2) : k = 6 ∨ k = 7 := (by decide : ∀ k, k < 98 → gVc.getD k 9 = 2 → k = 6 ∨ k = 7) k (kd_lt h (by decide)) h
theorem kd_3 {k : Nat} (h : gVc.getD k 9 = 3) : k = 10 ∨ k = 11 ∨ k = 13 ∨ k = 14 := (by decide : ∀ k, k < 98 → gVc.getD k 9 = 3 → k = 10 ∨ k = 11 ∨ k = 13 ∨ k = 14) k (kd_lt h (by decide)) h
theorem kd_7 {k : Nat} (h : gVc.getD k 9 = 7) : k = 33 ∨ k = 34 := (by decide : ∀ k, k < 98 → gVc.getD k 9 = 7 → k = 33 ∨ k = 34) k (kd_lt h (by decide)) h
theorem kd_h (k : Nat) : gVc.getD k 9 ≤ 9 := by
  by_cases h : k < 98
  · exact (by decide : ∀ k, k < 98 → gVc.getD k 9 ≤ 9) k h
  · rw [show gVc.getD k 9 = 9 from getD_def (by show 98 ≤ k; omega)]
    exact Nat.le_refl _
/-- which kinds a path's place may be -/
theorem gV_cs {θ : gT} {k w i : Nat} (h : gV θ k w i) : (gVc.getD k 9 = 0 ∧ w = 0 ∧ i = 0) ∨ (k = 4 ∧ w = 0 ∧ i < θ.2.1) ∨ ((k = 6 ∨ k = 7) ∧ w = 0 ∧ i < θ.1) ∨ ((k = 10 ∨ k = 11 ∨ k = 13 ∨ k = 14) ∧ w = 0 ∧ i < 3) ∨ ((15 ≤ k ∧ k ≤ 18) ∧ gMW θ w ∧ i = 0) ∨ ((19 ≤ k ∧ k ≤ 25) ∧ gMW θ w ∧ i < θ.1) ∨ ((26 ≤ k ∧ k ≤ 31) ∧ gMW θ w ∧ i < θ.2.1) ∨ ((k = 33 ∨ k = 34) ∧ w = 0 ∧ i < 4) ∨ ((k = 35 ∨ k = 36) ∧ gPW θ w ∧ i = 0) := by
  have h1 := h.1
  have hh := kd_h k
  generalize hc : gVc.getD k 9 = c at h1 hh
  have : c = 0 ∨ c = 1 ∨ c = 2 ∨ c = 3 ∨ c = 4 ∨ c = 5 ∨ c = 6 ∨ c = 7 ∨ c = 8 ∨ c = 9 := by omega
  rcases this with rfl | rfl | rfl | rfl | rfl | rfl | rfl | rfl | rfl | rfl
  · exact Or.inl ⟨rfl, h1⟩
  · exact Or.inr (Or.inl ⟨kd_1 hc, h1⟩)
  · exact Or.inr (Or.inr (Or.inl ⟨kd_2 hc, h1⟩))
  · exact Or.inr (Or.inr (Or.inr (Or.inl ⟨kd_3 hc, h1⟩)))
  · exact Or.inr (Or.inr (Or.inr (Or.inr (Or.inl ⟨kd_4 hc, h1⟩))))
  · exact Or.inr (Or.inr (Or.inr (Or.inr (Or.inr (Or.inl ⟨kd_5 hc, h1⟩)))))
  · exact Or.inr (Or.inr (Or.inr (Or.inr (Or.inr (Or.inr (Or.inl ⟨kd_6 hc, h1⟩))))))
  · exact Or.inr (Or.inr (Or.inr (Or.inr (Or.inr (Or.inr (Or.inr (Or.inl ⟨kd_7 hc, h1⟩)))))))
  · exact Or.inr (Or.inr (Or.inr (Or.inr (Or.inr (Or.inr (Or.inr (Or.inr ⟨kd_8 hc, h1⟩)))))))
  · exact h1.elim
section EX
variable {θ θ' : gT} {Gs U Gs' U' : gK → Nat} {h h' : mo_H} {s s' : gS} {k w i : Nat} {f : Nat → Int32} {n : Nat}
theorem gI_ext (H : gI θ Gs U h s) (ho : ∀ k w i, gV θ' k w i → gV θ k w i → gA Gs' U' k w i = gA Gs U k w i ∧ h'.1 (gA Gs U k w i) = some (gC θ' Gs' U' k w i (s'.1 (pk k w i)) (s'.2.1 (pk k w i)))) (own2 : Nat → gK) (hn : ∀ k w i, gV θ' k w i → ¬ gV θ k w i → h.2.1 ≤ gA Gs' U' k w i ∧ gA Gs' U' k w i < h'.2.1 ∧ h'.1 (gA Gs' U' k w i) = some (gC θ' Gs' U' k w i (s'.1 (pk k w i)) (s'.2.1 (pk k w i))) ∧ own2 (gA Gs' U' k w i) = pk k w i) (hl' : h.2.1 ≤ h'.2.1) (h2 : h'.2 = s'.2.2) : gI θ' Gs' U' h' s' := by
  obtain ⟨g1, ⟨own, g2⟩, g3⟩ := H
  refine ⟨fun k w i hv => ?_, ⟨fun q => if q < h.2.1 then own q else own2 q, fun k w i hv => ?_⟩, h2⟩
  · by_cases c : gV θ k w i
    · obtain ⟨a1, a2⟩ := ho k w i hv c
      rw [a1]
      exact ⟨a2, Nat.lt_of_lt_of_le (g1 k w i c).2 hl'⟩
    · obtain ⟨a1, a2, a3, a4⟩ := hn k w i hv c
      exact ⟨a3, a2⟩
  · show (if gA Gs' U' k w i < h.2.1 then own (gA Gs' U' k w i) else own2 (gA Gs' U' k w i)) = _
    by_cases c : gV θ k w i
    · rw [(ho k w i hv c).1, if_pos (g1 k w i c).2]
      exact g2 k w i c
    · obtain ⟨a1, a2, a3, a4⟩ := hn k w i hv c
      rw [if_neg (by omega)]
      exact a4
/-- a cell names only cells of its own world, of world 0, and by U of its own -/
theorem gC_cg (h1 : θ'.1 = θ.1) (h2 : θ'.2.1 = θ.2.1) (hk : k ≠ 0) (hG : ∀ q : gK, q.2.1 = w ∨ q.2.1 = 0 → Gs' q = Gs q) (hU : ∀ q : gK, q.2.1 = w → U' q = U q) : gC θ' Gs' U' k w i f n = gC θ Gs U k w i f n := by
  have g0 : ∀ a b, Gs' (pk a 0 b) = Gs (pk a 0 b) := fun a b => hG _ (Or.inr rfl)
  have gw' : ∀ a b, Gs' (pk a w b) = Gs (pk a w b) := fun a b => hG _ (Or.inl rfl)
  have gu : ∀ a b, U' (pk a w b) = U (pk a w b) := fun a b => hU _ rfl
  unfold gC
  split
  all_goals first
    | exact absurd rfl hk
    | rfl
    | simp only [g0, gw', gu, h1, h2]
end EX
