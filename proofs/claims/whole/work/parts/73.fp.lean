/-! A MACHINE FOR A PURGE -/
def setM (θ : gT) (w : Nat) : gT := (θ.1, θ.2.1, (if w = 1 then true else θ.2.2.1), (if w = 2 then true else θ.2.2.2))
def nA (B nd nl k i : Nat) : Nat := if k = 35 then B else if k = 15 then B + 1 else if k = 16 then B + 2 else if 19 ≤ k ∧ k ≤ 25 then B + 3 + 7 * i + (k - 19) else if k = 17 then B + 3 + 7 * nd else if 26 ≤ k ∧ k ≤ 31 then B + 4 + 7 * nd + 6 * i + (k - 26) else if k = 18 then B + 4 + 7 * nd + 6 * nl else B + 5 + 7 * nd + 6 * nl
def nG (w B nd nl : Nat) (Gs : gK → Nat) : gK → Nat := fun q => if q.2.1 = w ∧ 15 ≤ q.1 then nA B nd nl q.1 q.2.2 else Gs q
def nO (w B nd nl : Nat) (q : Nat) : gK := if q = B then pk 35 w 0 else if q = B + 1 then pk 15 w 0 else if q = B + 2 then pk 16 w 0 else if q < B + 3 + 7 * nd then pk (19 + (q - (B + 3)) % 7) w ((q - (B + 3)) / 7) else if q = B + 3 + 7 * nd then pk 17 w 0 else if q < B + 4 + 7 * nd + 6 * nl then pk (26 + (q - (B + 4 + 7 * nd)) % 6) w ((q - (B + 4 + 7 * nd)) / 6) else if q = B + 4 + 7 * nd + 6 * nl then pk 18 w 0 else pk 36 w 0
def nL (nl : Nat) (sc sz : Nat → Nat) (k i : Nat) : Nat := if k = 20 ∨ k = 23 ∨ k = 25 then 8 else if k = 21 ∨ k = 36 then 32 else if (k = 28 ∨ k = 30) ∧ i < nl then 5 * sc i else if k = 31 ∧ i < nl then sz i else 0
def nS (w nl : Nat) (sc sz : Nat → Nat) (s : gS) (c : Nat × Nat) : gS := (fun q => if q.2.1 = w ∧ 15 ≤ q.1 then (fun _ => 0) else s.1 q, fun q => if q.2.1 = w ∧ 15 ≤ q.1 then nL nl sc sz q.1 q.2.2 else s.2.1 q, c)
section FP
variable {θ : gT} {Gs U : gK → Nat} {h h' : mo_H} {s : gS} {k w i B nd nl : Nat} {sc sz : Nat → Nat} {c : Nat × Nat}
theorem nG_w (hk : 15 ≤ k) : nG w B nd nl Gs (pk k w i) = nA B nd nl k i := if_pos ⟨rfl, hk⟩
theorem nG_o {q : gK} (hq : ¬ (q.2.1 = w ∧ 15 ≤ q.1)) : nG w B nd nl Gs q = Gs q := if_neg hq
theorem nGA (hk : 15 ≤ k) : gA (nG w B nd nl Gs) (nG w B nd nl U) k w i = nA B nd nl k i := by
  unfold gA
  split
  · exact nG_w hk
  · exact nG_w hk
theorem nS_1 (hk : 15 ≤ k) : (nS w nl sc sz s c).1 (pk k w i) = fun _ => 0 := if_pos ⟨rfl, hk⟩
theorem nS_2 (hk : 15 ≤ k) : (nS w nl sc sz s c).2.1 (pk k w i) = nL nl sc sz k i := if_pos ⟨rfl, hk⟩
theorem nS_oth : oth w s (nS w nl sc sz s c) := fun _ hq => ⟨if_neg hq, if_neg hq⟩
theorem nO_w (hi : (19 ≤ k ∧ k ≤ 25 → i < nd) ∧ (26 ≤ k ∧ k ≤ 31 → i < nl) ∧ (k ≤ 18 ∨ 31 < k → i = 0)) (hk : 15 ≤ k ∧ (k ≤ 31 ∨ k = 35 ∨ k = 36)) : nO w B nd nl (nA B nd nl k i) = pk k w i ∧ B ≤ nA B nd nl k i ∧ nA B nd nl k i < B + 6 + 7 * nd + 6 * nl := by
  unfold nA
  by_cases e1 : k = 35
  · subst e1
    rw [if_pos rfl, hi.2.2 (by omega)]
    exact ⟨if_pos rfl, by omega, by omega⟩
  rw [if_neg e1]
  by_cases e2 : k = 15
  · subst e2
    rw [if_pos rfl, hi.2.2 (by omega)]
    unfold nO
    rw [if_neg (by omega), if_pos rfl]
    exact ⟨rfl, by omega, by omega⟩
  rw [if_neg e2]
  by_cases e3 : k = 16
  · subst e3
    rw [if_pos rfl, hi.2.2 (by omega)]
    unfold nO
    rw [if_neg (by omega), if_neg (by omega), if_pos rfl]
    exact ⟨rfl, by omega, by omega⟩
  rw [if_neg e3]
  by_cases e4 : 19 ≤ k ∧ k ≤ 25
  · rw [if_pos e4]
    have := hi.1 e4
    unfold nO
    rw [if_neg (by omega), if_neg (by omega), if_neg (by omega), if_pos (by omega)]
    refine ⟨?_, by omega, by omega⟩
    have a1 : 19 + (B + 3 + 7 * i + (k - 19) - (B + 3)) % 7 = k := by omega
    have a2 : (B + 3 + 7 * i + (k - 19) - (B + 3)) / 7 = i := by omega
    rw [a1, a2]
  rw [if_neg e4]
  by_cases e5 : k = 17
  · subst e5
    rw [if_pos rfl, hi.2.2 (by omega)]
    unfold nO
    rw [if_neg (by omega), if_neg (by omega), if_neg (by omega), if_neg (by omega), if_pos rfl]
    exact ⟨rfl, by omega, by omega⟩
  rw [if_neg e5]
  by_cases e6 : 26 ≤ k ∧ k ≤ 31
  · rw [if_pos e6]
    have := hi.2.1 e6
    unfold nO
    rw [if_neg (by omega), if_neg (by omega), if_neg (by omega), if_neg (by omega), if_neg (by omega), if_pos (by omega)]
    refine ⟨?_, by omega, by omega⟩
    have a1 : 26 + (B + 4 + 7 * nd + 6 * i + (k - 26) - (B + 4 + 7 * nd)) % 6 = k := by omega
    have a2 : (B + 4 + 7 * nd + 6 * i + (k - 26) - (B + 4 + 7 * nd)) / 6 = i := by omega
    rw [a1, a2]
  rw [if_neg e6]
  by_cases e7 : k = 18
  · subst e7
    rw [if_pos rfl, hi.2.2 (by omega)]
    unfold nO
    rw [if_neg (by omega), if_neg (by omega), if_neg (by omega), if_neg (by omega), if_neg (by omega), if_neg (by omega), if_pos rfl]
    exact ⟨rfl, by omega, by omega⟩
  rw [if_neg e7]
  have e8 : k = 36 := by omega
  subst e8
  rw [hi.2.2 (by omega)]
  unfold nO
  rw [if_neg (by omega), if_neg (by omega), if_neg (by omega), if_neg (by omega), if_neg (by omega), if_neg (by omega), if_neg (by omega)]
  exact ⟨rfl, by omega, by omega⟩
/-- the machine's cells as the store names them -/
theorem mF_C {la : Nat → Nat} {bd : Nat → Int32} (hw0 : w ≠ 0) (hm : MF h' (B + 1) (Gs (pk 1 0 0)) nd nl la bd sz) (hla : ∀ j, j < nl → la j = Gs (pk 4 0 j)) (hsc : ∀ j, j < nl → sc j = ch_s (bd j) (sz j)) (hp : h'.1 B = some (.inr (8, [.ref (Gs (pk 1 0 0)), .ref (B + 1), .ref (B + 5 + 7 * nd + 6 * nl), .int 0, .int 0]))) (hk36 : h'.1 (B + 5 + 7 * nd + 6 * nl) = some (aI 32 1)) (θ' : gT) (t1 : θ'.1 = nd) (t2 : θ'.2.1 = nl) (hi : (19 ≤ k ∧ k ≤ 25 → i < nd) ∧ (26 ≤ k ∧ k ≤ 31 → i < nl) ∧ (k ≤ 18 ∨ 31 < k → i = 0)) (hk : 15 ≤ k ∧ (k ≤ 31 ∨ k = 35 ∨ k = 36)) : h'.1 (nA B nd nl k i) = some (gC θ' (nG w B nd nl Gs) (nG w B nd nl U) k w i (fun _ => 0) (nL nl sc sz k i)) := by
  obtain ⟨m1, m2, m3, m4, m5, m6⟩ := hm
  have g0 : ∀ a b, nG w B nd nl Gs (pk a 0 b) = Gs (pk a 0 b) := fun a b => nG_o (fun z => hw0 z.1.symm)
  have gw' : ∀ a b, 15 ≤ a → nG w B nd nl Gs (pk a w b) = nA B nd nl a b := fun a b ha => nG_w ha
  have gu : ∀ a b, 15 ≤ a → nG w B nd nl U (pk a w b) = nA B nd nl a b := fun a b ha => nG_w ha
  have dd : ∀ j, j < nd → DF h' (B + 3 + 7 * j) := fun j hj => by have := m3 j hj; rw [show B + 1 + 2 + 7 * j = B + 3 + 7 * j by omega] at this; exact this
  have cc : ∀ j, j < nl → CF h' (B + 4 + 7 * nd + 6 * j) (Gs (pk 4 0 j)) (sc j) (sz j) := fun j hj => by have := m5 j hj; rw [show B + 1 + 3 + 7 * nd + 6 * j = B + 4 + 7 * nd + 6 * j by omega, hla j hj, ← hsc j hj] at this; exact this
  have : k = 15 ∨ k = 16 ∨ k = 17 ∨ k = 18 ∨ (19 ≤ k ∧ k ≤ 25) ∨ (26 ≤ k ∧ k ≤ 31) ∨ k = 35 ∨ k = 36 := by omega
  rcases this with rfl | rfl | rfl | rfl | hk2 | hk2 | rfl | rfl
  · rw [hi.2.2 (by omega)]
    show h'.1 (B + 1) = some (.inr (5, [.ref (nG w B nd nl Gs (pk 1 0 0)), .ref (nG w B nd nl Gs (pk 16 w 0)), .ref (nG w B nd nl Gs (pk 17 w 0)), .ref (nG w B nd nl Gs (pk 18 w 0)), .int 0]))
    rw [m1, g0, gw' 16 0 (by omega), gw' 17 0 (by omega), gw' 18 0 (by omega)]
    simp [nA]
  · rw [hi.2.2 (by omega)]
    show h'.1 (B + 2) = some (.inl (4, θ'.1, gRef (fun j => if j < θ'.1 then some (nG w B nd nl Gs (pk 19 w j)) else none)))
    rw [m2, t1]
    have : (fun j => if j < nd then some (B + 1 + 2 + 7 * j) else none) = fun j => if j < nd then some (nG w B nd nl Gs (pk 19 w j)) else none := by
      funext j
      rw [gw' 19 j (by omega)]
      simp [nA]
    rw [this]
  · rw [hi.2.2 (by omega)]
    show h'.1 (B + 3 + 7 * nd) = some (.inl (5, 12, gRef (fun j => if j < θ'.2.1 then some (nG w B nd nl Gs (pk 26 w j)) else none)))
    rw [show B + 3 + 7 * nd = B + 1 + 2 + 7 * nd by omega, m4, t2]
    have : (fun j => if j < nl then some (B + 1 + 3 + 7 * nd + 6 * j) else none) = fun j => if j < nl then some (nG w B nd nl Gs (pk 26 w j)) else none := by
      funext j
      rw [gw' 26 j (by omega)]
      simp [nA]
    rw [this]
  · rw [hi.2.2 (by omega)]
    show h'.1 (B + 4 + 7 * nd + 6 * nl) = some (.inr (2, [.ref (nG w B nd nl Gs (pk 1 0 0)), .int 0, .int 0, .int 0, .int 0, .int 0]))
    rw [show B + 4 + 7 * nd + 6 * nl = B + 1 + 3 + 7 * nd + 6 * nl by omega, m6, g0]
  · obtain ⟨d1, d2, d3, d4, d5⟩ := dd i (hi.1 hk2)
    have : k = 19 ∨ k = 20 ∨ k = 21 ∨ k = 22 ∨ k = 23 ∨ k = 24 ∨ k = 25 := by omega
    rcases this with rfl | rfl | rfl | rfl | rfl | rfl | rfl
    · show h'.1 (B + 3 + 7 * i) = some (.inr (3, [.ref (nG w B nd nl Gs (pk 20 w i)), .ref (nG w B nd nl Gs (pk 21 w i)), .ref (nG w B nd nl Gs (pk 22 w i)), .ref (nG w B nd nl Gs (pk 24 w i)), .int 0, .int 0, .int 0, .int 0, .int 0]))
      rw [d1, gw' 20 i (by omega), gw' 21 i (by omega), gw' 22 i (by omega), gw' 24 i (by omega)]
      simp [nA]
    · exact d2
    · exact d3
    · show h'.1 (B + 3 + 7 * i + 3) = some (.inr (9, [.ref (nG w B nd nl U (pk 23 w i)), .int 0]))
      rw [d4.1, gu 23 i (by omega)]
      simp [nA]
    · exact d4.2
    · show h'.1 (B + 3 + 7 * i + 5) = some (.inr (9, [.ref (nG w B nd nl U (pk 25 w i)), .int 0]))
      rw [d5.1, gu 25 i (by omega)]
      simp [nA]
    · exact d5.2
  · have hil := hi.2.1 hk2
    obtain ⟨d1, d2, d3, d4, d5, d6⟩ := cc i hil
    have : k = 26 ∨ k = 27 ∨ k = 28 ∨ k = 29 ∨ k = 30 ∨ k = 31 := by omega
    rcases this with rfl | rfl | rfl | rfl | rfl | rfl
    · show h'.1 (B + 4 + 7 * nd + 6 * i) = some (.inr (1, [.ref (nG w B nd nl Gs (pk 4 0 i)), .ref (nG w B nd nl U (pk 27 w i)), .ref (nG w B nd nl U (pk 29 w i)), .int 0, .int 0, .ref (nG w B nd nl Gs (pk 31 w i)), .int 0, .int 0]))
      rw [d1, g0, gu 27 i (by omega), gu 29 i (by omega), gw' 31 i (by omega)]
      simp [nA]
    · show h'.1 (B + 4 + 7 * nd + 6 * i + 1) = some (.inr (6, [.ref (nG w B nd nl U (pk 28 w i)), .int 0, .int 0]))
      rw [d2, gu 28 i (by omega)]
      simp [nA]
    · show h'.1 (B + 4 + 7 * nd + 6 * i + 2) = some (aI (nL nl sc sz 28 i) 0)
      rw [d3]
      simp [nL, hil]
    · show h'.1 (B + 4 + 7 * nd + 6 * i + 3) = some (.inr (6, [.ref (nG w B nd nl U (pk 30 w i)), .int 0, .int 0]))
      rw [d4, gu 30 i (by omega)]
      simp [nA]
    · show h'.1 (B + 4 + 7 * nd + 6 * i + 4) = some (aI (nL nl sc sz 30 i) 0)
      rw [d5]
      simp [nL, hil]
    · show h'.1 (B + 4 + 7 * nd + 6 * i + 5) = some (aI (nL nl sc sz 31 i) 0)
      rw [d6]
      simp [nL, hil]
  · rw [hi.2.2 (by omega)]
    show h'.1 B = some (.inr (8, [.ref (nG w B nd nl Gs (pk 1 0 0)), .ref (nG w B nd nl Gs (pk 15 w 0)), .ref (nG w B nd nl U (pk 36 w 0)), .int 0, .int 0]))
    rw [hp, g0, gw' 15 0 (by omega), gu 36 0 (by omega)]
    simp [nA]
  · rw [hi.2.2 (by omega)]
    exact hk36
theorem gMW_o {w' : Nat} (hn : w' ≠ w) (h : gMW (setM θ w) w') : gMW θ w' := by
  rcases h with h | ⟨h, q⟩ | ⟨h, q⟩
  · exact Or.inl h
  · refine Or.inr (Or.inl ⟨h, ?_⟩)
    have q' : (if w = 1 then true else θ.2.2.1) = true := q
    rw [if_neg (fun e => hn (h.trans e.symm))] at q'
    exact q'
  · refine Or.inr (Or.inr ⟨h, ?_⟩)
    have q' : (if w = 2 then true else θ.2.2.2) = true := q
    rw [if_neg (fun e => hn (h.trans e.symm))] at q'
    exact q'
theorem gPW_o {w' : Nat} (hn : w' ≠ w) (h : gPW (setM θ w) w') : gPW θ w' := by
  rcases h with ⟨h, q⟩ | ⟨h, q⟩
  · refine Or.inl ⟨h, ?_⟩
    have q' : (if w = 1 then true else θ.2.2.1) = true := q
    rw [if_neg (fun e => hn (h.trans e.symm))] at q'
    exact q'
  · refine Or.inr ⟨h, ?_⟩
    have q' : (if w = 2 then true else θ.2.2.2) = true := q
    rw [if_neg (fun e => hn (h.trans e.symm))] at q'
    exact q'
theorem gV_o {w' : Nat} (hn : w' ≠ w) (h : gV (setM θ w) k w' i) : gV θ k w' i := by
  obtain ⟨h1, h2⟩ := h
  refine ⟨?_, h2⟩
  have hh := kd_h k
  generalize gVc.getD k 9 = c at h1 hh
  have : c = 0 ∨ c = 1 ∨ c = 2 ∨ c = 3 ∨ c = 4 ∨ c = 5 ∨ c = 6 ∨ c = 7 ∨ c = 8 ∨ c = 9 := by omega
  rcases this with rfl | rfl | rfl | rfl | rfl | rfl | rfl | rfl | rfl | rfl
  · exact h1
  · exact h1
  · exact h1
  · exact h1
  · exact ⟨gMW_o hn h1.1, h1.2⟩
  · exact ⟨gMW_o hn h1.1, h1.2⟩
  · exact ⟨gMW_o hn h1.1, h1.2⟩
  · exact h1
  · exact ⟨gPW_o hn h1.1, h1.2⟩
  · exact h1
theorem gMW_n (hw : (w = 1 ∧ θ.2.2.1 = false) ∨ (w = 2 ∧ θ.2.2.2 = false)) (h : gMW θ w) : False := by
  rcases hw with ⟨rfl, q⟩ | ⟨rfl, q⟩
  · rcases h with h | ⟨_, h⟩ | ⟨h, _⟩
    · omega
    · rw [q] at h; cases h
    · omega
  · rcases h with h | ⟨h, _⟩ | ⟨_, h⟩
    · omega
    · omega
    · rw [q] at h; cases h
theorem gV_n (hw : (w = 1 ∧ θ.2.2.1 = false) ∨ (w = 2 ∧ θ.2.2.2 = false)) (h : gV θ k w i) : False := by
  have h0 : w ≠ 0 := by omega
  rcases gV_cs h with q | q | q | q | q | q | q | q | q
  · exact h0 q.2.1
  · exact h0 q.2.1
  · exact h0 q.2.1
  · exact h0 q.2.1
  · exact gMW_n hw q.2.1
  · exact gMW_n hw q.2.1
  · exact gMW_n hw q.2.1
  · exact h0 q.2.1
  · exact gMW_n hw (Or.inr q.2.1)
theorem gI_mach {la : Nat → Nat} {bd : Nat → Int32} (H : gI θ Gs U h s) (hw : (w = 1 ∧ θ.2.2.1 = false) ∨ (w = 2 ∧ θ.2.2.2 = false)) (h6 : θ.1 ≤ 6 ∧ θ.2.1 ≤ 12) (hm : MF h' (h.2.1 + 1) (Gs (pk 1 0 0)) θ.1 θ.2.1 la bd sz) (hla : ∀ j, j < θ.2.1 → la j = Gs (pk 4 0 j)) (hsc : ∀ j, j < θ.2.1 → sc j = ch_s (bd j) (sz j)) (hp : h'.1 h.2.1 = some (.inr (8, [.ref (Gs (pk 1 0 0)), .ref (h.2.1 + 1), .ref (h.2.1 + 5 + 7 * θ.1 + 6 * θ.2.1), .int 0, .int 0]))) (hk36 : h'.1 (h.2.1 + 5 + 7 * θ.1 + 6 * θ.2.1) = some (aI 32 1)) (h0 : h'.1 (Gs (pk 0 0 0)) = some (.inr (10, [.ref (Gs (pk 1 0 0)), .ref (Gs (pk 15 0 0)), .ref (Gs (pk 32 0 0)), (if w = 1 then .ref h.2.1 else va_rf (match θ.2.2.1 with | true => some (Gs (pk 35 1 0)) | false => none)), (if w = 2 then .ref h.2.1 else va_rf (match θ.2.2.2 with | true => some (Gs (pk 35 2 0)) | false => none))]))) (hold : ∀ q, q < h.2.1 → q ≠ Gs (pk 0 0 0) → h'.1 q = h.1 q) (hc' : h'.2.1 = h.2.1 + 6 + 7 * θ.1 + 6 * θ.2.1) : gI (setM θ w) (nG w h.2.1 θ.1 θ.2.1 Gs) (nG w h.2.1 θ.1 θ.2.1 U) h' (nS w θ.2.1 sc sz s h'.2) := by
  have hw0 : w ≠ 0 := by omega
  have v0 : gV θ 0 0 0 := ⟨⟨rfl, rfl⟩, h6⟩
  refine gI_ext H (fun k w' i hv' hv => ?_) (nO w h.2.1 θ.1 θ.2.1) (fun k w' i hv' hv => ?_) (by omega) rfl
  · have hn : w' ≠ w := fun e => by rw [e] at hv; exact gV_n hw hv
    have hnk : ¬ ((pk k w' i).2.1 = w ∧ 15 ≤ (pk k w' i).1) := fun z => hn z.1
    have eA : gA (nG w h.2.1 θ.1 θ.2.1 Gs) (nG w h.2.1 θ.1 θ.2.1 U) k w' i = gA Gs U k w' i := by
      unfold gA
      split
      · exact nG_o hnk
      · exact nG_o hnk
    refine ⟨eA, ?_⟩
    rw [(nS_oth (s := s) (pk k w' i) hnk).1, (nS_oth (s := s) (pk k w' i) hnk).2]
    by_cases k0 : k = 0
    · subst k0
      have e1 : w' = 0 ∧ i = 0 := hv.1
      obtain ⟨rfl, rfl⟩ := e1
      show h'.1 (Gs (pk 0 0 0)) = some (.inr (10, [.ref (nG w h.2.1 θ.1 θ.2.1 Gs (pk 1 0 0)), .ref (nG w h.2.1 θ.1 θ.2.1 Gs (pk 15 0 0)), .ref (nG w h.2.1 θ.1 θ.2.1 Gs (pk 32 0 0)), va_rf (match (setM θ w).2.2.1 with | true => some (nG w h.2.1 θ.1 θ.2.1 Gs (pk 35 1 0)) | false => none), va_rf (match (setM θ w).2.2.2 with | true => some (nG w h.2.1 θ.1 θ.2.1 Gs (pk 35 2 0)) | false => none)]))
      rw [h0, nG_o (fun z => hw0 z.1.symm), nG_o (fun z => hw0 z.1.symm), nG_o (fun z => hw0 z.1.symm)]
      rcases hw with ⟨rfl, q⟩ | ⟨rfl, q⟩
      · have e1 : nG 1 h.2.1 θ.1 θ.2.1 Gs (pk 35 1 0) = h.2.1 := nG_w (by omega)
        have e2 : nG 1 h.2.1 θ.1 θ.2.1 Gs (pk 35 2 0) = Gs (pk 35 2 0) := nG_o (fun z => absurd z.1 (by decide))
        rw [e1, e2]; rfl
      · have e1 : nG 2 h.2.1 θ.1 θ.2.1 Gs (pk 35 2 0) = h.2.1 := nG_w (by omega)
        have e2 : nG 2 h.2.1 θ.1 θ.2.1 Gs (pk 35 1 0) = Gs (pk 35 1 0) := nG_o (fun z => absurd z.1 (by decide))
        rw [e1, e2]; rfl
    · have hne : gA Gs U k w' i ≠ Gs (pk 0 0 0) := fun e => by
        obtain ⟨own, g2⟩ := H.2.1
        have a1 := g2 k w' i hv
        have a2 : own (Gs (pk 0 0 0)) = pk 0 0 0 := g2 0 0 0 v0
        rw [e, a2] at a1
        exact k0 (congrArg Prod.fst a1).symm
      have a := H.1 k w' i hv
      rw [hold _ a.2 hne, a.1]
      congr 1
      exact Eq.symm (gC_cg (θ := θ) (θ' := setM θ w) (Gs := Gs) (U := U) (Gs' := nG w h.2.1 θ.1 θ.2.1 Gs) (U' := nG w h.2.1 θ.1 θ.2.1 U) rfl rfl k0 (fun q hq => nG_o (fun z => by rcases hq with e | e; exact hn (e.symm.trans z.1); exact hw0 (z.1.symm.trans e))) (fun q hq => nG_o (fun z => hn (hq.symm.trans z.1))))
  · have e : w' = w := by
      refine Classical.byContradiction (fun hn => hv (gV_o hn hv'))
    subst e
    have key : (19 ≤ k ∧ k ≤ 25 → i < θ.1) ∧ (26 ≤ k ∧ k ≤ 31 → i < θ.2.1) ∧ (k ≤ 18 ∨ 31 < k → i = 0) ∧ 15 ≤ k ∧ (k ≤ 31 ∨ k = 35 ∨ k = 36) := by
      rcases gV_cs hv' with q | q | q | q | q | q | q | q | q
      · exact absurd q.2.1 hw0
      · exact absurd q.2.1 hw0
      · exact absurd q.2.1 hw0
      · exact absurd q.2.1 hw0
      · have := q.2.2; exact ⟨by omega, by omega, by omega, by omega, by omega⟩
      · have : i < θ.1 := q.2.2; exact ⟨by omega, by omega, by omega, by omega, by omega⟩
      · have : i < θ.2.1 := q.2.2; exact ⟨by omega, by omega, by omega, by omega, by omega⟩
      · exact absurd q.2.1 hw0
      · have := q.2.2; exact ⟨by omega, by omega, by omega, by omega, by omega⟩
    obtain ⟨c1, c2, c3, c4, c5⟩ := key
    have o := nO_w (w := w') (B := h.2.1) (nd := θ.1) (nl := θ.2.1) ⟨c1, c2, c3⟩ ⟨c4, c5⟩
    rw [nGA c4, nS_1 c4, nS_2 c4]
    exact ⟨o.2.1, by rw [hc']; exact o.2.2, mF_C hw0 hm hla hsc hp hk36 (setM θ w') rfl rfl ⟨c1, c2, c3⟩ ⟨c4, c5⟩, o.1⟩
end FP
