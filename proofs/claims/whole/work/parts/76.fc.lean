/-! A CHANNEL MORE -/
def kCh (nl : Nat) (q : gK) : Prop := q.2.1 = 0 ∧ q.2.2 = nl ∧ (q.1 = 4 ∨ (26 ≤ q.1 ∧ q.1 ≤ 31))
def kChB (nl : Nat) (q : gK) : Bool := q.2.1 == 0 && (q.2.2 == nl && (q.1 == 4 || (Nat.ble 26 q.1 && Nat.ble q.1 31)))
theorem kChB_iff {nl : Nat} {q : gK} : kChB nl q = true ↔ kCh nl q := by
  unfold kChB kCh
  simp [Nat.ble_eq]
def cA7 (B k : Nat) : Nat := if k = 4 then B else B + 1 + (k - 26)
def cG (B nl : Nat) (Gs : gK → Nat) : gK → Nat := fun q => if kChB nl q = true then cA7 B q.1 else Gs q
def cO (B nl : Nat) (q : Nat) : gK := if q = B then pk 4 0 nl else pk (26 + (q - (B + 1))) 0 nl
def lkF (x0 x1 x2 x3 : Int32) (f : Nat) : Int32 := if f = 0 then x0 else if f = 1 then x1 else if f = 2 then x2 else if f = 3 then x3 else 0
def cLn (sc z k : Nat) : Nat := if k = 28 ∨ k = 30 then 5 * sc else if k = 31 then z else 0
def cS (nl sc z : Nat) (g : Nat → Int32) (s : gS) (c : Nat × Nat) : gS := (fun q => if kChB nl q = true then (if q.1 = 4 then g else (fun _ => 0)) else if q = pk 1 0 0 then upd (s.1 (pk 1 0 0)) 3 (nI (nl + 1)) else s.1 q, fun q => if kChB nl q = true then cLn sc z q.1 else s.2.1 q, c)
section FC
variable {θ : gT} {Gs U : gK → Nat} {h h' : mo_H} {s : gS} {k w i B nl sc z : Nat} {g : Nat → Int32} {c : Nat × Nat}
theorem cG_o {q : gK} (hq : ¬ kCh nl q) : cG B nl Gs q = Gs q := if_neg (fun e => hq (kChB_iff.mp e))
theorem cG_n {q : gK} (hq : kCh nl q) : cG B nl Gs q = cA7 B q.1 := if_pos (kChB_iff.mpr hq)
theorem cS1_o {q : gK} (hq : ¬ kCh nl q) (h1 : q ≠ pk 1 0 0) : (cS nl sc z g s c).1 q = s.1 q := by
  show (if kChB nl q = true then _ else _) = _
  rw [if_neg (fun e => hq (kChB_iff.mp e)), if_neg h1]
theorem cS2_o {q : gK} (hq : ¬ kCh nl q) : (cS nl sc z g s c).2.1 q = s.2.1 q := if_neg (fun e => hq (kChB_iff.mp e))
theorem cS1_p : (cS nl sc z g s c).1 (pk 1 0 0) = upd (s.1 (pk 1 0 0)) 3 (nI (nl + 1)) := by
  show (if kChB nl (pk 1 0 0) = true then _ else _) = _
  rw [if_neg (fun e => by
    have := (kChB_iff.mp e).2.2
    dsimp only [pk] at this
    omega), if_pos rfl]
theorem cS1_4 : (cS nl sc z g s c).1 (pk 4 0 nl) = g := by
  show (if kChB nl (pk 4 0 nl) = true then _ else _) = _
  rw [if_pos (kChB_iff.mpr (show kCh nl (pk 4 0 nl) from ⟨rfl, rfl, Or.inl rfl⟩)), if_pos rfl]
theorem cS1_c (hk : 26 ≤ k ∧ k ≤ 31) : (cS nl sc z g s c).1 (pk k 0 nl) = fun _ => 0 := by
  show (if kChB nl (pk k 0 nl) = true then _ else _) = _
  rw [if_pos (kChB_iff.mpr (show kCh nl (pk k 0 nl) from ⟨rfl, rfl, Or.inr hk⟩)), if_neg (show k ≠ 4 by omega)]
theorem cS2_c (hk : 26 ≤ k ∧ k ≤ 31) : (cS nl sc z g s c).2.1 (pk k 0 nl) = cLn sc z k := if_pos (kChB_iff.mpr ⟨rfl, rfl, Or.inr hk⟩)
theorem gC_ch {θ' : gT} {f : Nat → Int32} {n : Nat} (t1 : θ'.1 = θ.1) (t3 : θ'.2.2 = θ.2.2) (hk : k ≠ 3 ∧ k ≠ 17) (hi : k = 4 ∨ (26 ≤ k ∧ k ≤ 31) → i ≠ nl) : gC θ' (cG B nl Gs) (cG B nl U) k 0 i f n = gC θ Gs U k 0 i f n := by
  have g1 : ∀ a b, ¬ (a = 4 ∨ (26 ≤ a ∧ a ≤ 31)) → cG B nl Gs (pk a 0 b) = Gs (pk a 0 b) := fun a b ha => cG_o (fun q => ha q.2.2)
  have u1 : ∀ a b, ¬ (a = 4 ∨ (26 ≤ a ∧ a ≤ 31)) → cG B nl U (pk a 0 b) = U (pk a 0 b) := fun a b ha => cG_o (fun q => ha q.2.2)
  have g2 : ∀ a, i ≠ nl → cG B nl Gs (pk a 0 i) = Gs (pk a 0 i) := fun a ha => cG_o (fun q => ha q.2.1)
  have u2 : ∀ a, i ≠ nl → cG B nl U (pk a 0 i) = U (pk a 0 i) := fun a ha => cG_o (fun q => ha q.2.1)
  have w1 : ∀ a, cG B nl Gs (pk a 1 0) = Gs (pk a 1 0) := fun a => cG_o (fun q => absurd q.1 (show ¬ ((1 : Nat) = 0) by decide))
  have w2 : ∀ a, cG B nl Gs (pk a 2 0) = Gs (pk a 2 0) := fun a => cG_o (fun q => absurd q.1 (show ¬ ((2 : Nat) = 0) by decide))
  by_cases c26 : k = 26
  · subst c26
    have hn := hi (by omega)
    show Sum.inr _ = Sum.inr _
    rw [g2 4 hn, u2 27 hn, u2 29 hn, g2 31 hn]
  by_cases c27 : k = 27
  · subst c27
    have hn := hi (by omega)
    show Sum.inr _ = Sum.inr _
    rw [u2 28 hn]
  by_cases c29 : k = 29
  · subst c29
    have hn := hi (by omega)
    show Sum.inr _ = Sum.inr _
    rw [u2 30 hn]
  unfold gC
  split
  all_goals first
    | rfl
    | exact absurd rfl hk.1
    | exact absurd rfl hk.2
    | exact absurd rfl c26
    | exact absurd rfl c27
    | exact absurd rfl c29
    | simp [g1, u1, w1, w2, t1, t3]
theorem gV_c {θ' : gT} (t1 : θ'.1 = θ.1) (t2 : θ'.2.1 = θ.2.1 + 1) (t3 : θ'.2.2 = θ.2.2) (hm : θ.2.2 = (false, false)) (hv : gV θ' k w i) : w = 0 ∧ (¬ gV θ k w i → i = θ.2.1 ∧ (k = 4 ∨ (26 ≤ k ∧ k ≤ 31))) ∧ (gV θ k w i → ¬ kCh θ.2.1 (pk k w i)) := by
  have mw : ∀ w, gMW θ' w → w = 0 := fun w h => by
    unfold gMW at h
    rw [t3, hm] at h
    rcases h with h | ⟨_, h⟩ | ⟨_, h⟩
    · exact h
    · cases h
    · cases h
  have m0 : gMW θ 0 := Or.inl rfl
  refine ⟨?_, fun hn => ?_, fun hv' q => ?_⟩
  · rcases gV_cs hv with q | q | q | q | q | q | q | q | q
    · exact q.2.1
    · exact q.2.1
    · exact q.2.1
    · exact q.2.1
    · exact mw w q.2.1
    · exact mw w q.2.1
    · exact mw w q.2.1
    · exact q.2.1
    · exact mw w (Or.inr q.2.1)
  · obtain ⟨h1, h2, h3⟩ := hv
    have hd : θ.1 ≤ 6 ∧ θ.2.1 ≤ 12 := by omega
    have hh := kd_h k
    have cl : ∀ c, gVc.getD k 9 = c → gVd θ c w i → False := fun c hc hq => hn ⟨by rw [hc]; exact hq, hd⟩
    generalize hc : gVc.getD k 9 = c at h1 hh
    have : c = 0 ∨ c = 1 ∨ c = 2 ∨ c = 3 ∨ c = 4 ∨ c = 5 ∨ c = 6 ∨ c = 7 ∨ c = 8 ∨ c = 9 := by omega
    rcases this with rfl | rfl | rfl | rfl | rfl | rfl | rfl | rfl | rfl | rfl
    · exact (cl 0 hc h1).elim
    · have hq : w = 0 ∧ i < θ'.2.1 := h1
      by_cases e : i = θ.2.1
      · exact ⟨e, Or.inl (kd_1 hc)⟩
      · exact (cl 1 hc ⟨hq.1, by omega⟩).elim
    · have hq : w = 0 ∧ i < θ'.1 := h1
      exact (cl 2 hc ⟨hq.1, by omega⟩).elim
    · exact (cl 3 hc h1).elim
    · have hq : gMW θ' w ∧ i = 0 := h1
      exact (cl 4 hc ⟨Or.inl (mw w hq.1), hq.2⟩).elim
    · have hq : gMW θ' w ∧ i < θ'.1 := h1
      exact (cl 5 hc ⟨Or.inl (mw w hq.1), by omega⟩).elim
    · have hq : gMW θ' w ∧ i < θ'.2.1 := h1
      by_cases e : i = θ.2.1
      · exact ⟨e, Or.inr (kd_6 hc)⟩
      · exact (cl 6 hc ⟨Or.inl (mw w hq.1), by omega⟩).elim
    · exact (cl 7 hc h1).elim
    · have hq : gPW θ' w ∧ i = 0 := h1
      have := hq.1
      unfold gPW at this
      rw [t3, hm] at this
      rcases this with ⟨_, h⟩ | ⟨_, h⟩
      · cases h
      · cases h
    · exact h1.elim
  · have hi : i = θ.2.1 := q.2.1
    have hk : k = 4 ∨ (26 ≤ k ∧ k ≤ 31) := q.2.2
    rcases gV_cs hv' with q | q | q | q | q | q | q | q | q
    · rcases hk with rfl | hk
      · exact absurd q.1 (by decide)
      · exact (by decide : ∀ k, k < 98 → 26 ≤ k → k ≤ 31 → gVc.getD k 9 ≠ 0) k (by omega) hk.1 hk.2 q.1
    · omega
    · omega
    · omega
    · omega
    · omega
    · omega
    · omega
    · omega
theorem gI_chan {θ' : gT} (t1 : θ'.1 = θ.1) (t2 : θ'.2.1 = θ.2.1 + 1) (t3 : θ'.2.2 = θ.2.2) (hm : θ.2.2 = (false, false)) (h6 : θ.1 ≤ 6 ∧ θ.2.1 < 12) (H : gI θ Gs U h s) (hB : h.2.1 = B) (hl4 : h'.1 B = some (.inr (4, [.int (g 0), .int (g 1), .int (g 2), .int (g 3)]))) (hcf : CF h' (B + 1) B sc z) (h3 : h'.1 (Gs (pk 3 0 0)) = some (.inl (3, 12, gRef (va_up (fun j => if j < θ.2.1 then some (Gs (pk 4 0 j)) else none) θ.2.1 (some B))))) (h17 : h'.1 (Gs (pk 17 0 0)) = some (.inl (5, 12, gRef (va_up (fun j => if j < θ.2.1 then some (Gs (pk 26 0 j)) else none) θ.2.1 (some (B + 1)))))) (h1 : h'.1 (Gs (pk 1 0 0)) = some (gC θ Gs U 1 0 0 (upd (s.1 (pk 1 0 0)) 3 (nI (θ.2.1 + 1))) 0)) (hold : ∀ q, q < B → q ≠ Gs (pk 1 0 0) → q ≠ Gs (pk 3 0 0) → q ≠ Gs (pk 17 0 0) → h'.1 q = h.1 q) (hc' : h'.2.1 = B + 7) : gI θ' (cG B θ.2.1 Gs) (cG B θ.2.1 U) h' (cS θ.2.1 sc z g s h'.2) := by
  subst hB
  have h62 : θ.1 ≤ 6 ∧ θ.2.1 ≤ 12 := by omega
  have v1 : gV θ 1 0 0 := ⟨⟨rfl, rfl⟩, h62⟩
  have v3 : gV θ 3 0 0 := ⟨⟨rfl, rfl⟩, h62⟩
  have v17 : gV θ 17 0 0 := ⟨⟨Or.inl rfl, rfl⟩, h62⟩
  have ne : ∀ {k w i k'}, gV θ k w i → gV θ k' 0 0 → k ≠ k' → gA Gs U k w i ≠ gA Gs U k' 0 0 := fun {k w i k'} a b hk e => by
    obtain ⟨own, g2⟩ := H.2.1
    have a1 := g2 _ _ _ a
    have a2 := g2 _ _ _ b
    rw [e, a2] at a1
    exact hk (congrArg Prod.fst a1).symm
  refine gI_ext H (fun k w i hv' hv => ?_) (cO h.2.1 θ.2.1) (fun k w i hv' hv => ?_) (by omega) rfl
  · obtain ⟨rfl, -, hn⟩ := gV_c t1 t2 t3 hm hv'
    have hn := hn hv
    have eA : gA (cG h.2.1 θ.2.1 Gs) (cG h.2.1 θ.2.1 U) k 0 i = gA Gs U k 0 i := by
      unfold gA
      split
      · exact cG_o hn
      · exact cG_o hn
    refine ⟨eA, ?_⟩
    have hix : k = 4 ∨ (26 ≤ k ∧ k ≤ 31) → i ≠ θ.2.1 := fun q e => hn ⟨rfl, e, q⟩
    have a := H.1 k 0 i hv
    rw [cS2_o hn]
    by_cases k1 : k = 1
    · subst k1
      have e1 : (0 : Nat) = 0 ∧ i = 0 := hv.1
      obtain ⟨-, rfl⟩ := e1
      rw [cS1_p, gC_ch t1 t3 ⟨by omega, by omega⟩ hix]
      exact h1
    have np : pk k 0 i ≠ pk 1 0 0 := pk_ne (by omega)
    rw [cS1_o hn np]
    by_cases k3 : k = 3
    · subst k3
      have e1 : (0 : Nat) = 0 ∧ i = 0 := hv.1
      obtain ⟨-, rfl⟩ := e1
      show h'.1 (Gs (pk 3 0 0)) = some (.inl (3, 12, gRef (fun j => if j < θ'.2.1 then some (cG h.2.1 θ.2.1 Gs (pk 4 0 j)) else none)))
      rw [h3, t2]
      have e4 : cG h.2.1 θ.2.1 Gs (pk 4 0 θ.2.1) = h.2.1 := cG_n ⟨rfl, rfl, Or.inl rfl⟩
      have ef : (fun j => if j < θ.2.1 then some (Gs (pk 4 0 j)) else none) = fun j => if j < θ.2.1 then some (cG h.2.1 θ.2.1 Gs (pk 4 0 j)) else none := by
        funext j
        by_cases c : j < θ.2.1
        · rw [if_pos c, if_pos c, cG_o (fun q => by have := q.2.1; dsimp only [pk] at this; omega)]
        · rw [if_neg c, if_neg c]
      have := vu (g := fun j => cG h.2.1 θ.2.1 Gs (pk 4 0 j)) (i := θ.2.1)
      rw [ef]
      rw [show some h.2.1 = some (cG h.2.1 θ.2.1 Gs (pk 4 0 θ.2.1)) by rw [e4], this]
    by_cases k17 : k = 17
    · subst k17
      have e1 : gMW θ 0 ∧ i = 0 := hv.1
      obtain ⟨-, rfl⟩ := e1
      show h'.1 (Gs (pk 17 0 0)) = some (.inl (5, 12, gRef (fun j => if j < θ'.2.1 then some (cG h.2.1 θ.2.1 Gs (pk 26 0 j)) else none)))
      rw [h17, t2]
      have e4 : cG h.2.1 θ.2.1 Gs (pk 26 0 θ.2.1) = h.2.1 + 1 := cG_n ⟨rfl, rfl, Or.inr ⟨(by decide : 26 ≤ 26), (by decide : 26 ≤ 31)⟩⟩
      have ef : (fun j => if j < θ.2.1 then some (Gs (pk 26 0 j)) else none) = fun j => if j < θ.2.1 then some (cG h.2.1 θ.2.1 Gs (pk 26 0 j)) else none := by
        funext j
        by_cases c : j < θ.2.1
        · rw [if_pos c, if_pos c, cG_o (fun q => by have := q.2.1; dsimp only [pk] at this; omega)]
        · rw [if_neg c, if_neg c]
      have := vu (g := fun j => cG h.2.1 θ.2.1 Gs (pk 26 0 j)) (i := θ.2.1)
      rw [ef]
      rw [show some (h.2.1 + 1) = some (cG h.2.1 θ.2.1 Gs (pk 26 0 θ.2.1)) by rw [e4], this]
    rw [gC_ch t1 t3 ⟨k3, k17⟩ hix, hold _ a.2 (ne hv v1 k1) (ne hv v3 k3) (ne hv v17 k17)]
    exact a.1
  · obtain ⟨rfl, hn, -⟩ := gV_c t1 t2 t3 hm hv'
    obtain ⟨rfl, hk⟩ := hn hv
    have kc : kCh θ.2.1 (pk k 0 θ.2.1) := ⟨rfl, rfl, hk⟩
    have eA : gA (cG h.2.1 θ.2.1 Gs) (cG h.2.1 θ.2.1 U) k 0 θ.2.1 = cA7 h.2.1 k := by
      unfold gA
      split
      · exact cG_n kc
      · exact cG_n kc
    have gn : ∀ a, a = 4 ∨ (26 ≤ a ∧ a ≤ 31) → cG h.2.1 θ.2.1 Gs (pk a 0 θ.2.1) = cA7 h.2.1 a := fun a ha => cG_n ⟨rfl, rfl, ha⟩
    have un : ∀ a, a = 4 ∨ (26 ≤ a ∧ a ≤ 31) → cG h.2.1 θ.2.1 U (pk a 0 θ.2.1) = cA7 h.2.1 a := fun a ha => cG_n ⟨rfl, rfl, ha⟩
    rw [eA]
    rcases hk with rfl | hk
    · refine ⟨by show _ ≤ h.2.1; omega, by show h.2.1 < _; omega, ?_, by show cO h.2.1 θ.2.1 h.2.1 = _; exact if_pos rfl⟩
      rw [cS1_4]
      exact hl4
    · have ea : cA7 h.2.1 k = h.2.1 + 1 + (k - 26) := if_neg (by omega)
      refine ⟨by rw [ea]; omega, by rw [ea]; omega, ?_, ?_⟩
      · rw [cS1_c hk, cS2_c hk]
        obtain ⟨d1, d2, d3, d4, d5, d6⟩ := hcf
        have : k = 26 ∨ k = 27 ∨ k = 28 ∨ k = 29 ∨ k = 30 ∨ k = 31 := by omega
        rcases this with rfl | rfl | rfl | rfl | rfl | rfl
        · show h'.1 (h.2.1 + 1) = some (.inr (1, [.ref (cG h.2.1 θ.2.1 Gs (pk 4 0 θ.2.1)), .ref (cG h.2.1 θ.2.1 U (pk 27 0 θ.2.1)), .ref (cG h.2.1 θ.2.1 U (pk 29 0 θ.2.1)), .int 0, .int 0, .ref (cG h.2.1 θ.2.1 Gs (pk 31 0 θ.2.1)), .int 0, .int 0]))
          rw [gn 4 (by omega), un 27 (by omega), un 29 (by omega), gn 31 (by omega)]
          exact d1
        · show h'.1 (h.2.1 + 1 + 1) = some (.inr (6, [.ref (cG h.2.1 θ.2.1 U (pk 28 0 θ.2.1)), .int 0, .int 0]))
          rw [un 28 (by omega)]
          exact d2
        · exact d3
        · show h'.1 (h.2.1 + 1 + 3) = some (.inr (6, [.ref (cG h.2.1 θ.2.1 U (pk 30 0 θ.2.1)), .int 0, .int 0]))
          rw [un 30 (by omega)]
          exact d4
        · exact d5
        · exact d6
      · rw [ea]
        show (if h.2.1 + 1 + (k - 26) = h.2.1 then _ else _) = _
        rw [if_neg (by omega), show 26 + (h.2.1 + 1 + (k - 26) - (h.2.1 + 1)) = k by omega]
end FC
