/-! WHAT A DOMAIN SEES OF TWO WORLDS: the kernel -/
def mNB (π : mP) (W : mW) : Prop := ∀ c k, plk π c 2 = 0 → W.1 3 c 6 = 0 ∧ W.1 4 c k = 0
section NB
variable {π : mP} {W W' : mW} {d : Nat} {x : Int32}
theorem mNB.cg (h : mNB π W) (h1 : ∀ c, W'.1 3 c 6 = W.1 3 c 6) (h2 : ∀ c k, W'.1 4 c k = W.1 4 c k) : mNB π W' := fun c k hc => by rw [h1, h2]; exact h c k hc
theorem mNB.A (h : mNB π W) {j i k : Nat} {v : Int32} (h1 : j ≠ 4 ∧ ¬ (j = 3 ∧ k = 6)) : mNB π (mA W j i k v) := h.cg (fun c => mA_n (by omega)) (fun c k => mA_n (by omega))
theorem mNB.Ar (h : mNB π W) {j i : Nat} {f : Nat → Int32} (h1 : j = 0 ∨ j = 1) : mNB π (mAr W j i f) := h.cg (fun c => mAr_n (by omega)) (fun c k => mAr_n (by omega))
theorem mNB.B (h : mNB π W) {j i : Nat} {l : List Int32} : mNB π (mB W j i l) := h.cg (fun c => rfl) (fun c k => rfl)
theorem mNB.C (h : mNB π W) {j i : Nat} {l : List (List Int32)} : mNB π (mC W j i l) := h.cg (fun c => rfl) (fun c k => rfl)
theorem mNB.nx (h : mNB π W) : mNB π (mnx W d) := h.A (by omega)
theorem mNB.set (h : mNB π W) {r : Nat} {v : Int32} : mNB π (mset W d r v) := (h.A (by omega)).nx
theorem mNB.put (h : mNB π W) {f : Nat} {l : List Int32} : mNB π (mput W d f l) := h.Ar (Or.inr rfl)
def nbo (π : mP) (o : Option mW) : Prop := match o with
  | none => True
  | some W' => mNB π W'
theorem nbo_if {c : Prop} [Decidable c] {a b : Option mW} (h1 : c → nbo π a) (h2 : ¬ c → nbo π b) : nbo π (if c then a else b) := by
  by_cases hc : c
  · rw [if_pos hc]; exact h1 hc
  · rw [if_neg hc]; exact h2 hc
theorem mchan_nb (h : mNB π W) (x y z : Int32) : nbo π (mchan π W d x y z) := by
  unfold mchan
  refine nbo_if (fun _ => ?_) (fun _ => ?_)
  · refine nbo_if (fun hc => ?_) (fun _ => trivial)
    refine nbo_if (fun hz => ?_) (fun _ => trivial)
    exact nbo_if (fun _ => h.set) (fun hs => (h.A (by omega)).C.set)
  refine nbo_if (fun _ => ?_) (fun _ => ?_)
  · refine nbo_if (fun hc => ?_) (fun _ => trivial)
    cases hV : W.2.2 0 (xa x) with
    | nil => exact h.set
    | cons m tl => exact nbo_if (fun _ => h.put.C.set) (fun _ => trivial)
  refine nbo_if (fun _ => ?_) (fun _ => ?_)
  · refine nbo_if (fun hc => ?_) (fun _ => trivial)
    refine mNB.nx (fun c k hcc => ?_)
    have hne : c ≠ xa x := fun q => by rw [q, hc.1.2.1] at hcc; exact absurd hcc (by decide)
    rw [mA_n (by omega), mA_n (by omega), mAr_n (by omega), mA_n (by omega), mA_n (by omega), mAr_n (by omega)]
    exact h c k hcc
  refine nbo_if (fun _ => ?_) (fun _ => trivial)
  refine nbo_if (fun hc => ?_) (fun _ => trivial)
  exact h.put.set
theorem mop_nb (h : mNB π W) (x : Int32) : nbo π (mop π W d x) := by
  unfold mop
  refine nbo_if (fun _ => h.A (by omega)) (fun _ => ?_)
  refine nbo_if (fun _ => h.set) (fun _ => ?_)
  refine nbo_if (fun _ => h.set) (fun _ => ?_)
  refine nbo_if (fun _ => h.set) (fun _ => ?_)
  refine nbo_if (fun _ => h.set) (fun _ => ?_)
  refine nbo_if (fun _ => h.set) (fun _ => ?_)
  refine nbo_if (fun _ => h.set) (fun _ => ?_)
  refine nbo_if (fun _ => h.set) (fun _ => ?_)
  refine nbo_if (fun _ => h.set) (fun _ => ?_)
  refine nbo_if (fun _ => h.A (by omega)) (fun _ => ?_)
  refine nbo_if (fun _ => ?_) (fun _ => ?_)
  · show mNB π (if _ then _ else _)
    split
    · exact h.A (by omega)
    · exact h.nx
  refine nbo_if (fun _ => ?_) (fun _ => ?_)
  · show mNB π (if _ then _ else _)
    split
    · exact h.nx
    · exact h.A (by omega)
  refine nbo_if (fun _ => ?_) (fun _ => ?_)
  · exact nbo_if (fun _ => h.set) (fun _ => trivial)
  refine nbo_if (fun _ => ?_) (fun _ => ?_)
  · exact nbo_if (fun _ => mNB.nx (h.A (by omega))) (fun _ => trivial)
  refine nbo_if (fun _ => ?_) (fun _ => ?_)
  · exact nbo_if (fun _ => trivial) (fun hl => mNB.nx h.B)
  refine nbo_if (fun _ => ?_) (fun _ => ?_)
  · cases hV : W.2.1 0 d with
    | nil => exact h.set
    | cons v tl => exact (h.A (by omega)).B.set
  refine nbo_if (fun _ => h.set) (fun _ => ?_)
  refine nbo_if (fun _ => (h.A (by omega)).nx) (fun _ => ?_)
  refine nbo_if (fun _ => ?_) (fun _ => ?_)
  · exact nbo_if (fun _ => h.set) (fun _ => trivial)
  refine nbo_if (fun _ => ?_) (fun _ => ?_)
  · exact nbo_if (fun _ => (h.A (by omega)).nx) (fun _ => trivial)
  refine nbo_if (fun _ => h.set) (fun _ => mchan_nb h x _ _)
theorem mNB.op (h : mNB π W) (e : mop π W d x = some W') : mNB π W' := by
  have := mop_nb (d := d) h x
  rw [e] at this
  exact this
theorem mNB.fail (h : mNB π W) : mNB π (mfail π W d) := by
  refine h.cg ?_ ?_
  all_goals
    intros
    unfold mfail
    split
    · simp [mnx, mA, mAr]
    · split <;> simp [mnx, mA]
theorem mNB.step (h : mNB π W) : mNB π (mstep π W d) := by
  have h1 : mNB π (mA W 2 d 7 (W.1 2 d 7 + 1)) := h.cg (fun c => by simp [mA]) (fun c k => by simp [mA])
  unfold mstep
  dsimp only
  split
  · cases e : mop π (mA W 2 d 7 (W.1 2 d 7 + 1)) d (mins π W d) with
    | none => exact h1.fail
    | some W2 => exact h1.op e
  · exact h1.fail
theorem mNB.adv (h : mNB π W) : mNB π (madv π W) := by
  refine h.cg ?_ ?_
  all_goals
    intros
    unfold madv
    dsimp only
    split
    · split <;> simp [mA]
    · simp [mA]
theorem mNB.pass (h : mNB π W) (b : Bool) : mNB π (mpass π W b) := by
  have h1 : mNB π (mbg π W) := by
    unfold mbg
    split
    · exact h.cg (fun c => by simp [mbeg]) (fun c k => by simp [mbeg])
    · exact h
  unfold mpass
  dsimp only
  refine mNB.adv ?_
  split
  · exact (h1.step (d := (msl π W).1)).A (by omega)
  · exact h1.A (by omega)
theorem mNB.mid : ∀ (k : Nat) (W : mW), mNB π W → mNB π (mid π k W)
  | 0, _, h => h
  | k + 1, W, h => mNB.mid k _ (h.pass false)
theorem mNB.rep : ∀ (l : List (mAct × Bool)) (t : Nat) (W : mW) (now : Nat), mNB π W → mNB π (mrep π l t W now)
  | [], t, W, now, h => mNB.mid _ _ h
  | (_, false) :: l, t, W, now, h => mNB.rep l t W now h
  | (a, true) :: l, t, W, now, h => by
    show mNB π (if a.2.1 = true then _ else _)
    split
    · exact mNB.rep l _ _ now ((mNB.mid _ _ h).cg (fun c => rfl) (fun c k => rfl))
    · exact mNB.rep l _ _ now ((mNB.mid _ _ h).pass true)
theorem mNB.res : mNB π (mres π) := fun c k _ => by simp [mres]
end NB
def aq (f : gM Int32) (s : gS) (P : Prop) : Prop := gh f s (fun r s' => s' = s ∧ ((r = 1 ∧ P) ∨ (r = 0 ∧ ¬ P)))
section AQ
variable {s : gS} {f : gM Int32} {P P' P1 : Prop}
theorem aq.iff (h : aq f s P) (e : P ↔ P') : aq f s P' := hm2 h (fun r s' q => ⟨q.1, q.2.elim (fun q => Or.inl ⟨q.1, e.mp q.2⟩) (fun q => Or.inr ⟨q.1, fun z => q.2 (e.mpr z)⟩)⟩)
theorem aq_1 (h : P) : aq (grz 1) s P := hr1 ⟨rfl, Or.inl ⟨rfl, h⟩⟩
theorem aq_0 (h : ¬ P) : aq (grz 0) s P := hr0 ⟨rfl, Or.inr ⟨rfl, h⟩⟩
theorem aq_b {K : Int32 → gM Int32} (h : aq f s P1) (k1 : P1 → aq (K 1) s P) (k0 : ¬ P1 → aq (K 0) s P) : aq (gb f K) s P := by
  refine hc h (fun r s' q => ?_)
  obtain ⟨rfl, ⟨rfl, q⟩ | ⟨rfl, q⟩⟩ := q
  · exact k1 q
  · exact k0 q
end AQ
section CL
variable {θ : gT} {s : gS} {k w i k' w' i' n n' : Nat} {l l' : List Int32} {π : mP}
theorem ext_getD {α : Type} {z : α} {l l' : List α} (h : l.length = l'.length) : (l = l') ↔ ∀ y, y < l.length → l.getD y z = l'.getD y z := by
  refine ⟨fun e y _ => by rw [e], fun e => List.ext_getElem h (fun y h1 h2 => ?_)⟩
  have := e y h1
  simpa [List.getD_eq_getElem?_getD, h1, h2] using this
theorem cq_row15 (h : cRow s k w i l) (h' : cRow s k' w' i' l') (hl' : l.length = l'.length) : ∀ (fu j : Nat), l.length - j < fu → j ≤ l.length → aq (G_X9_isSame_15 θ fu k w i k' w' i' (nI j)) s (∀ y, j ≤ y → y < l.length → l.getD y 0 = l'.getD y 0)
  | 0, j, h, _ => by omega
  | fu + 1, j, hf, hj => by
    have b1 := h.2.1
    have b2 := h.2.2.2.1
    have b3 := h'.2.1
    unfold G_X9_isSame_15
    refine hg h.1 ?_
    refine hif (fun c => ?_) (fun c => ?_)
    · rw [nI_leI (by omega) (by omega)] at c
      exact aq_1 (fun y h1 h2 => by omega)
    · rw [nI_leI (by omega) (by omega)] at c
      refine hl (i := j) rfl (by omega) (by omega) (h.2.2.2.2 j (by omega)) ?_
      refine hl (i := j) rfl (by omega) (by omega) (h'.2.2.2.2 j (by omega)) ?_
      refine hif (fun c2 => ?_) (fun c2 => aq_0 (fun q => c2 (q j (Nat.le_refl _) (by omega))))
      rw [nI_1]
      refine (cq_row15 h h' hl' fu (j + 1) (by omega) (by omega)).iff ⟨fun q y h1 h2 => ?_, fun q y h1 h2 => q y (by omega) h2⟩
      by_cases e : y = j
      · rw [e]; exact c2
      · exact q y (by omega) h2
theorem cq_row (h : cRow s k w i l) (h' : cRow s k' w' i' l') (h200 : l.length ≤ 200) : aq (G_X9_isSame θ k w i k' w' i') s (l = l') := by
  have b1 := h.2.1
  have b2 := h.2.2.2.1
  have b3 := h'.2.1
  have b4 := h'.2.2.2.1
  unfold G_X9_isSame
  refine hg h.1 (hg h'.1 ?_)
  refine hif (fun c => ?_) (fun c => aq_0 (fun q => c (by rw [q])))
  have hl' : l.length = l'.length := (nI_eq (by omega) (by omega)).mp c
  have := cq_row15 (θ := θ) h h' hl' mo_fu 0 (by unfold mo_fu; omega) (Nat.zero_le _)
  refine this.iff ?_
  rw [ext_getD (z := 0) hl']
  exact ⟨fun q y h => q y (Nat.zero_le _) h, fun q y _ h => q y h⟩
theorem cq_rec {m m' : List Int32} {p p' : Nat} (hm4 : m.length ≤ 4) (hm4' : m'.length ≤ 4) (e0 : s.1 (pk (k + 1) w i) p = nI m.length) (e1 : ∀ y, y < m.length → s.1 (pk (k + 1) w i) (p + 1 + y) = m.getD y 0) (e0' : s.1 (pk (k' + 1) w' i') p' = nI m'.length) (e1' : ∀ y, y < m'.length → s.1 (pk (k' + 1) w' i') (p' + 1 + y) = m'.getD y 0) (b : p + 5 ≤ s.2.1 (pk (k + 1) w i)) (b' : p' + 5 ≤ s.2.1 (pk (k' + 1) w' i')) (hp : p < 2 ^ 30) (hp' : p' < 2 ^ 30) : ∀ (fu j : Nat), m.length + 1 - j < fu → j ≤ m.length + 1 → (0 < j → m.length = m'.length) → aq (G_X6_isSameRecord_3 θ fu k w i (nI p) k' w' i' (nI p') (nI j)) s (m.length = m'.length ∧ ∀ y, j ≤ y + 1 → y < m.length → m.getD y 0 = m'.getD y 0)
  | 0, j, h, _, _ => by omega
  | fu + 1, j, hf, hj, hjl => by
    unfold G_X6_isSameRecord_3
    refine hl (i := p) rfl (by omega) (by omega) e0 ?_
    refine hif (fun c => ?_) (fun c => ?_)
    · rw [nI_ltI (by omega) (by omega)] at c
      exact aq_1 ⟨hjl (by omega), fun y h1 h2 => by omega⟩
    · rw [nI_ltI (by omega) (by omega)] at c
      rw [nI_add, nI_add, nI_1]
      have rec1 : (0 < j + 1 → m.length = m'.length) → _ := cq_rec hm4 hm4' e0 e1 e0' e1' b b' hp hp' fu (j + 1) (by omega) (by omega)
      by_cases j0 : j = 0
      · subst j0
        refine hl (i := p) rfl (by omega) (by omega) e0 (hl (i := p') rfl (by omega) (by omega) e0' ?_)
        refine hif (fun c2 => ?_) (fun c2 => aq_0 (fun q => c2 (by rw [q.1])))
        have hL : m.length = m'.length := (nI_eq (by omega) (by omega)).mp c2
        exact (rec1 (fun _ => hL)).iff ⟨fun q => ⟨q.1, fun y _ h2 => q.2 y (by omega) h2⟩, fun q => ⟨q.1, fun y _ h2 => q.2 y (by omega) h2⟩⟩
      · have hL := hjl (by omega)
        obtain ⟨y0, rfl⟩ : ∃ y0, j = y0 + 1 := ⟨j - 1, by omega⟩
        refine hl (i := p + (y0 + 1)) rfl (by omega) (by omega) (v := m.getD y0 0) (by rw [show p + (y0 + 1) = p + 1 + y0 by omega]; exact e1 y0 (by omega)) ?_
        refine hl (i := p' + (y0 + 1)) rfl (by omega) (by omega) (v := m'.getD y0 0) (by rw [show p' + (y0 + 1) = p' + 1 + y0 by omega]; exact e1' y0 (by omega)) ?_
        refine hif (fun c2 => ?_) (fun c2 => aq_0 (fun q => c2 (q.2 y0 (by omega) (by omega))))
        refine (rec1 (fun _ => hL)).iff ⟨fun q => ⟨q.1, fun y h1 h2 => ?_⟩, fun q => ⟨q.1, fun y h1 h2 => q.2 y (by omega) h2⟩⟩
        by_cases e : y = y0
        · rw [e]; exact c2
        · exact q.2 y (by omega) h2
theorem cq_ms15 {l l' : List (List Int32)} {nx nx' cap cap' : Nat} (h4 : ∀ m, m ∈ l → m.length ≤ 4) (h4' : ∀ m, m ∈ l' → m.length ≤ 4) (hl' : l.length = l'.length) (hn : l.length ≤ 3000) (a1 : s.1 (pk k w i) 1 = nI (nx + l.length)) (a2 : s.1 (pk k w i) 2 = nI nx) (a3 : s.2.1 (pk (k + 1) w i) = 5 * cap) (a4 : nx + l.length ≤ cap) (a5 : cap ≤ 100000) (a6 : ∀ x, x < l.length → s.1 (pk (k + 1) w i) (5 * (nx + x)) = nI (l.getD x []).length ∧ ∀ y, y < (l.getD x []).length → s.1 (pk (k + 1) w i) (5 * (nx + x) + 1 + y) = (l.getD x []).getD y 0) (c2 : s.1 (pk k' w' i') 2 = nI nx') (c3 : s.2.1 (pk (k' + 1) w' i') = 5 * cap') (c4 : nx' + l'.length ≤ cap') (c5 : cap' ≤ 100000) (c6 : ∀ x, x < l'.length → s.1 (pk (k' + 1) w' i') (5 * (nx' + x)) = nI (l'.getD x []).length ∧ ∀ y, y < (l'.getD x []).length → s.1 (pk (k' + 1) w' i') (5 * (nx' + x) + 1 + y) = (l'.getD x []).getD y 0) : ∀ (fu j : Nat), l.length - j < fu → j ≤ l.length → aq (G_X6_isSame_15 θ fu k w i k' w' i' (nI j)) s (∀ y, j ≤ y → y < l.length → l.getD y [] = l'.getD y [])
  | 0, j, h, _ => by omega
  | fu + 1, j, hf, hj => by
    have el : G_X6_left θ k w i s = some (nI l.length, s) := by
      unfold G_X6_left
      refine gh_eq (hg a1 (hg a2 (hr ⟨?_, rfl⟩)))
      rw [pk_sub (by omega)]
      congr 1; omega
    unfold G_X6_isSame_15
    refine hb el ?_
    refine hif (fun c => ?_) (fun c => ?_)
    · rw [nI_leI (by omega) (by omega)] at c
      exact aq_1 (fun y h1 h2 => by omega)
    · rw [nI_leI (by omega) (by omega)] at c
      refine hg a2 (hg c2 ?_)
      have g4 : (l.getD j []).length ≤ 4 := by
        rw [List.getD_eq_getElem?_getD, List.getElem?_eq_getElem (by omega)]
        exact h4 _ (List.getElem_mem _)
      have g4' : (l'.getD j []).length ≤ 4 := by
        rw [List.getD_eq_getElem?_getD, List.getElem?_eq_getElem (by omega)]
        exact h4' _ (List.getElem_mem _)
      have r1 : aq (G_X6_isSameRecord θ k w i ((5 : Int32) * (nI nx + nI j)) k' w' i' ((5 : Int32) * (nI nx' + nI j))) s (l.getD j [] = l'.getD j []) := by
        unfold G_X6_isSameRecord
        rw [nI_add, nI_add, show (5 : Int32) * nI (nx + j) = nI (5 * (nx + j)) from pk_mul 5 _, show (5 : Int32) * nI (nx' + j) = nI (5 * (nx' + j)) from pk_mul 5 _]
        have := cq_rec (θ := θ) (p := 5 * (nx + j)) (p' := 5 * (nx' + j)) g4 g4' (a6 j (by omega)).1 (a6 j (by omega)).2 (c6 j (by omega)).1 (c6 j (by omega)).2 (by omega) (by omega) (by omega) (by omega) mo_fu 0 (by unfold mo_fu; omega) (Nat.zero_le _) (fun q => absurd q (Nat.not_lt_zero _))
        refine aq.iff this ⟨fun q => (ext_getD (z := 0) q.1).mpr (fun y hy => q.2 y (Nat.zero_le _) hy), fun q => ⟨by rw [q], fun y _ _ => by rw [q]⟩⟩
      refine aq_b r1 (fun q => ?_) (fun q => ?_)
      · refine hF (by decide) ?_
        rw [nI_1]
        refine (cq_ms15 h4 h4' hl' hn a1 a2 a3 a4 a5 a6 c2 c3 c4 c5 c6 fu (j + 1) (by omega) (by omega)).iff ⟨fun q' y h1 h2 => ?_, fun q' y h1 h2 => q' y (by omega) h2⟩
        by_cases e : y = j
        · rw [e]; exact q
        · exact q' y (by omega) h2
      · exact hT rfl (aq_0 (fun z => q (z j (Nat.le_refl _) (by omega))))
theorem cq_ms {l l' : List (List Int32)} (h : cMsg s k w i n l) (h' : cMsg s k' w' i' n' l') (hn : n ≤ 3000) (hn' : n' ≤ 3000) (h4 : ∀ m, m ∈ l → m.length ≤ 4) (h4' : ∀ m, m ∈ l' → m.length ≤ 4) : aq (G_X6_isSame θ k w i k' w' i') s (l = l') := by
  unfold G_X6_isSame
  refine hb (e_left h) (hb (e_left h') ?_)
  obtain ⟨nx, cap, a1, a2, a3, a4, a5, a6, a7, a8⟩ := h
  obtain ⟨nx', cap', c1, c2, c3, c4, c5, c6, c7, c8⟩ := h'
  refine hif (fun c => ?_) (fun c => aq_0 (fun q => c (by rw [q])))
  have hl' : l.length = l'.length := (nI_eq (by omega) (by omega)).mp c
  have := cq_ms15 (θ := θ) h4 h4' hl' (by omega) a1 a2 a4 a6 a7 a8 c2 c4 c6 c7 c8 mo_fu 0 (by unfold mo_fu; omega) (Nat.zero_le _)
  refine aq.iff this ?_
  rw [ext_getD (z := []) hl']
  exact ⟨fun q y h => q y (Nat.zero_le _) h, fun q y _ h => q y h⟩
end CL
