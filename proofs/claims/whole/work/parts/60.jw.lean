/-! WHAT A DOMAIN SEES OF TWO WORLDS: the reference's answer -/
section RV
variable {θ : gT} {π : mP} {n n' N : Nat} {bv bv' : Int32} {s s0 s0' : gS} {W X : mW} {d : Nat} {P : Prop}
theorem bI {b : Bool} : ((if b = true then (1 : Int32) else 0) = 0) ↔ b = false := by
  cases b <;> decide
theorem al50 (hL : ∀ k, 42 ≤ k → s.2.1 (rk k) = rLen k) {i i' : Nat} {m m' : List Int32} (hi : i < 9000) (hi' : i' < 9000) (h4 : m.length ≤ 4) (e0 : s.1 (rk 84) i = nI m.length) (e1 : ∀ y, y < m.length → s.1 (rk 85) (4 * i + y) = m.getD y 0) (e1' : ∀ y, y < m'.length → s.1 (rk 85) (4 * i' + y) = m'.getD y 0) {k12 : Int32 → Int32 → Int32 → Int32 → Int32 → gM Int32} {x3 x7 : Int32} : ∀ (fu j : Nat) (b : Bool), m.length - j < fu → j ≤ m.length → (b = true → m.length = m'.length) → (∀ b' : Bool, (b' = true ↔ b = true ∧ ∀ y, j ≤ y → y < m.length → m.getD y 0 = m'.getD y 0) → aq (G_X11_areAlike_107 θ k12 x3 (nI i) (nI i') (if b' = true then 1 else 0) x7) s P) → aq (G_X11_areAlike_50 θ k12 fu x3 (nI i) (nI i') (if b = true then 1 else 0) x7 (nI j)) s P
  | 0, j, b, h, _, _, _ => by omega
  | fu + 1, j, b, hf, hj, hbl, kk => by
    unfold G_X11_areAlike_50 G_X11_areAlike_98 G_X11_areAlike_99
    refine hlr (i := i) rfl (hL 84 (by omega)) (by show _ < 9000; omega) e0 ?_
    refine hif (fun c => ?_) (fun c => ?_)
    · rw [nI_leI (by omega) (by omega)] at c
      exact kk b ⟨fun q => ⟨q, fun y h1 h2 => by omega⟩, fun q => q.1⟩
    · rw [nI_leI (by omega) (by omega)] at c
      rw [nI_1]
      refine hif (fun c0 => ?_) (fun c0 => ?_)
      · have hb0 : b = false := bI.mp c0
        subst hb0
        exact al50 hL hi hi' h4 e0 e1 e1' fu (j + 1) false (by omega) (by omega) (fun q => by cases q) (fun b' hb' => kk b' ⟨fun q => absurd (hb'.mp q).1 (by decide), fun q => absurd q.1 (by decide)⟩)
      · have hb1 : b = true := by
          cases b
          · exact absurd rfl c0
          · rfl
        subst hb1
        have hml := hbl rfl
        rw [m_4, m_4, nI_add, nI_add]
        refine hlr (i := 4 * i + j) rfl (hL 85 (by omega)) (by show _ < 36000; omega) (e1 j (by omega)) ?_
        refine hlr (i := 4 * i' + j) rfl (hL 85 (by omega)) (by show _ < 36000; omega) (e1' j (by omega)) ?_
        refine hif (fun c2 => ?_) (fun c2 => ?_)
        · exact al50 hL hi hi' h4 e0 e1 e1' fu (j + 1) true (by omega) (by omega) (fun _ => hml) (fun b' hb' => kk b' (hb'.trans ⟨fun q => ⟨rfl, fun y h1 h2 => by
            by_cases e : y = j
            · rw [e]; exact c2
            · exact q.2 y (by omega) h2⟩, fun q => ⟨rfl, fun y h1 h2 => q.2 y (by omega) h2⟩⟩))
        · exact al50 hL hi hi' h4 e0 e1 e1' fu (j + 1) false (by omega) (by omega) (fun q => by cases q) (fun b' hb' => kk b' ⟨fun q => absurd (hb'.mp q).1 (by decide), fun q => absurd (q.2 j (Nat.le_refl _) (by omega)) c2⟩)
theorem al12 (hL : ∀ k, 42 ≤ k → s.2.1 (rk k) = rLen k) (hN : N ≤ 3000) : ∀ (l l' : List (List Int32)) (ix ix' : List Nat) (fu j : Nat) (x4 x5 : Int32), rCh s ix l → rCh s ix' l' → (∀ i, i ∈ ix → i < 9000) → (∀ i, i ∈ ix' → i < 9000) → l.length = l'.length → j + l.length = N → (∀ i r, ix = i :: r → x4 = nI i) → (∀ i r, ix' = i :: r → x5 = nI i) → (∀ m, m ∈ l → m.length ≤ 4) → (∀ m, m ∈ l' → m.length ≤ 4) → l.length < fu → aq (G_X11_areAlike_12 θ fu (nI N) x4 x5 1 (nI j)) s (l = l')
  | _, _, _, _, 0, _, _, _, _, _, _, _, _, _, _, _, _, _, h => by omega
  | [], l', ix, ix', fu + 1, j, x4, x5, _, _, _, _, hl', hj, _, _, _, _, _ => by
    unfold G_X11_areAlike_12
    have hj' : j + 0 = N := hj
    refine hT ((nI_leI (by omega) (by omega)).mpr (by omega)) (aq_1 ?_)
    exact (List.length_eq_zero_iff.mp hl'.symm).symm
  | m :: t, l', ix, ix', fu + 1, j, x4, x5, h1, h2, b1, b2, hl', hj, g4, g5, h4, h4', hf => by
    have hlen : (m :: t).length = t.length + 1 := rfl
    rw [hlen] at hl' hj hf
    cases l' with
    | nil => cases hl'
    | cons m' t' =>
    have hl2 : t.length = t'.length := by
      have : (m' :: t').length = t'.length + 1 := rfl
      omega
    cases ix with
    | nil => exact h1.elim
    | cons i r =>
    cases ix' with
    | nil => exact h2.elim
    | cons i' r' =>
    obtain ⟨⟨p1, p2⟩, p3, p4⟩ := h1
    obtain ⟨⟨q1, q2⟩, q3, q4⟩ := h2
    have bi := b1 i (List.mem_cons_self ..)
    have bi' := b2 i' (List.mem_cons_self ..)
    have hm4 := h4 m (List.mem_cons_self ..)
    have hm4' := h4' m' (List.mem_cons_self ..)
    rw [g4 i r rfl, g5 i' r' rfl]
    unfold G_X11_areAlike_12
    refine hF (fun q => absurd ((nI_leI (by omega) (by omega)).mp q) (by omega)) (hF (by decide) ?_)
    refine hlr (i := i) rfl (hL 84 (by omega)) (by show _ < 9000; omega) p1 ?_
    refine hlr (i := i') rfl (hL 84 (by omega)) (by show _ < 9000; omega) q1 ?_
    have fin : ∀ b' : Bool, (b' = true ↔ m = m') → aq (G_X11_areAlike_107 θ (G_X11_areAlike_12 θ fu) (nI N) (nI i) (nI i') (if b' = true then 1 else 0) (nI j)) s (m :: t = m' :: t') := fun b' hb' => by
      unfold G_X11_areAlike_107
      refine hlr (i := i) rfl (hL 83 (by omega)) (by show _ < 9000; omega) rfl ?_
      refine hlr (i := i') rfl (hL 83 (by omega)) (by show _ < 9000; omega) rfl ?_
      rw [nI_1]
      cases b' with
      | true =>
        have em := hb'.mp rfl
        refine aq.iff (al12 hL hN t t' r r' fu (j + 1) _ _ p4 q4 (fun y hy => b1 y (List.mem_cons_of_mem _ hy)) (fun y hy => b2 y (List.mem_cons_of_mem _ hy)) hl2 (by omega) (fun y z e => p3 y z e) (fun y z e => q3 y z e) (fun y hy => h4 y (List.mem_cons_of_mem _ hy)) (fun y hy => h4' y (List.mem_cons_of_mem _ hy)) (by omega)) ⟨fun q => by rw [em, q], fun q => (List.cons.inj q).2⟩
      | false =>
        have ne : ¬ (m :: t = m' :: t') := fun q => by have := hb'.mpr (List.cons.inj q).1; cases this
        cases fu with
        | zero => omega
        | succ fu =>
          unfold G_X11_areAlike_12
          exact hif (fun _ => aq_0 ne) (fun _ => hT rfl (aq_0 ne))
    unfold G_X11_areAlike_45
    refine hif (fun c => ?_) (fun c => ?_)
    · have hml : m.length = m'.length := (nI_eq (by omega) (by omega)).mp c
      exact al50 (b := true) hL bi bi' hm4 p1 p2 q2 mo_fu 0 (by unfold mo_fu; omega) (Nat.zero_le _) (fun _ => hml) (fun b' hb' => fin b' (hb'.trans ⟨fun q => (ext_getD (z := 0) hml).mpr (fun y hy => q.2 y (Nat.zero_le _) hy), fun q => ⟨rfl, fun y _ _ => by rw [q]⟩⟩))
    · have hml : ¬ m = m' := fun e => c (by rw [e])
      exact al50 (b := false) hL bi bi' hm4 p1 p2 q2 mo_fu 0 (by unfold mo_fu; omega) (Nat.zero_le _) (fun q => by cases q) (fun b' hb' => fin b' ⟨fun q => absurd (hb'.mp q).1 (by decide), fun q => absurd q hml⟩)
/-- one list of messages of a channel in both worlds -/
theorem al_ch {w w' j c : Nat} (hL : ∀ k, 42 ≤ k → s.2.1 (rk k) = rLen k) (h : rM π n w s W.2.2) (h' : rM π n' w' s X.2.2) (hn : n ≤ 3000) (hn' : n' ≤ 3000) (hw : w < 3) (hw' : w' < 3) (hc' : c < π.2.1) (hj : j < 2) (h4 : ∀ m, m ∈ W.2.2 j c → m.length ≤ 4) (h4' : ∀ m, m ∈ X.2.2 j c → m.length ≤ 4) (hl' : (W.2.2 j c).length = (X.2.2 j c).length) : aq (G_X11_areAlike θ (s.1 (rk (72 + 3 * j)) (12 * w + c)) (s.1 (rk (72 + 3 * j)) (12 * w' + c)) (nI (W.2.2 j c).length)) s (W.2.2 j c = X.2.2 j c) := by
  have hcn := rM_cnt h hc'
  obtain ⟨ix, cnt, a1, a2, a3, a4, a5⟩ := h
  obtain ⟨ix', cnt', b1, b2, b3, b4, b5⟩ := h'
  obtain ⟨c1, c2, c3, c4⟩ := a3 c j hc' hj
  obtain ⟨d1, d2, d3, d4⟩ := b3 c j hc' hj
  have hlen : (W.2.2 j c).length ≤ 3000 := by
    have : j = 0 ∨ j = 1 := by omega
    rcases this with rfl | rfl
    · have := hcn.2.2.2.1; omega
    · have := hcn.2.2.2.2; omega
  unfold G_X11_areAlike
  exact al12 hL hlen _ _ _ _ mo_fu 0 _ _ c2 d2 (fun i hi => by have := c1 i hi; omega) (fun i hi => by have := d1 i hi; omega) hl' (by omega) (fun i r e => c4 i r e) (fun i r e => d4 i r e) h4 h4' (by unfold mo_fu; omega)
theorem ru_134 {Q : Int32 → gS → Prop} (h : rT π n 0 bv s0 s W) (h' : rT π n' 2 bv' s0' s X) (hz : ∀ c, c < π.2.1 → psz π c ≤ 4) (hd : d < π.1) : ∀ (fu j : Nat) (b : Bool), 8 - j < fu → j ≤ 8 → (b = true → (W.2.1 0 d).length = (X.2.1 0 d).length) → (∀ b' : Bool, (b' = true ↔ b = true ∧ ∀ k, j ≤ k → k < 8 → W.1 0 d k = X.1 0 d k ∧ (k < (W.2.1 0 d).length → (W.2.1 0 d).getD k 0 = (X.2.1 0 d).getD k 0)) → gh (G_X11_undisturbed_226 θ (nI d) (nI d) (nI (12 + d)) (if b' = true then 1 else 0)) s Q) → gh (G_X11_undisturbed_134 θ fu (nI d) (nI d) (nI (12 + d)) (if b = true then 1 else 0) (nI j)) s Q
  | 0, j, b, h, _, _, _ => by omega
  | fu + 1, j, b, hf, hj, hbl, kk => by
    have ht := h.pl.t1
    unfold G_X11_undisturbed_134 G_X11_undisturbed_217 G_X11_undisturbed_213 G_X11_undisturbed_218
    refine hif (fun c => ?_) (fun c => ?_)
    · have c : 8 ≤ j := (nI_leI (a := 8) (by omega) (by omega)).mp c
      exact kk b ⟨fun q => ⟨q, fun y h1 h2 => by omega⟩, fun q => q.1⟩
    · have c : ¬ 8 ≤ j := fun q => c ((nI_leI (a := 8) (by omega) (by omega)).mpr q)
      rw [nI_1]
      refine hif (fun c0 => ?_) (fun c0 => ?_)
      · have hb0 : b = false := bI.mp c0
        subst hb0
        exact ru_134 h h' hz hd fu (j + 1) false (by omega) (by omega) (fun q => by cases q) (fun b' hb' => kk b' ⟨fun q => absurd (hb'.mp q).1 (by decide), fun q => absurd q.1 (by decide)⟩)
      · have hb1 : b = true := by
          cases b
          · exact absurd rfl c0
          · rfl
        subst hb1
        have hml := hbl rfl
        have no : ¬ (W.1 0 d j = X.1 0 d j ∧ (j < (W.2.1 0 d).length → (W.2.1 0 d).getD j 0 = (X.2.1 0 d).getD j 0)) → gh (G_X11_undisturbed_134 θ fu (nI d) (nI d) (nI (12 + d)) 0 (nI (j + 1))) s Q := fun z => ru_134 h h' hz hd fu (j + 1) false (by omega) (by omega) (fun q => by cases q) (fun b' hb' => kk b' ⟨fun q => absurd (hb'.mp q).1 (by decide), fun q => absurd (q.2 j (Nat.le_refl _) (by omega)) z⟩)
        have yes : (W.1 0 d j = X.1 0 d j ∧ (j < (W.2.1 0 d).length → (W.2.1 0 d).getD j 0 = (X.2.1 0 d).getD j 0)) → gh (G_X11_undisturbed_134 θ fu (nI d) (nI d) (nI (12 + d)) 1 (nI (j + 1))) s Q := fun z => ru_134 h h' hz hd fu (j + 1) true (by omega) (by omega) (fun _ => hml) (fun b' hb' => kk b' (hb'.trans ⟨fun q => ⟨rfl, fun y h1 h2 => by
          by_cases e : y = j
          · rw [e]; exact z
          · exact q.2 y (by omega) h2⟩, fun q => ⟨rfl, fun y h1 h2 => q.2 y (by omega) h2⟩⟩))
        rw [m_8, m_8, nI_add, nI_add]
        refine rt_g0 h hz (j := 0) (i := d) (k := j) ⟨hd, by omega⟩ rfl (by congr 1; omega) ?_
        refine rt_g0 h' hz (j := 0) (i := d) (k := j) ⟨hd, by omega⟩ rfl (by congr 1) ?_
        refine hif (fun c2 => ?_) (fun c2 => no (fun z => c2 z.1))
        refine r_inl h hd (hif (fun c3 => yes ⟨c2, fun z => ?_⟩) (fun c3 => ?_))
        · rw [nI_leI (by have := (h.io d hd).1.1; omega) (by omega)] at c3
          omega
        · sorry
end RV
