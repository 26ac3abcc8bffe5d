/-! WHAT A DOMAIN SEES OF TWO WORLDS: the reference's answer -/
section RV
variable {θ : gT} {π : mP} {n n' N : Nat} {bv bv' : Int32} {s s0 s0' : gS} {W X : mW} {d : Nat} {P : Prop}
theorem bI {b : Bool} : ((if b = true then (1 : Int32) else 0) = 0) ↔ b = false := by
  cases b <;> decide
theorem al50 (hL : ∀ k, 42 ≤ k → s.2.1 (rk k) = rLen k) {i i' : Nat} {m m' : List Int32} (hi : i < 9000) (hi' : i' < 9000) (h4 : m.length ≤ 4) (e0 : s.1 (rk 84) i = nI m.length) (e1 : ∀ y, y < m.length → s.1 (rk 85) (4 * i + y) = m.getD y 0) (e1' : ∀ y, y < m'.length → s.1 (rk 85) (4 * i' + y) = m'.getD y 0) {k12 : Int32 → Int32 → Int32 → Int32 → Int32 → gM Int32} {x3 x7 : Int32} : ∀ (fu j : Nat) (b : Bool), m.length - j < fu → j ≤ m.length → (b = true → m.length = m'.length) → (∀ b' : Bool, (b' = true ↔ b = true ∧ ∀ y, j ≤ y → y < m.length → m.getD y 0 = m'.getD y 0) → aq (G_X11_areAlike_107 θ k12 x3 (nI i) (nI i') (if b' = true then 1 else 0) x7) s P) → aq (G_X11_areAlike_50 θ k12 fu x3 (nI i) (nI i') (if b = true then 1 else 0) x7 (nI j)) s P
  | 0, j, b, h, _, _, _ => by omega
  | fu + 1, j, b, hf, hj, hbl, kk => by
    unfold G_X11_areAlike_50 G_X11_areAlike_98 G_X11_areAlike_99
    refine hlr (i := i) rfl (hL 84 (by omega)) (by show _ < 9000; omega) e0 ?_
    refine hif (fun c => ?_) (fun c => ?_)
    · rw [nI_leI (by omega) (by omega)] at c
      exact kk b ⟨fun q => ⟨q, fun y h1 h2 => by omega⟩, fun q => q.1⟩
    · rw [nI_leI (by omega) (by omega)] at c
      rw [nI_1]
      refine hif (fun c0 => ?_) (fun c0 => ?_)
      · have hb0 : b = false := bI.mp c0
        subst hb0
        exact al50 hL hi hi' h4 e0 e1 e1' fu (j + 1) false (by omega) (by omega) (fun q => by cases q) (fun b' hb' => kk b' ⟨fun q => absurd (hb'.mp q).1 (by decide), fun q => absurd q.1 (by decide)⟩)
      · have hb1 : b = true := by
          cases b
          · exact absurd rfl c0
          · rfl
        subst hb1
        have hml := hbl rfl
        rw [m_4, m_4, nI_add, nI_add]
        refine hlr (i := 4 * i + j) rfl (hL 85 (by omega)) (by show _ < 36000; omega) (e1 j (by omega)) ?_
        refine hlr (i := 4 * i' + j) rfl (hL 85 (by omega)) (by show _ < 36000; omega) (e1' j (by omega)) ?_
        refine hif (fun c2 => ?_) (fun c2 => ?_)
        · exact al50 hL hi hi' h4 e0 e1 e1' fu (j + 1) true (by omega) (by omega) (fun _ => hml) (fun b' hb' => kk b' (hb'.trans ⟨fun q => ⟨rfl, fun y h1 h2 => by
            by_cases e : y = j
            · rw [e]; exact c2
            · exact q.2 y (by omega) h2⟩, fun q => ⟨rfl, fun y h1 h2 => q.2 y (by omega) h2⟩⟩))
        · exact al50 hL hi hi' h4 e0 e1 e1' fu (j + 1) false (by omega) (by omega) (fun q => by cases q) (fun b' hb' => kk b' ⟨fun q => absurd (hb'.mp q).1 (by decide), fun q => absurd (q.2 j (Nat.le_refl _) (by omega)) c2⟩)
theorem al12 (hL : ∀ k, 42 ≤ k → s.2.1 (rk k) = rLen k) (hN : N ≤ 3000) : ∀ (l l' : List (List Int32)) (ix ix' : List Nat) (fu j : Nat) (x4 x5 : Int32), rCh s ix l → rCh s ix' l' → (∀ i, i ∈ ix → i < 9000) → (∀ i, i ∈ ix' → i < 9000) → l.length = l'.length → j + l.length = N → (∀ i r, ix = i :: r → x4 = nI i) → (∀ i r, ix' = i :: r → x5 = nI i) → (∀ m, m ∈ l → m.length ≤ 4) → (∀ m, m ∈ l' → m.length ≤ 4) → l.length < fu → aq (G_X11_areAlike_12 θ fu (nI N) x4 x5 1 (nI j)) s (l = l')
  | _, _, _, _, 0, _, _, _, _, _, _, _, _, _, _, _, _, _, h => by omega
  | [], l', ix, ix', fu + 1, j, x4, x5, _, _, _, _, hl', hj, _, _, _, _, _ => by
    unfold G_X11_areAlike_12
    have hj' : j + 0 = N := hj
    refine hT ((nI_leI (by omega) (by omega)).mpr (by omega)) (aq_1 ?_)
    exact (List.length_eq_zero_iff.mp hl'.symm).symm
  | m :: t, l', ix, ix', fu + 1, j, x4, x5, h1, h2, b1, b2, hl', hj, g4, g5, h4, h4', hf => by
    have hlen : (m :: t).length = t.length + 1 := rfl
    rw [hlen] at hl' hj hf
    cases l' with
    | nil => cases hl'
    | cons m' t' =>
    have hl2 : t.length = t'.length := by
      have : (m' :: t').length = t'.length + 1 := rfl
      omega
    cases ix with
    | nil => exact h1.elim
    | cons i r =>
    cases ix' with
    | nil => exact h2.elim
    | cons i' r' =>
    obtain ⟨⟨p1, p2⟩, p3, p4⟩ := h1
    obtain ⟨⟨q1, q2⟩, q3, q4⟩ := h2
    have bi := b1 i (List.mem_cons_self ..)
    have bi' := b2 i' (List.mem_cons_self ..)
    have hm4 := h4 m (List.mem_cons_self ..)
    have hm4' := h4' m' (List.mem_cons_self ..)
    rw [g4 i r rfl, g5 i' r' rfl]
    unfold G_X11_areAlike_12
    refine hF (fun q => absurd ((nI_leI (by omega) (by omega)).mp q) (by omega)) (hF (by decide) ?_)
    refine hlr (i := i) rfl (hL 84 (by omega)) (by show _ < 9000; omega) p1 ?_
    refine hlr (i := i') rfl (hL 84 (by omega)) (by show _ < 9000; omega) q1 ?_
    have fin : ∀ b' : Bool, (b' = true ↔ m = m') → aq (G_X11_areAlike_107 θ (G_X11_areAlike_12 θ fu) (nI N) (nI i) (nI i') (if b' = true then 1 else 0) (nI j)) s (m :: t = m' :: t') := fun b' hb' => by
      unfold G_X11_areAlike_107
      refine hlr (i := i) rfl (hL 83 (by omega)) (by show _ < 9000; omega) rfl ?_
      refine hlr (i := i') rfl (hL 83 (by omega)) (by show _ < 9000; omega) rfl ?_
      rw [nI_1]
      cases b' with
      | true =>
        have em := hb'.mp rfl
        refine aq.iff (al12 hL hN t t' r r' fu (j + 1) _ _ p4 q4 (fun y hy => b1 y (List.mem_cons_of_mem _ hy)) (fun y hy => b2 y (List.mem_cons_of_mem _ hy)) hl2 (by omega) (fun y z e => p3 y z e) (fun y z e => q3 y z e) (fun y hy => h4 y (List.mem_cons_of_mem _ hy)) (fun y hy => h4' y (List.mem_cons_of_mem _ hy)) (by omega)) ⟨fun q => by rw [em, q], fun q => (List.cons.inj q).2⟩
      | false =>
        have ne : ¬ (m :: t = m' :: t') := fun q => by have := hb'.mpr (List.cons.inj q).1; cases this
        cases fu with
        | zero => omega
        | succ fu =>
          unfold G_X11_areAlike_12
          exact hif (fun _ => aq_0 ne) (fun _ => hT rfl (aq_0 ne))
    unfold G_X11_areAlike_45
    refine hif (fun c => ?_) (fun c => ?_)
    · have hml : m.length = m'.length := (nI_eq (by omega) (by omega)).mp c
      exact al50 (b := true) hL bi bi' hm4 p1 p2 q2 mo_fu 0 (by unfold mo_fu; omega) (Nat.zero_le _) (fun _ => hml) (fun b' hb' => fin b' (hb'.trans ⟨fun q => (ext_getD (z := 0) hml).mpr (fun y hy => q.2 y (Nat.zero_le _) hy), fun q => ⟨rfl, fun y _ _ => by rw [q]⟩⟩))
    · have hml : ¬ m = m' := fun e => c (by rw [e])
      exact al50 (b := false) hL bi bi' hm4 p1 p2 q2 mo_fu 0 (by unfold mo_fu; omega) (Nat.zero_le _) (fun q => by cases q) (fun b' hb' => fin b' ⟨fun q => absurd (hb'.mp q).1 (by decide), fun q => absurd q hml⟩)
/-- one list of messages of a channel in both worlds -/
theorem al_ch {w w' j c : Nat} (hL : ∀ k, 42 ≤ k → s.2.1 (rk k) = rLen k) (h : rM π n w s W.2.2) (h' : rM π n' w' s X.2.2) (hn : n ≤ 3000) (hn' : n' ≤ 3000) (hw : w < 3) (hw' : w' < 3) (hc' : c < π.2.1) (hj : j < 2) (h4 : ∀ m, m ∈ W.2.2 j c → m.length ≤ 4) (h4' : ∀ m, m ∈ X.2.2 j c → m.length ≤ 4) (hl' : (W.2.2 j c).length = (X.2.2 j c).length) : aq (G_X11_areAlike θ (s.1 (rk (72 + 3 * j)) (12 * w + c)) (s.1 (rk (72 + 3 * j)) (12 * w' + c)) (nI (W.2.2 j c).length)) s (W.2.2 j c = X.2.2 j c) := by
  have hcn := rM_cnt h hc'
  obtain ⟨ix, cnt, a1, a2, a3, a4, a5⟩ := h
  obtain ⟨ix', cnt', b1, b2, b3, b4, b5⟩ := h'
  obtain ⟨c1, c2, c3, c4⟩ := a3 c j hc' hj
  obtain ⟨d1, d2, d3, d4⟩ := b3 c j hc' hj
  have hlen : (W.2.2 j c).length ≤ 3000 := by
    have : j = 0 ∨ j = 1 := by omega
    rcases this with rfl | rfl
    · have := hcn.2.2.2.1; omega
    · have := hcn.2.2.2.2; omega
  unfold G_X11_areAlike
  exact al12 hL hlen _ _ _ _ mo_fu 0 _ _ c2 d2 (fun i hi => by have := c1 i hi; omega) (fun i hi => by have := d1 i hi; omega) hl' (by omega) (fun i r e => c4 i r e) (fun i r e => d4 i r e) h4 h4' (by unfold mo_fu; omega)
theorem ru_134 {Q : Int32 → gS → Prop} (h : rT π n 0 bv s0 s W) (h' : rT π n' 2 bv' s0' s X) (hz : ∀ c, c < π.2.1 → psz π c ≤ 4) (hd : d < π.1) (hi8 : (W.2.1 0 d).length ≤ 8) : ∀ (fu j : Nat) (b : Bool), 8 - j < fu → j ≤ 8 → (b = true → (W.2.1 0 d).length = (X.2.1 0 d).length) → (∀ b' : Bool, (b' = true ↔ b = true ∧ ∀ k, j ≤ k → k < 8 → W.1 0 d k = X.1 0 d k ∧ (k < (W.2.1 0 d).length → (W.2.1 0 d).getD k 0 = (X.2.1 0 d).getD k 0)) → gh (G_X11_undisturbed_226 θ (nI d) (nI d) (nI (12 + d)) (if b' = true then 1 else 0)) s Q) → gh (G_X11_undisturbed_134 θ fu (nI d) (nI d) (nI (12 + d)) (if b = true then 1 else 0) (nI j)) s Q
  | 0, j, b, h, _, _, _ => by omega
  | fu + 1, j, b, hf, hj, hbl, kk => by
    have ht := h.pl.t1
    unfold G_X11_undisturbed_134 G_X11_undisturbed_217 G_X11_undisturbed_213 G_X11_undisturbed_218
    refine hif (fun c => ?_) (fun c => ?_)
    · have c : 8 ≤ j := (nI_leI (a := 8) (by omega) (by omega)).mp c
      exact kk b ⟨fun q => ⟨q, fun y h1 h2 => by omega⟩, fun q => q.1⟩
    · have c : ¬ 8 ≤ j := fun q => c ((nI_leI (a := 8) (by omega) (by omega)).mpr q)
      rw [nI_1]
      refine hif (fun c0 => ?_) (fun c0 => ?_)
      · have hb0 : b = false := bI.mp c0
        subst hb0
        exact ru_134 h h' hz hd hi8 fu (j + 1) false (by omega) (by omega) (fun q => by cases q) (fun b' hb' => kk b' ⟨fun q => absurd (hb'.mp q).1 (by decide), fun q => absurd q.1 (by decide)⟩)
      · have hb1 : b = true := by
          cases b
          · exact absurd rfl c0
          · rfl
        subst hb1
        have hml := hbl rfl
        have no : ¬ (W.1 0 d j = X.1 0 d j ∧ (j < (W.2.1 0 d).length → (W.2.1 0 d).getD j 0 = (X.2.1 0 d).getD j 0)) → gh (G_X11_undisturbed_134 θ fu (nI d) (nI d) (nI (12 + d)) 0 (nI (j + 1))) s Q := fun z => ru_134 h h' hz hd hi8 fu (j + 1) false (by omega) (by omega) (fun q => by cases q) (fun b' hb' => kk b' ⟨fun q => absurd (hb'.mp q).1 (by decide), fun q => absurd (q.2 j (Nat.le_refl _) (by omega)) z⟩)
        have yes : (W.1 0 d j = X.1 0 d j ∧ (j < (W.2.1 0 d).length → (W.2.1 0 d).getD j 0 = (X.2.1 0 d).getD j 0)) → gh (G_X11_undisturbed_134 θ fu (nI d) (nI d) (nI (12 + d)) 1 (nI (j + 1))) s Q := fun z => ru_134 h h' hz hd hi8 fu (j + 1) true (by omega) (by omega) (fun _ => hml) (fun b' hb' => kk b' (hb'.trans ⟨fun q => ⟨rfl, fun y h1 h2 => by
          by_cases e : y = j
          · rw [e]; exact z
          · exact q.2 y (by omega) h2⟩, fun q => ⟨rfl, fun y h1 h2 => q.2 y (by omega) h2⟩⟩))
        rw [m_8, m_8, nI_add, nI_add]
        refine rt_g0 h hz (j := 0) (i := d) (k := j) ⟨hd, by omega⟩ rfl (by congr 1; omega) ?_
        refine rt_g0 h' hz (j := 0) (i := d) (k := j) ⟨hd, by omega⟩ rfl (by congr 1) ?_
        refine hif (fun c2 => ?_) (fun c2 => no (fun z => c2 z.1))
        refine r_inl h hd (hif (fun c3 => yes ⟨c2, fun z => ?_⟩) (fun c3 => ?_))
        · rw [nI_leI (by omega) (by omega)] at c3
          omega
        · rw [nI_leI (by omega) (by omega)] at c3
          refine hlr (i := 8 * (6 * 0 + d) + j) (by congr 1; omega) (h.ln 65 (by omega)) (by show _ < 144; omega) ((h.io d hd).1.2 j (by omega)) ?_
          refine hlr (i := 8 * (6 * 2 + d) + j) rfl (h.ln 65 (by omega)) (by show _ < 144; omega) ((h'.io d hd).1.2 j (by omega)) ?_
          exact hif (fun c4 => yes ⟨c2, fun _ => c4⟩) (fun c4 => no (fun z => c4 (z.2 (by omega))))
theorem ru_229 {Q : Int32 → gS → Prop} (h : rT π n 0 bv s0 s W) (h' : rT π n' 2 bv' s0' s X) (hz : ∀ c, c < π.2.1 → psz π c ≤ 4) (hd : d < π.1) : ∀ (fu j : Nat) (b : Bool), 32 - j < fu → j ≤ 32 → (∀ b' : Bool, (b' = true ↔ b = true ∧ ∀ k, j ≤ k → k < 32 → W.1 1 d k = X.1 1 d k) → gh (G_X11_undisturbed_282 θ (nI d) (nI d) (nI (12 + d)) (if b' = true then 1 else 0)) s Q) → gh (G_X11_undisturbed_229 θ fu (nI d) (nI d) (nI (12 + d)) (if b = true then 1 else 0) (nI j)) s Q
  | 0, j, b, h, _, _ => by omega
  | fu + 1, j, b, hf, hj, kk => by
    have ht := h.pl.t1
    unfold G_X11_undisturbed_229 G_X11_undisturbed_273 G_X11_undisturbed_274
    refine hif (fun c => ?_) (fun c => ?_)
    · have c : 32 ≤ j := (nI_leI (a := 32) (by omega) (by omega)).mp c
      exact kk b ⟨fun q => ⟨q, fun y h1 h2 => by omega⟩, fun q => q.1⟩
    · have c : ¬ 32 ≤ j := fun q => c ((nI_leI (a := 32) (by omega) (by omega)).mpr q)
      rw [nI_1]
      refine hif (fun c0 => ?_) (fun c0 => ?_)
      · have hb0 : b = false := bI.mp c0
        subst hb0
        exact ru_229 h h' hz hd fu (j + 1) false (by omega) (by omega) (fun b' hb' => kk b' ⟨fun q => absurd (hb'.mp q).1 (by decide), fun q => absurd q.1 (by decide)⟩)
      · have hb1 : b = true := by
          cases b
          · exact absurd rfl c0
          · rfl
        subst hb1
        rw [m_32, m_32, nI_add, nI_add]
        refine rt_g0 h hz (j := 1) (i := d) (k := j) ⟨hd, by omega⟩ rfl (by congr 1; omega) ?_
        refine rt_g0 h' hz (j := 1) (i := d) (k := j) ⟨hd, by omega⟩ rfl (by congr 1) ?_
        refine hif (fun z => ?_) (fun z => ?_)
        · exact ru_229 h h' hz hd fu (j + 1) true (by omega) (by omega) (fun b' hb' => kk b' (hb'.trans ⟨fun q => ⟨rfl, fun y h1 h2 => by
            by_cases e : y = j
            · rw [e]; exact z
            · exact q.2 y (by omega) h2⟩, fun q => ⟨rfl, fun y h1 h2 => q.2 y (by omega) h2⟩⟩))
        · exact ru_229 h h' hz hd fu (j + 1) false (by omega) (by omega) (fun b' hb' => kk b' ⟨fun q => absurd (hb'.mp q).1 (by decide), fun q => absurd (q.2 j (Nat.le_refl _) (by omega)) z⟩)
theorem ru_285 {Q : Int32 → gS → Prop} (h : rT π n 0 bv s0 s W) (h' : rT π n' 2 bv' s0' s X) (hd : d < π.1) (hi2 : (W.2.1 1 d).length ≤ 200) : ∀ (fu j : Nat) (b : Bool), (W.2.1 1 d).length - j < fu → j ≤ (W.2.1 1 d).length → (b = true → (W.2.1 1 d).length = (X.2.1 1 d).length) → (∀ b' : Bool, (b' = true ↔ b = true ∧ ∀ k, j ≤ k → k < (W.2.1 1 d).length → (W.2.1 1 d).getD k 0 = (X.2.1 1 d).getD k 0) → gh (G_X11_undisturbed_344 θ (nI d) (if b' = true then 1 else 0)) s Q) → gh (G_X11_undisturbed_285 θ fu (nI d) (nI d) (nI (12 + d)) (if b = true then 1 else 0) (nI j)) s Q
  | 0, j, b, h, _, _, _ => by omega
  | fu + 1, j, b, hf, hj, hbl, kk => by
    have ht := h.pl.t1
    unfold G_X11_undisturbed_285 G_X11_undisturbed_335 G_X11_undisturbed_336
    refine hlr (i := 6 * 0 + d) (by rw [← nI00]) (h.ln 68 (by omega)) (by show _ < 18; omega) (h.io d hd).2.1 ?_
    refine hif (fun c => ?_) (fun c => ?_)
    · rw [nI_leI (by omega) (by omega)] at c
      exact kk b ⟨fun q => ⟨q, fun y h1 h2 => by omega⟩, fun q => q.1⟩
    · rw [nI_leI (by omega) (by omega)] at c
      rw [nI_1]
      refine hif (fun c0 => ?_) (fun c0 => ?_)
      · have hb0 : b = false := bI.mp c0
        subst hb0
        exact ru_285 h h' hd hi2 fu (j + 1) false (by omega) (by omega) (fun q => by cases q) (fun b' hb' => kk b' ⟨fun q => absurd (hb'.mp q).1 (by decide), fun q => absurd q.1 (by decide)⟩)
      · have hb1 : b = true := by
          cases b
          · exact absurd rfl c0
          · rfl
        subst hb1
        have hml := hbl rfl
        rw [m_200, m_200, nI_add, nI_add]
        refine hlr (i := 200 * (6 * 0 + d) + j) (by congr 1; omega) (h.ln 67 (by omega)) (by show _ < 3600; omega) ((h.io d hd).2.2 j (by omega)) ?_
        refine hlr (i := 200 * (6 * 2 + d) + j) rfl (h.ln 67 (by omega)) (by show _ < 3600; omega) ((h'.io d hd).2.2 j (by omega)) ?_
        refine hif (fun z => ?_) (fun z => ?_)
        · exact ru_285 h h' hd hi2 fu (j + 1) true (by omega) (by omega) (fun _ => hml) (fun b' hb' => kk b' (hb'.trans ⟨fun q => ⟨rfl, fun y h1 h2 => by
            by_cases e : y = j
            · rw [e]; exact z
            · exact q.2 y (by omega) h2⟩, fun q => ⟨rfl, fun y h1 h2 => q.2 y (by omega) h2⟩⟩))
        · exact ru_285 h h' hd hi2 fu (j + 1) false (by omega) (by omega) (fun q => by cases q) (fun b' hb' => kk b' ⟨fun q => absurd (hb'.mp q).1 (by decide), fun q => absurd (q.2 j (Nat.le_refl _) (by omega)) z⟩)
/-- what the boards show -/
theorem ru_500 {Q : Int32 → gS → Prop} {c : Nat} (h : rT π n 0 bv s0 s W) (h' : rT π n' 2 bv' s0' s X) (hz : ∀ c, c < π.2.1 → psz π c ≤ 4) (hc' : c < π.2.1) {k347 : Int32 → Int32 → Int32 → gM Int32} : ∀ (fu j : Nat) (b : Bool), 4 - j < fu → j ≤ 4 → (∀ b' : Bool, (b' = true ↔ b = true ∧ ∀ k, j ≤ k → k < psz π c → W.1 4 c k = X.1 4 c k) → gh (k347 (nI d) (if b' = true then 1 else 0) (nI (c + 1))) s Q) → gh (G_X11_undisturbed_500 θ k347 fu (nI d) (if b = true then 1 else 0) (nI c) (nI c) (nI (24 + c)) (nI j)) s Q
  | 0, j, b, h, _, _ => by omega
  | fu + 1, j, b, hf, hj, kk => by
    have ht := h.pl.t1
    have hzc := hz c hc'
    unfold G_X11_undisturbed_500 G_X11_undisturbed_542 G_X11_undisturbed_543 G_X11_undisturbed_551
    refine hif (fun q => ?_) (fun q => ?_)
    · have q : 4 ≤ j := (nI_leI (a := 4) (by omega) (by omega)).mp q
      rw [nI_1]
      exact kk b ⟨fun q => ⟨q, fun y h1 h2 => by omega⟩, fun q => q.1⟩
    · have q : ¬ 4 ≤ j := fun z => q ((nI_leI (a := 4) (by omega) (by omega)).mpr z)
      rw [nI_1]
      refine hif (fun c0 => ?_) (fun c0 => ?_)
      · have hb0 : b = false := bI.mp c0
        subst hb0
        exact ru_500 h h' hz hc' fu (j + 1) false (by omega) (by omega) (fun b' hb' => kk b' ⟨fun q => absurd (hb'.mp q).1 (by decide), fun q => absurd q.1 (by decide)⟩)
      · have hb1 : b = true := by
          cases b
          · exact absurd rfl c0
          · rfl
        subst hb1
        have yes : (j < psz π c → W.1 4 c j = X.1 4 c j) → gh (G_X11_undisturbed_500 θ k347 fu (nI d) 1 (nI c) (nI c) (nI (24 + c)) (nI (j + 1))) s Q := fun z => ru_500 h h' hz hc' fu (j + 1) true (by omega) (by omega) (fun b' hb' => kk b' (hb'.trans ⟨fun q => ⟨rfl, fun y h1 h2 => by
            by_cases e : y = j
            · rw [e] at h2 ⊢; exact z h2
            · exact q.2 y (by omega) h2⟩, fun q => ⟨rfl, fun y h1 h2 => q.2 y (by omega) h2⟩⟩))
        rw [m_4, m_4, nI_add, nI_add]
        by_cases hj4 : j < psz π c
        · refine rt_g0 h hz (j := 4) (i := c) (k := j) ⟨hc', hj4⟩ rfl (by congr 1; omega) ?_
          refine rt_g0 h' hz (j := 4) (i := c) (k := j) ⟨hc', hj4⟩ rfl (by congr 1) ?_
          refine hif (fun z => yes (fun _ => z)) (fun z => ?_)
          exact ru_500 h h' hz hc' fu (j + 1) false (by omega) (by omega) (fun b' hb' => kk b' ⟨fun q => absurd (hb'.mp q).1 (by decide), fun q => absurd (q.2 j (Nat.le_refl _) hj4) z⟩)
        · refine hlr (i := 4 * (12 * 0 + c) + j) (by congr 1; omega) (h.ln 80 (by omega)) (by show _ < 144; omega) (h.sh c j hc' (by omega) (by omega)) ?_
          refine hlr (i := 4 * (12 * 2 + c) + j) rfl (h.ln 80 (by omega)) (by show _ < 144; omega) (h'.sh c j hc' (by omega) (by omega)) ?_
          exact hT rfl (yes (fun z => absurd z hj4))
theorem ru_347 (h : rT π n 0 bv s0 s W) (h' : rT π n' 2 bv' s0' s X) (hQ : mQ π) (hn : n ≤ 3000) (hn' : n' ≤ 3000) (m4 : ∀ c j, c < π.2.1 → j < 2 → ∀ m, m ∈ W.2.2 j c → m.length ≤ 4) (m4' : ∀ c j, c < π.2.1 → j < 2 → ∀ m, m ∈ X.2.2 j c → m.length ≤ 4) : ∀ (fu j : Nat) (b : Bool), π.2.1 - j < fu → j ≤ π.2.1 → gh (G_X11_undisturbed_347 θ fu (nI d) (if b = true then 1 else 0) (nI j)) s (fun r s' => s' = s ∧ ((r = 1 ∧ b = true ∧ ∀ c, j ≤ c → c < π.2.1 → plk π c 1 = nI d → chSm π W X c) ∨ (r = 0 ∧ ¬ (b = true ∧ ∀ c, j ≤ c → c < π.2.1 → plk π c 1 = nI d → chSm π W X c))))
  | 0, j, b, h, _ => by omega
  | fu + 1, j, b, hf, hj => by
    have ht := h.pl.t1
    have hz : ∀ c, c < π.2.1 → psz π c ≤ 4 := fun c hc => (hQ.lk c hc).2.1
    unfold G_X11_undisturbed_347
    refine hg h.pl.nc ?_
    refine hif (fun c => ?_) (fun c => ?_)
    · rw [nI_leI (by omega) (by omega)] at c
      unfold G_X11_undisturbed_557
      refine hif (fun c0 => hr ⟨rfl, Or.inr ⟨rfl, fun q => ?_⟩⟩) (fun c0 => hr ⟨rfl, Or.inl ⟨rfl, ?_, fun y h1 h2 => by omega⟩⟩)
      · rw [bI.mp c0] at q; exact absurd q.1 (by decide)
      · cases b
        · exact absurd rfl c0
        · rfl
    · rw [nI_leI (by omega) (by omega)] at c
      refine hif (fun c0 => ?_) (fun c0 => ?_)
      · unfold G_X11_undisturbed_557
        refine hT c0 (hr ⟨rfl, Or.inr ⟨rfl, fun q => ?_⟩⟩)
        rw [bI.mp c0] at q; exact absurd q.1 (by decide)
      · have hb1 : b = true := by
          cases b
          · exact absurd rfl c0
          · rfl
        subst hb1
        have nxt : ∀ b' : Bool, (b' = true ↔ (plk π j 1 = nI d → chSm π W X j)) → gh (G_X11_undisturbed_347 θ fu (nI d) (if b' = true then 1 else 0) (nI (j + 1))) s (fun r s' => s' = s ∧ ((r = 1 ∧ true = true ∧ ∀ c, j ≤ c → c < π.2.1 → plk π c 1 = nI d → chSm π W X c) ∨ (r = 0 ∧ ¬ (true = true ∧ ∀ c, j ≤ c → c < π.2.1 → plk π c 1 = nI d → chSm π W X c)))) := fun b' hb' => by
          refine hm2 (ru_347 h h' hQ hn hn' m4 m4' fu (j + 1) b' (by omega) (by omega)) (fun r s' q => ⟨q.1, q.2.elim (fun q => Or.inl ⟨q.1, rfl, fun y h1 h2 h3 => ?_⟩) (fun q => Or.inr ⟨q.1, fun z => q.2 ⟨hb'.mpr (fun e => z.2 j (Nat.le_refl _) (by omega) e), fun y h1 h2 h3 => z.2 y (by omega) h2 h3⟩⟩)⟩)
          by_cases e : y = j
          · rw [e] at h3 ⊢; exact hb'.mp q.2.1 h3
          · exact q.2.2 y (by omega) h2 h3
        refine hlr (i := j) rfl (h.ln 46 (by omega)) (by show _ < 12; omega) (h.pl.lk j 1 (by omega) (by omega)) ?_
        refine hif (fun e => ?_) (fun e => ?_)
        · have hcn := rM_cnt h.ms (c := j) (by omega)
          have hcn' := rM_cnt h'.ms (c := j) (by omega)
          have e24 : (24 : Int32) + nI j = nI (24 + j) := nI_add 24 j
          rw [e24]
          have no : ¬ (W.2.2 0 j = X.2.2 0 j ∧ W.2.2 1 j = X.2.2 1 j ∧ mage W j = mage X j) → gh (G_X11_undisturbed_494 θ (G_X11_undisturbed_347 θ fu) (nI d) (nI j) (nI j) (nI (24 + j))) s (fun r s' => s' = s ∧ ((r = 1 ∧ true = true ∧ ∀ c, j ≤ c → c < π.2.1 → plk π c 1 = nI d → chSm π W X c) ∨ (r = 0 ∧ ¬ (true = true ∧ ∀ c, j ≤ c → c < π.2.1 → plk π c 1 = nI d → chSm π W X c)))) := fun z => by
            unfold G_X11_undisturbed_494 G_X11_undisturbed_495
            refine ru_500 (c := j) h h' hz (by omega) mo_fu 0 false (by unfold mo_fu; omega) (Nat.zero_le _) (fun b' hb' => nxt b' ⟨fun q => absurd (hb'.mp q).1 (by decide), fun q => absurd ⟨(q e).1, (q e).2.1, (q e).2.2.2⟩ z⟩)
          refine hlr (i := 12 * 0 + j) (by congr 1; omega) (h.ln 74 (by omega)) (by show _ < 36; omega) hcn.2.1 ?_
          refine hlr (i := 12 * 2 + j) rfl (h.ln 74 (by omega)) (by show _ < 36; omega) hcn'.2.1 ?_
          refine hif (fun l0 => ?_) (fun l0 => no (fun z => l0 (by rw [z.1])))
          have l0' : (W.2.2 0 j).length = (X.2.2 0 j).length := (nI_eq (by omega) (by omega)).mp l0
          refine hlr (i := 12 * 0 + j) (by congr 1; omega) (h.ln 77 (by omega)) (by show _ < 36; omega) hcn.2.2.1 ?_
          refine hlr (i := 12 * 2 + j) rfl (h.ln 77 (by omega)) (by show _ < 36; omega) hcn'.2.2.1 ?_
          refine hif (fun l1 => ?_) (fun l1 => no (fun z => l1 (by rw [z.2.1])))
          have l1' : (W.2.2 1 j).length = (X.2.2 1 j).length := (nI_eq (by omega) (by omega)).mp l1
          refine hlr (i := 12 * 0 + j) (by congr 1; omega) (h.ln 72 (by omega)) (by show _ < 36; omega) rfl ?_
          refine hlr (i := 12 * 2 + j) rfl (h.ln 72 (by omega)) (by show _ < 36; omega) rfl ?_
          refine hlr (i := 12 * 0 + j) (by congr 1; omega) (h.ln 74 (by omega)) (by show _ < 36; omega) hcn.2.1 ?_
          refine hc (al_ch (j := 0) h.ln h.ms h'.ms hn hn' (by omega) (by omega) (c := j) (by omega) (by omega) (m4 j 0 (by omega) (by omega)) (m4' j 0 (by omega) (by omega)) l0') (fun r s' q => ?_)
          obtain ⟨rfl, q⟩ := q
          rcases q with ⟨rfl, q0⟩ | ⟨rfl, q0⟩
          · refine hF (by decide) ?_
            refine hlr (i := 12 * 0 + j) (by congr 1; omega) (h.ln 75 (by omega)) (by show _ < 36; omega) rfl ?_
            refine hlr (i := 12 * 2 + j) rfl (h.ln 75 (by omega)) (by show _ < 36; omega) rfl ?_
            refine hlr (i := 12 * 0 + j) (by congr 1; omega) (h.ln 77 (by omega)) (by show _ < 36; omega) hcn.2.2.1 ?_
            refine hc (al_ch (j := 1) h.ln h.ms h'.ms hn hn' (by omega) (by omega) (c := j) (by omega) (by omega) (m4 j 1 (by omega) (by omega)) (m4' j 1 (by omega) (by omega)) l1') (fun r s' q => ?_)
            obtain ⟨rfl, q⟩ := q
            rcases q with ⟨rfl, q1⟩ | ⟨rfl, q1⟩
            · refine hF (by decide) ?_
              have a1 : G_X11_ageOf θ (0 : Int32) (nI j) s' = some (mage W j, s') := by
                have := e_ageR (θ := θ) h hQ (c := j) (by omega)
                rw [show 12 * 0 + j = j by omega] at this
                exact this
              have a2 : G_X11_ageOf θ (2 : Int32) (nI (24 + j)) s' = some (mage X j, s') := e_ageR (θ := θ) h' hQ (c := j) (by omega)
              refine hb a1 (hb a2 (hif (fun q2 => ?_) (fun q2 => no (fun z => q2 z.2.2))))
              unfold G_X11_undisturbed_495
              exact ru_500 (c := j) h h' hz (by omega) mo_fu 0 true (by unfold mo_fu; omega) (Nat.zero_le _) (fun b' hb' => nxt b' (hb'.trans ⟨fun q _ => ⟨q0, q1, fun k hk => q.2 k (Nat.zero_le _) hk, q2⟩, fun q => ⟨rfl, fun k _ hk => (q e).2.2.1 k hk⟩⟩))
            · exact hT rfl (no (fun z => q1 z.2.1))
          · exact hT rfl (no (fun z => q0 z.1))
        · unfold G_X11_undisturbed_551
          rw [nI_1]
          exact nxt true ⟨fun _ q => absurd q e, fun _ => rfl⟩
end RV
