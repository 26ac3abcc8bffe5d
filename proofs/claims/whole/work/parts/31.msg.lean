/-! messages -/
theorem gPl_mem {w i : Nat} (hw : w < 3) (hi : i < 12) : (w, i) ∈ gPl := by
  unfold gPl
  rw [List.mem_flatMap]
  exact ⟨w, List.mem_range.mpr hw, List.mem_map.mpr ⟨i, List.mem_range.mpr hi, rfl⟩⟩
theorem gGL_mem {k w i : Nat} (hk : k ∈ [7, 11, 14, 23, 25, 28, 30]) (hw : w < 3) (hi : i < 12) : pk k w i ∈ gGL := by
  unfold gGL
  refine List.mem_append.mpr (Or.inl ?_)
  rw [List.mem_flatMap]
  exact ⟨k, hk, List.mem_map.mpr ⟨(w, i), gPl_mem hw hi, rfl⟩⟩
theorem gsum_app (f : gK → Nat) : ∀ a b : List gK, gsum f (a ++ b) = gsum f a + gsum f b
  | [], b => by show _ = 0 + _; rw [Nat.zero_add]; rfl
  | q :: a, b => by
    show f q + gsum f (a ++ b) = f q + gsum f a + gsum f b
    rw [gsum_app f a b]; omega
theorem gsum_cg {f g : gK → Nat} : ∀ l : List gK, (∀ q, q ∈ l → f q = g q) → gsum f l = gsum g l
  | [], _ => rfl
  | q :: l, h => by
    show f q + gsum f l = g q + gsum g l
    rw [h q (List.mem_cons_self ..), gsum_cg l (fun q hq => h q (List.mem_cons_of_mem _ hq))]
theorem gsum_two {f g : gK → Nat} (h : ∀ w i, f (pk 28 w i) + f (pk 30 w i) = g (pk 28 w i) + g (pk 30 w i)) : ∀ P : List (Nat × Nat), gsum f (P.map fun p => pk 28 p.1 p.2) + gsum f (P.map fun p => pk 30 p.1 p.2) = gsum g (P.map fun p => pk 28 p.1 p.2) + gsum g (P.map fun p => pk 30 p.1 p.2)
  | [] => rfl
  | p :: P => by
    have i := gsum_two h P
    have := h p.1 p.2
    show f (pk 28 p.1 p.2) + gsum f (P.map fun p => pk 28 p.1 p.2) + (f (pk 30 p.1 p.2) + gsum f (P.map fun p => pk 30 p.1 p.2)) = g (pk 28 p.1 p.2) + gsum g (P.map fun p => pk 28 p.1 p.2) + (g (pk 30 p.1 p.2) + gsum g (P.map fun p => pk 30 p.1 p.2))
    omega
theorem gpot_swap {f g : gK → Nat} (h : ∀ w i, f (pk 28 w i) + f (pk 30 w i) = g (pk 28 w i) + g (pk 30 w i)) (ho : ∀ k w i, k < 27 ∨ 30 < k → f (pk k w i) = g (pk k w i)) : gsum f gGL = gsum g gGL := by
  have hk : ∀ k, k < 27 ∨ 30 < k → gsum f (gPl.map fun p => pk k p.1 p.2) = gsum g (gPl.map fun p => pk k p.1 p.2) := fun k h1 => gsum_cg _ (fun q hq => by
    obtain ⟨p, _, rfl⟩ := List.mem_map.mp hq
    exact ho k p.1 p.2 h1)
  have ht := gsum_two h gPl
  unfold gGL
  simp only [List.flatMap_cons, List.flatMap_nil, List.append_nil, gsum_app]
  rw [hk 7 (by omega), hk 11 (by omega), hk 14 (by omega), hk 23 (by omega), hk 25 (by omega)]
  have hl : gsum f [pk 34 0 0, pk 34 0 1, pk 34 0 2, pk 34 0 3, pk 36 1 0, pk 36 2 0] = gsum g [pk 34 0 0, pk 34 0 1, pk 34 0 2, pk 34 0 3, pk 36 1 0, pk 36 2 0] := gsum_cg _ (fun q hq => by
    simp only [List.mem_cons, List.not_mem_nil, or_false] at hq
    rcases hq with rfl | rfl | rfl | rfl | rfl | rfl <;> exact ho _ _ _ (by omega))
  rw [hl]
  omega
def cMsg (s : gS) (k w i n : Nat) (l : List (List Int32)) : Prop := ∃ nxt cap, s.1 (pk k w i) 1 = nI (nxt + l.length) ∧ s.1 (pk k w i) 2 = nI nxt ∧ nxt + l.length ≤ n ∧ s.2.1 (pk (k + 1) w i) = 5 * cap ∧ 1 ≤ cap ∧ nxt + l.length ≤ cap ∧ cap ≤ 100000 ∧ ∀ x, x < l.length → s.1 (pk (k + 1) w i) (5 * (nxt + x)) = nI (l.getD x []).length ∧ ∀ y, y < (l.getD x []).length → s.1 (pk (k + 1) w i) (5 * (nxt + x) + 1 + y) = (l.getD x []).getD y 0
theorem hm2 {β : Type} {s : gS} {Q : β → gS → Prop} {x : gM β} {Q1 : β → gS → Prop} (h : gh x s Q1) (k : ∀ r s1, Q1 r s1 → Q r s1) : gh x s Q := hm h k
section MSG
variable {θ : gT} {s : gS} {k w i n : Nat} {l : List (List Int32)}
theorem cMsg.cg {s' : gS} {k' : Nat} (h : cMsg s k w i n l) (e1 : s'.1 (pk k' w i) = s.1 (pk k w i)) (e2 : s'.1 (pk (k' + 1) w i) = s.1 (pk (k + 1) w i)) (e3 : s'.2.1 (pk (k' + 1) w i) = s.2.1 (pk (k + 1) w i)) : cMsg s' k' w i n l := by
  unfold cMsg
  rw [e1, e2, e3]
  exact h
theorem cMsg.mono {n' : Nat} (h : cMsg s k w i n l) (hn : n ≤ n') : cMsg s k w i n' l := by
  obtain ⟨nxt, cap, h1, h2, h3, h4⟩ := h
  exact ⟨nxt, cap, h1, h2, by omega, h4⟩
theorem e_left (h : cMsg s k w i n l) : G_X6_left θ k w i s = some (nI l.length, s) := by
  obtain ⟨nxt, cap, h1, h2, h3⟩ := h
  show some (s.1 (pk k w i) 1 - s.1 (pk k w i) 2, s) = _
  rw [h1, h2, pk_sub (by omega), show nxt + l.length - nxt = l.length by omega]
theorem c_mclear (h : cMsg s k w i n l) (hk : k ≠ k + 1) : gh (G_X6_clear θ k w i) s (fun _ s' => (∀ n', cMsg s' k w i n' []) ∧ fr (kRow k w i) s s') := by
  obtain ⟨nxt, cap, h1, h2, h3, h4, h5, h6, h7, h8⟩ := h
  have hne : pk (k + 1) w i ≠ pk k w i := pk_ne (by omega)
  unfold G_X6_clear
  refine hp (hp (hr ⟨fun n' => ⟨0, cap, ?_, ?_, Nat.zero_le _, ?_, h5, Nat.zero_le _, h7, fun x hx => absurd hx (Nat.not_lt_zero _)⟩, (fr.gw (Or.inl rfl)).tr (fr.gw (Or.inl rfl))⟩))
  · rw [gw_s, gw_s, upd_o (by omega), upd_s]; rfl
  · rw [gw_s, upd_s]; rfl
  · exact h4
theorem c_madd33 {k0 w0 i0 f : Nat} {m : List Int32} {nxt cap : Nat} (h1 : s.1 (pk k w i) 1 = nI (nxt + l.length)) (h2 : s.1 (pk k w i) 2 = nI nxt) (h3 : nxt + l.length ≤ n) (h4 : s.2.1 (pk (k + 1) w i) = 5 * cap) (h5 : 1 ≤ cap) (h6 : nxt + l.length < cap) (h7 : cap ≤ 100000) (h8 : ∀ x, x < l.length → s.1 (pk (k + 1) w i) (5 * (nxt + x)) = nI (l.getD x []).length ∧ ∀ y, y < (l.getD x []).length → s.1 (pk (k + 1) w i) (5 * (nxt + x) + 1 + y) = (l.getD x []).getD y 0) (hl4 : ∀ x, x < l.length → (l.getD x []).length ≤ 4)
    (hk0 : k0 ≠ k ∧ k0 ≠ k + 1) (hm : m.length ≤ 4) (hf : f + m.length ≤ s.2.1 (pk k0 w0 i0)) (hf2 : f < 2 ^ 30) (hc : ∀ y, y < m.length → s.1 (pk k0 w0 i0) (f + y) = m.getD y 0) : gh (G_X6_add_33 θ k w i k0 w0 i0 (nI f) (nI m.length) (nI (5 * (nxt + l.length)))) s (fun _ s' => cMsg s' k w i (n + 1) (l ++ [m]) ∧ fr (kRow k w i) s s') := by
  have hne : pk k w i ≠ pk (k + 1) w i := pk_ne (by omega)
  have hn0 : pk k0 w0 i0 ≠ pk (k + 1) w i := pk_ne (by omega)
  unfold G_X6_add_33
  refine hs rfl (by omega) (by omega) ?_
  refine hcp (sp := f) (dp := 5 * (nxt + l.length) + 1) (n := m.length) rfl (nI_1 _) rfl hf (by show _ ≤ s.2.1 (pk (k + 1) w i); omega) (by omega) (by omega) ?_
  refine hg (v := nI (nxt + l.length)) (by rw [gw_o hne, gw_o hne]; exact h1) ?_
  rw [nI_1]
  refine hp ?_
  refine hr ⟨⟨nxt, cap, ?_, ?_, ?_, h4, h5, ?_, h7, fun x hx => ?_⟩, ((fr.gw (Or.inr rfl)).tr (fr.gw (Or.inr rfl))).tr (fr.gw (Or.inl rfl))⟩
  · rw [gw_s, upd_s, List.length_append, List.length_singleton]; rfl
  · rw [gw_s, upd_o (by omega), gw_o hne, gw_o hne]; exact h2
  · rw [List.length_append, List.length_singleton]; omega
  · rw [List.length_append, List.length_singleton]; omega
  · rw [List.length_append, List.length_singleton] at hx
    rw [gw_o hne.symm, gw_s, gw_o hn0, gw_s, getD_app]
    by_cases e : x = l.length
    · subst e
      rw [if_neg (by omega), if_pos rfl]
      refine ⟨?_, fun y hy => ?_⟩
      · rw [pk_cpy_out (by omega), upd_s]
      · rw [pk_cpy_in (by omega) (by omega), show f + (5 * (nxt + l.length) + 1 + y - (5 * (nxt + l.length) + 1)) = f + y by omega]
        exact hc y hy
    · rw [if_pos (show x < l.length by omega)]
      obtain ⟨g1, g2⟩ := h8 x (by omega)
      have := hl4 x (by omega)
      refine ⟨?_, fun y hy => ?_⟩
      · rw [pk_cpy_out (by omega), upd_o (by omega)]; exact g1
      · rw [pk_cpy_out (by omega), upd_o (by omega)]; exact g2 y hy
theorem c_madd {k0 w0 i0 f : Nat} {m : List Int32} (h : cMsg s k w i n l) (hl4 : ∀ m, m ∈ l → m.length ≤ 4) (hn : n ≤ 3000) (hG : pk (k + 1) w i ∈ gGL) (hcap : gcap (k + 1) = 30000) (hk0 : k0 ≠ k ∧ k0 ≠ k + 1) (hm : m.length ≤ 4) (hf : f + m.length ≤ s.2.1 (pk k0 w0 i0)) (hf2 : f < 2 ^ 30) (hc : ∀ y, y < m.length → s.1 (pk k0 w0 i0) (f + y) = m.getD y 0) : gh (G_X6_add θ k w i k0 w0 i0 (nI f) (nI m.length)) s (fun _ s' => cMsg s' k w i (n + 1) (l ++ [m]) ∧ fr (kRow k w i) s s') := by
  obtain ⟨nxt, cap, h1, h2, h3, h4, h5, h6, h7, h8⟩ := h
  have hne : pk k w i ≠ pk (k + 1) w i := pk_ne (by omega)
  have hn0 : pk k0 w0 i0 ≠ pk (k + 1) w i := pk_ne (by omega)
  have hl4' : ∀ x, x < l.length → (l.getD x []).length ≤ 4 := fun x hx => hl4 _ (by
    rw [List.getD_eq_getElem?_getD, List.getElem?_eq_getElem hx]
    exact List.getElem_mem hx)
  have e5 : (5 : Int32) * nI (nxt + l.length) = nI (5 * (nxt + l.length)) := pk_mul 5 _
  unfold G_X6_add
  refine hg h1 ?_
  rw [e5]
  refine hln h4 ?_
  refine hif (fun c => ?_) (fun c => ?_)
  · have c' : 5 * (nxt + l.length) = 5 * cap := (nI_eq (by omega) (by omega)).mp c
    refine hgrow (n := 5 * cap) h4 (by rw [c']; exact pk_mul 2 _) (by omega) (by omega) (fun s' e1 e2 e3 e4 => ?_)
    refine hm2 (Q1 := fun _ s2 => cMsg s2 k w i (n + 1) (l ++ [m]) ∧ fr (kRow k w i) s' s2) ?_ ?_
    · exact c_madd33 (cap := 2 * cap) (n := n) (by rw [(e3 _ hne).1]; exact h1) (by rw [(e3 _ hne).1]; exact h2) h3 (by rw [e2]; omega) (by omega) (by omega) (by omega) (fun x hx => by
        have g := h8 x hx
        have := hl4' x hx
        rw [e1]
        refine ⟨?_, fun y hy => ?_⟩
        · rw [pk_cpy_in (by omega) (by omega), Nat.zero_add, Nat.sub_zero]; exact g.1
        · rw [pk_cpy_in (by omega) (by omega), Nat.zero_add, Nat.sub_zero]; exact g.2 y hy) hl4' hk0 hm (by rw [(e3 _ hn0).2]; exact hf) hf2 (fun y hy => by rw [(e3 _ hn0).1]; exact hc y hy)
    · refine fun _ s2 q => ⟨q.1, fr.tr ⟨fun q hq => e3 q (fun z => hq (Or.inr z)), fun hL q => ?_, grow_rm hG h4 (by omega) e2 (fun q hq => (e3 q hq).2) e4⟩ q.2⟩
      by_cases z : q = pk (k + 1) w i
      · rw [z, e2]
        show _ ≤ gcap (k + 1)
        rw [hcap]; omega
      · rw [(e3 q z).2]; exact hL q
  · have : nxt + l.length ≠ cap := fun e => c (by rw [e])
    exact c_madd33 (cap := cap) h1 h2 h3 h4 h5 (by omega) h7 h8 hl4' hk0 hm hf hf2 hc
theorem e_nextW {m : List Int32} (h : cMsg s k w i n (m :: l)) (hn : n ≤ 3000) : G_X6_nextWords θ k w i s = some (nI m.length, s) := by
  obtain ⟨nxt, cap, h1, h2, h3, h4, h5, h6, h7, h8⟩ := h
  have hlen : (m :: l).length = l.length + 1 := rfl
  rw [hlen] at h1 h3 h6
  have q : gh (G_X6_nextWords θ k w i) s (fun r s' => r = nI m.length ∧ s' = s) := by
    unfold G_X6_nextWords
    refine hg h2 (hg h1 (hF (nI_ge (by omega) (by omega)) (hg h2 ?_)))
    refine hl (i := 5 * nxt) (v := nI m.length) (pk_mul 5 _) (by omega) (by omega) ?_ (hr ⟨rfl, rfl⟩)
    exact (h8 0 (by rw [hlen]; omega)).1
  obtain ⟨r, s', e, rfl, rfl⟩ := q
  exact e
theorem c_takeI {m : List Int32} {k0 w0 i0 f : Nat} (h : cMsg s k w i n (m :: l)) (hn : n ≤ 3000) (hm : m.length ≤ 4) (hk0 : k0 ≠ k ∧ k0 ≠ k + 1) (hf : f + m.length ≤ s.2.1 (pk k0 w0 i0)) (hf2 : f < 2 ^ 30) : gh (G_X6_takeInto θ k w i k0 w0 i0 (nI f)) s (fun _ s' => cMsg s' k w i n l ∧ fr (fun q => q = pk k w i ∨ q = pk k0 w0 i0) s s' ∧ s'.2 = s.2 ∧ ∀ y, s'.1 (pk k0 w0 i0) y = if f ≤ y ∧ y < f + m.length then m.getD (y - f) 0 else s.1 (pk k0 w0 i0) y) := by
  obtain ⟨nxt, cap, h1, h2, h3, h4, h5, h6, h7, h8⟩ := h
  have hlen : (m :: l).length = l.length + 1 := rfl
  have h1' := h1
  rw [hlen] at h1 h3 h6
  have hn0 : pk k w i ≠ pk k0 w0 i0 := pk_ne (by omega)
  have hn1 : pk (k + 1) w i ≠ pk k0 w0 i0 := pk_ne (by omega)
  have hne : pk (k + 1) w i ≠ pk k w i := pk_ne (by omega)
  have g0 := h8 0 (by rw [hlen]; omega)
  unfold G_X6_takeInto
  refine hg h2 (hg h1 (hF (nI_ge (by omega) (by omega)) (hg h2 (hg h2 ?_))))
  refine hl (i := 5 * nxt) (v := nI m.length) (pk_mul 5 _) (by omega) (by omega) g0.1 ?_
  refine hcp (sp := 5 * nxt + 1) (dp := f) (n := m.length) (by rw [← nI_1, ← pk_mul]; rfl) rfl rfl (by omega) hf (by omega) (by omega) ?_
  refine hg (v := nI nxt) (by rw [gw_o hn0]; exact h2) ?_
  rw [nI_1]
  refine hp (hr ⟨⟨nxt + 1, cap, ?_, ?_, ?_, h4, h5, ?_, h7, fun x hx => ?_⟩, (fr.gw (Or.inr rfl)).tr (fr.gw (Or.inl rfl)), rfl, fun y => ?_⟩)
  · rw [gw_s, upd_o (by omega), gw_o hn0, h1]
    congr 1; omega
  · rw [gw_s, upd_s]
  · omega
  · omega
  · rw [gw_o hne, gw_o hn1]
    have g := h8 (x + 1) (by rw [hlen]; omega)
    rw [show nxt + 1 + x = nxt + (x + 1) by omega]
    exact g
  · rw [gw_o hn0.symm, gw_s]
    unfold va_cpy
    by_cases c : f ≤ y ∧ y < f + m.length
    · rw [if_pos c, if_pos c]
      exact g0.2 (y - f) (by show y - f < m.length; omega)
    · rw [if_neg c, if_neg c]
end MSG
