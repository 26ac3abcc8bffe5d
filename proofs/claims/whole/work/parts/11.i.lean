theorem rn_copyOf {h : mo_H} {a N : Nat} {f : Nat → Int32} {n : Int32} (e : h.1 a = some (.inl (0, N, .inl f))) (ha : a < h.2.1) (hx : ¬ (n < 0 ∨ 1000000 < n.toNatClampNeg ∨ n = Int32.ofNat N ∨ (gmn n N) < 0 ∨ N < (gmn n N).toNatClampNeg ∨ n.toNatClampNeg < (gmn n N).toNatClampNeg)) :
    (F_J7_copyOf_59c91 a n).1 h = some (h.2.1, mo_up (mo_nw h (.inl (0, n.toNatClampNeg, .inl (fun _ => 0))) n.toNatClampNeg) h.2.1 (.inl (0, n.toNatClampNeg, .inl (va_cpy f (fun _ => 0) 0 0 (gmn n N).toNatClampNeg)))) := by
  have g1 : ¬ n < 0 := fun q => hx (Or.inl q)
  have g2 : ¬ 1000000 < n.toNatClampNeg := fun q => hx (Or.inr (Or.inl q))
  have g3 : ¬ n = Int32.ofNat N := fun q => hx (Or.inr (Or.inr (Or.inl q)))
  have g4 : ¬ (gmn n N) < 0 := fun q => hx (Or.inr (Or.inr (Or.inr (Or.inl q))))
  have g5 : ¬ N < (gmn n N).toNatClampNeg := fun q => hx (Or.inr (Or.inr (Or.inr (Or.inr (Or.inl q)))))
  have g6 : ¬ n.toNatClampNeg < (gmn n N).toNatClampNeg := fun q => hx (Or.inr (Or.inr (Or.inr (Or.inr (Or.inr q)))))
  unfold F_J7_copyOf_59c91
  rw [rn_ln e (by decide), if_neg g3, rn_na (fun q => q.elim g1 g2)]
  rw [rn_ln (h := mo_nw h _ _) (by rw [nw_n ha]; exact e) (by decide)]
  rw [rn_cp (h := mo_nw h _ _) (by rw [nw_n ha]; exact e) nw_s (by
    rw [sb_cl0]
    rintro (q | q | q | q | q)
    · exact absurd q (by decide)
    · exact absurd q (by decide)
    · exact g4 q
    · exact g5 (by show N < (if n < Int32.ofNat N then n else Int32.ofNat N).toNatClampNeg; omega)
    · exact g6 (by show n.toNatClampNeg < (if n < Int32.ofNat N then n else Int32.ofNat N).toNatClampNeg; omega))]
  rw [sb_cl0]
  rfl
section GH
variable {θ : gT} {Gs U : gK → Nat} {β : Type} {k w i a ci : Nat}
theorem gq_grow {K : mo_M β} {k' : gM β} {n : Int32} {tl : (Nat → Int32) → List Value} (hv : gV θ k w i) (hvx : gV θ (k + 1) w i) (hA : gA Gs U k w i = a) (hAx : gA Gs U (k + 1) w i = U (pk (k + 1) w i)) (hx : gU (k + 1) = true) (how : ∀ k', (k', k + 1) ∈ gOw → k' = k) (hC : ∀ U f n, gC θ Gs U k w i f n = .inr (ci, .ref (U (pk (k + 1) w i)) :: tl f)) (hCx : ∀ U f n, gC θ Gs U (k + 1) w i f n = .inl (0, n, .inl f)) (kk : ∀ U', gSim false θ Gs U' K k') : gSim false θ Gs U (mo_b (F_J7_copyOf_59c91 (U (pk (k + 1) w i)) n) fun v => mo_b (mo_pV a ci 0 (.ref v)) fun _ => K) (gb (ggrow (pk (k + 1) w i) n) fun _ => k') := fun h s H r s' e => by
  subst hA
  obtain ⟨y, s1, e1, e2⟩ := gbE e
  unfold ggrow at e1
  split at e1
  · cases e1
  · rename_i hc
    cases e1
    have hcx := H.1 (k + 1) w i hvx
    rw [hAx, hCx] at hcx
    have hck := H.1 k w i hv
    rw [hC] at hck
    have hne : gA Gs U k w i ≠ h.2.1 := Nat.ne_of_lt hck.2
    have eC := rn_copyOf hcx.1 hcx.2 hc
    have H' := H.grow (h' := mo_up (mo_up (mo_nw h (.inl (0, n.toNatClampNeg, .inl (fun _ => 0))) n.toNatClampNeg) h.2.1 (.inl (0, n.toNatClampNeg, .inl (va_cpy (s.1 (pk (k + 1) w i)) (fun _ => 0) 0 0 (gmn n (s.2.1 (pk (k + 1) w i))).toNatClampNeg)))) (gA Gs U k w i) (.inr (ci, .ref h.2.1 :: tl (s.1 (pk k w i))))) (n := n.toNatClampNeg) hv hvx hx (by omega) how up_s (by rw [up_n hne.symm]; exact up_s) (fun q h1 h2 => by rw [up_n h1, up_n h2]; simp [mo_nw, h2]) rfl (by rw [hC]; simp) (by rw [hCx])
    obtain ⟨h'', U'', e4, H''⟩ := kk _ _ _ H' r s' e2
    refine ⟨h'', U'', ?_, H''.1, fun q => by cases q⟩
    rw [mo_b_run eC, rn_pV (h := mo_up _ _ _) (by rw [up_n hne, nw_n hck.2]; exact hck.1) (by simp)]
    exact e4
theorem gq_grz {K : mo_M β} {k' : gM β} {n : Int32} (hv : gV θ 35 w 0) (kk : ∀ U', gSim false θ Gs U' K k') : gSim false θ Gs U (mo_b (mo_na 1 n) fun v => mo_b (mo_pV (Gs (pk 35 w 0)) 8 2 (.ref v)) fun _ => K) (gb (ggrz (pk 36 w 0) n) fun _ => k') := fun h s H r s' e => by
  obtain ⟨y, s1, e1, e2⟩ := gbE e
  unfold ggrz at e1
  split at e1
  · cases e1
  · rename_i hc
    cases e1
    have hck : h.1 (Gs (pk 35 w 0)) = some (gC θ Gs U 35 w 0 (s.1 (pk 35 w 0)) (s.2.1 (pk 35 w 0))) ∧ Gs (pk 35 w 0) < h.2.1 := H.1 35 w 0 hv
    have hne : Gs (pk 35 w 0) ≠ h.2.1 := Nat.ne_of_lt hck.2
    have H' := H.grow (k := 35) (x := 36) (w := w) (i := 0) (h' := mo_up (mo_nw h (.inl (1, n.toNatClampNeg, .inl (fun _ => 0))) n.toNatClampNeg) (Gs (pk 35 w 0)) (.inr (8, [.ref (Gs (pk 1 0 0)), .ref (Gs (pk 15 w 0)), .ref h.2.1, .int (s.1 (pk 35 w 0) 3), .int (s.1 (pk 35 w 0) 4)]))) (n := n.toNatClampNeg) (f := fun _ => 0) hv hv rfl (by decide) (fun k' hk' => by simp [gOw] at hk'; exact hk') up_s (by rw [up_n hne.symm]; exact nw_s) (fun q h1 h2 => by rw [up_n (show q ≠ Gs (pk 35 w 0) from h1)]; simp [mo_nw, h2]) rfl (by show _ = Sum.inr _; simp) rfl
    obtain ⟨h'', U'', e4, H''⟩ := kk _ _ _ H' r s' e2
    refine ⟨h'', U'', ?_, H''.1, fun q => by cases q⟩
    rw [rn_na hc, rn_pV (h := mo_nw _ _ _) (by rw [nw_n hck.2]; exact hck.1) (by simp)]
    exact e4
theorem gq_growm {K : (gK → Nat) → mo_M β} {k' : gM β} {n : Int32} {tl : (Nat → Int32) → List Value} (hv : gV θ k w i) (hvx : gV θ (k + 1) w i) (hA : gA Gs U k w i = U (pk k w i)) (hAx : gA Gs U (k + 1) w i = U (pk (k + 1) w i)) (hx : gU (k + 1) = true) (how : ∀ k', (k', k + 1) ∈ gOw → k' = k) (hC : ∀ U f n, gC θ Gs U k w i f n = .inr (ci, .ref (U (pk (k + 1) w i)) :: tl f)) (hCx : ∀ U f n, gC θ Gs U (k + 1) w i f n = .inl (0, n, .inl f)) (kk : ∀ U', U' (pk k w i) = U (pk k w i) → gSim false θ Gs U' (K U') k') (hK : ∀ V V' : gK → Nat, V (pk k w i) = V' (pk k w i) → K V = K V') : gSim false θ Gs U (mo_b (F_J7_copyOf_59c91 (U (pk (k + 1) w i)) n) fun v => mo_b (mo_pV (U (pk k w i)) ci 0 (.ref v)) fun _ => K U) (gb (ggrow (pk (k + 1) w i) n) fun _ => k') := fun h s H r s' e => by
  obtain ⟨y, s1, e1, e2⟩ := gbE e
  unfold ggrow at e1
  split at e1
  · cases e1
  · rename_i hc
    cases e1
    have hcx := H.1 (k + 1) w i hvx
    rw [hAx, hCx] at hcx
    have hck := H.1 k w i hv
    rw [hC] at hck
    have hne : gA Gs U k w i ≠ h.2.1 := Nat.ne_of_lt hck.2
    have eC := rn_copyOf hcx.1 hcx.2 hc
    have H' := H.grow (h' := mo_up (mo_up (mo_nw h (.inl (0, n.toNatClampNeg, .inl (fun _ => 0))) n.toNatClampNeg) h.2.1 (.inl (0, n.toNatClampNeg, .inl (va_cpy (s.1 (pk (k + 1) w i)) (fun _ => 0) 0 0 (gmn n (s.2.1 (pk (k + 1) w i))).toNatClampNeg)))) (gA Gs U k w i) (.inr (ci, .ref h.2.1 :: tl (s.1 (pk k w i))))) (n := n.toNatClampNeg) hv hvx hx (by omega) how up_s (by rw [up_n hne.symm]; exact up_s) (fun q h1 h2 => by rw [up_n h1, up_n h2]; simp [mo_nw, h2]) rfl (by rw [hC]; simp) (by rw [hCx])
    have hsame : (fun q => if q = pk (k + 1) w i then h.2.1 else U q) (pk k w i) = U (pk k w i) := by
      show (if pk k w i = pk (k + 1) w i then h.2.1 else U (pk k w i)) = _
      rw [if_neg (by simp)]
    obtain ⟨h'', U'', e4, H''⟩ := kk _ hsame _ _ H' r s' e2
    refine ⟨h'', U'', ?_, H''.1, fun q => by cases q⟩
    rw [mo_b_run eC, ← hA, rn_pV (h := mo_up _ _ _) (by rw [up_n hne, nw_n hck.2]; exact hck.1) (by simp)]
    rw [hK U (fun q => if q = pk (k + 1) w i then h.2.1 else U q) hsame.symm]
    exact e4
theorem gsw_o {w i : Nat} {q : gK} (h1 : q ≠ pk 27 w i) (h2 : q ≠ pk 29 w i) (h3 : q ≠ pk 28 w i) (h4 : q ≠ pk 30 w i) : gsw w i q = q := by
  unfold gsw
  rw [if_neg h1, if_neg h2, if_neg h3, if_neg h4]
theorem gsw_27 {w i : Nat} : gsw w i (pk 27 w i) = pk 29 w i := by simp [gsw]
theorem gsw_29 {w i : Nat} : gsw w i (pk 29 w i) = pk 27 w i := by
  unfold gsw
  rw [if_neg (by simp), if_pos rfl]
theorem gsw_28 {w i : Nat} : gsw w i (pk 28 w i) = pk 30 w i := by
  unfold gsw
  rw [if_neg (by simp), if_neg (by simp), if_pos rfl]
theorem gsw_30 {w i : Nat} : gsw w i (pk 30 w i) = pk 28 w i := by
  unfold gsw
  rw [if_neg (by simp), if_neg (by simp), if_neg (by simp), if_pos rfl]
theorem gq_swap (hv : gV θ 26 w i) : gSim false θ Gs U (mo_b (mo_pV (Gs (pk 26 w i)) 1 1 (.ref (U (pk 29 w i)))) fun _ => mo_b (mo_pV (Gs (pk 26 w i)) 1 2 (.ref (U (pk 27 w i)))) fun _ => mo_ret ()) (gb (gswap w i) fun _ => gret ()) := fun h s H r s' e => by
  have e2 : some ((), ((fun q => s.1 (gsw w i q), fun q => s.2.1 (gsw w i q), s.2.2) : gS)) = some (r, s') := e
  cases e2
  have hck : h.1 (Gs (pk 26 w i)) = some (gC θ Gs U 26 w i (s.1 (pk 26 w i)) (s.2.1 (pk 26 w i))) ∧ Gs (pk 26 w i) < h.2.1 := H.1 26 w i hv
  obtain ⟨h1, ⟨own, h2⟩, h3⟩ := H
  have bv := gV_b hv
  refine ⟨mo_up (mo_up h (Gs (pk 26 w i)) (.inr (1, ([.ref (Gs (pk 4 0 i)), .ref (U (pk 27 w i)), .ref (U (pk 29 w i)), .int (s.1 (pk 26 w i) 3), .int (s.1 (pk 26 w i) 4), .ref (Gs (pk 31 w i)), .int (s.1 (pk 26 w i) 6), .int (s.1 (pk 26 w i) 7)] : List Value).set 1 (.ref (U (pk 29 w i)))))) (Gs (pk 26 w i)) (.inr (1, (([.ref (Gs (pk 4 0 i)), .ref (U (pk 27 w i)), .ref (U (pk 29 w i)), .int (s.1 (pk 26 w i) 3), .int (s.1 (pk 26 w i) 4), .ref (Gs (pk 31 w i)), .int (s.1 (pk 26 w i) 6), .int (s.1 (pk 26 w i) 7)] : List Value).set 1 (.ref (U (pk 29 w i)))).set 2 (.ref (U (pk 27 w i))))), fun q => U (gsw w i q), ?_, ⟨fun k' w' i' hv' => ?_, ⟨fun a => gsw w i (own a), fun k' w' i' hv' => ?_⟩, ?_⟩, fun q => by cases q⟩
  · rw [rn_pV hck.1 (by simp)]
    rw [rn_pV (h := mo_up _ _ _) up_s (by simp)]
    rfl
  · have bv' := gV_b hv'
    have hch : own (Gs (pk 26 w i)) = pk 26 w i := h2 26 w i hv
    have hold : ∀ k2, gV θ k2 w' i' → k2 ≠ 26 → ∀ c1 c2, (mo_up (mo_up h (Gs (pk 26 w i)) c1) (Gs (pk 26 w i)) c2).1 (gA Gs U k2 w' i') = some (gC θ Gs U k2 w' i' (s.1 (pk k2 w' i')) (s.2.1 (pk k2 w' i'))) := by
      intro k2 hv2 hn c1 c2
      have hA : gA Gs U k2 w' i' ≠ Gs (pk 26 w i) := fun e => by
        have := h2 _ _ _ hv2
        rw [e, hch] at this
        obtain ⟨q, -, -⟩ := pk_inj bv bv' this
        exact hn q.symm
      rw [up_n hA, up_n hA]
      exact (h1 _ _ _ hv2).1
    by_cases c27 : pk k' w' i' = pk 27 w i
    · obtain ⟨rfl, rfl, rfl⟩ := pk_inj bv' bv c27
      have ha : gA Gs (fun q => U (gsw w' i' q)) 27 w' i' = gA Gs U 29 w' i' := by show U (gsw w' i' (pk 27 w' i')) = U _; rw [gsw_27]
      rw [ha]
      refine ⟨?_, (h1 29 w' i' hv').2⟩
      rw [hold 29 hv' (by decide)]
      show some (Sum.inr _) = some (Sum.inr _)
      simp only [gsw_27, gsw_28]
    by_cases c29 : pk k' w' i' = pk 29 w i
    · obtain ⟨rfl, rfl, rfl⟩ := pk_inj bv' bv c29
      have ha : gA Gs (fun q => U (gsw w' i' q)) 29 w' i' = gA Gs U 27 w' i' := by show U (gsw w' i' (pk 29 w' i')) = U _; rw [gsw_29]
      rw [ha]
      refine ⟨?_, (h1 27 w' i' hv').2⟩
      rw [hold 27 hv' (by decide)]
      show some (Sum.inr _) = some (Sum.inr _)
      simp only [gsw_29, gsw_30]
    by_cases c28 : pk k' w' i' = pk 28 w i
    · obtain ⟨rfl, rfl, rfl⟩ := pk_inj bv' bv c28
      have ha : gA Gs (fun q => U (gsw w' i' q)) 28 w' i' = gA Gs U 30 w' i' := by show U (gsw w' i' (pk 28 w' i')) = U _; rw [gsw_28]
      rw [ha]
      refine ⟨?_, (h1 30 w' i' hv').2⟩
      rw [hold 30 hv' (by decide)]
      show some (Sum.inl _) = some (Sum.inl _)
      simp only [gsw_28]
    by_cases c30 : pk k' w' i' = pk 30 w i
    · obtain ⟨rfl, rfl, rfl⟩ := pk_inj bv' bv c30
      have ha : gA Gs (fun q => U (gsw w' i' q)) 30 w' i' = gA Gs U 28 w' i' := by show U (gsw w' i' (pk 30 w' i')) = U _; rw [gsw_30]
      rw [ha]
      refine ⟨?_, (h1 28 w' i' hv').2⟩
      rw [hold 28 hv' (by decide)]
      show some (Sum.inl _) = some (Sum.inl _)
      simp only [gsw_30]
    have hs := gsw_o c27 c29 c28 c30
    have ha : gA Gs (fun q => U (gsw w i q)) k' w' i' = gA Gs U k' w' i' := gA_U (by show U (gsw w i (pk k' w' i')) = _; rw [hs])
    rw [ha]
    refine ⟨?_, (h1 k' w' i' hv').2⟩
    show _ = some (gC θ Gs _ k' w' i' (s.1 (gsw w i (pk k' w' i'))) (s.2.1 (gsw w i (pk k' w' i'))))
    rw [hs]
    by_cases c26 : pk k' w' i' = pk 26 w i
    · obtain ⟨rfl, rfl, rfl⟩ := pk_inj bv' bv c26
      show (mo_up (mo_up h (Gs (pk 26 w' i')) _) (Gs (pk 26 w' i')) _).1 (Gs (pk 26 w' i')) = _
      rw [up_s]
      show some (Sum.inr _) = some (Sum.inr _)
      simp [gsw_27, gsw_29]
    · have hA : gA Gs U k' w' i' ≠ Gs (pk 26 w i) := fun e => c26 (by rw [← h2 _ _ _ hv', e, hch])
      rw [up_n hA, up_n hA, (h1 k' w' i' hv').1]
      congr 1
      refine (gC_U (fun y hy => ?_) (fun e => ?_)).symm
      · show U (gsw w i (pk y w' i')) = _
        rw [gsw_o]
        · intro e
          obtain ⟨rfl, rfl, rfl⟩ := pk_inj bv' bv e
          simp [gOw] at hy
          exact c26 (by rw [hy])
        · intro e
          obtain ⟨rfl, rfl, rfl⟩ := pk_inj bv' bv e
          simp [gOw] at hy
          exact c26 (by rw [hy])
        · intro e
          obtain ⟨rfl, rfl, rfl⟩ := pk_inj bv' bv e
          simp [gOw] at hy
          exact c27 (by rw [hy])
        · intro e
          obtain ⟨rfl, rfl, rfl⟩ := pk_inj bv' bv e
          simp [gOw] at hy
          exact c29 (by rw [hy])
      · subst e
        exact hv'.1.2
  · have bv' := gV_b hv'
    show gsw w i (own (gA Gs (fun q => U (gsw w i q)) k' w' i')) = _
    by_cases c27 : pk k' w' i' = pk 27 w i
    · obtain ⟨rfl, rfl, rfl⟩ := pk_inj bv' bv c27
      have ha : gA Gs (fun q => U (gsw w' i' q)) 27 w' i' = gA Gs U 29 w' i' := by show U (gsw w' i' (pk 27 w' i')) = U _; rw [gsw_27]
      rw [ha, h2 29 w' i' hv', gsw_29]
    by_cases c29 : pk k' w' i' = pk 29 w i
    · obtain ⟨rfl, rfl, rfl⟩ := pk_inj bv' bv c29
      have ha : gA Gs (fun q => U (gsw w' i' q)) 29 w' i' = gA Gs U 27 w' i' := by show U (gsw w' i' (pk 29 w' i')) = U _; rw [gsw_29]
      rw [ha, h2 27 w' i' hv', gsw_27]
    by_cases c28 : pk k' w' i' = pk 28 w i
    · obtain ⟨rfl, rfl, rfl⟩ := pk_inj bv' bv c28
      have ha : gA Gs (fun q => U (gsw w' i' q)) 28 w' i' = gA Gs U 30 w' i' := by show U (gsw w' i' (pk 28 w' i')) = U _; rw [gsw_28]
      rw [ha, h2 30 w' i' hv', gsw_30]
    by_cases c30 : pk k' w' i' = pk 30 w i
    · obtain ⟨rfl, rfl, rfl⟩ := pk_inj bv' bv c30
      have ha : gA Gs (fun q => U (gsw w' i' q)) 30 w' i' = gA Gs U 28 w' i' := by show U (gsw w' i' (pk 30 w' i')) = U _; rw [gsw_30]
      rw [ha, h2 28 w' i' hv', gsw_28]
    have hs := gsw_o c27 c29 c28 c30
    have ha : gA Gs (fun q => U (gsw w i q)) k' w' i' = gA Gs U k' w' i' := gA_U (by show U (gsw w i (pk k' w' i')) = _; rw [hs])
    rw [ha, h2 _ _ _ hv', hs]
  · exact h3
end GH
