/-! THE CLASS'S METHODS over a world -/
theorem x_nI (x : Int32) : x = nI x.toBitVec.toNat := by
  have h : x.toBitVec.toNat < 2 ^ 32 := x.toBitVec.isLt
  apply Int32.toBitVec_inj.mp
  apply BitVec.eq_of_toNat_eq
  rw [pk_tn h]
theorem b_op (x : Int32) : x &&& 255 = nI (xop x) := pk_and x 8 rfl
theorem b_ush (x : Int32) (s : Int32) (k : Nat) (hs : ((s.toUInt32 &&& Int32.toUInt32 31).toBitVec % 32).toNat = k) : (x.toUInt32 >>> (s.toUInt32 &&& Int32.toUInt32 31)).toInt32 = nI (x.toBitVec.toNat / 2 ^ k) := by
  have h : x.toBitVec.toNat < 2 ^ 32 := x.toBitVec.isLt
  have := pk_ushrN h s k hs
  rw [← x_nI x] at this
  exact this
theorem b_pa (x : Int32) : ((x.toUInt32 >>> ((8 : Int32).toUInt32 &&& Int32.toUInt32 31)).toInt32) &&& 255 = nI (xa x) := by
  have h : x.toBitVec.toNat < 2 ^ 32 := x.toBitVec.isLt
  rw [b_ush x 8 8 rfl]
  exact pk_andN (by omega) 8 rfl
theorem b_pb (x : Int32) : ((x.toUInt32 >>> ((16 : Int32).toUInt32 &&& Int32.toUInt32 31)).toInt32) &&& 255 = nI (xb x) := by
  have h : x.toBitVec.toNat < 2 ^ 32 := x.toBitVec.isLt
  rw [b_ush x 16 16 rfl]
  exact pk_andN (by omega) 8 rfl
theorem b_pc (x : Int32) : (x.toUInt32 >>> ((24 : Int32).toUInt32 &&& Int32.toUInt32 31)).toInt32 = nI (xc x) := b_ush x 24 24 rfl
theorem getD_map {α : Type} {f : α → Int32} {l : List α} {b : Nat} {d : α} (h : b < l.length) : (l.map f).getD b 0 = f (l.getD b d) := by
  simp only [List.getD_eq_getElem?_getD, List.getElem?_map, List.getElem?_eq_getElem h]
  rfl
theorem hm2' {β : Type} {s : gS} {Q : β → gS → Prop} {x : gM β} {Q1 : β → gS → Prop} (h : gh x s Q1) (k : ∀ r s1, Q1 r s1 → Q r s1) : gh x s Q := hm h k
section CM
variable {θ : gT} {π : mP} {n t w : Nat} {s0 s s' : gS} {W W' : mW} {d : Nat} {x : Int32}
theorem e_op : G_X10_operation θ x s = some (nI (xop x), s) := by
  show some (x &&& 255, s) = _
  rw [b_op]
theorem e_pa : G_X10_partA θ x s = some (nI (xa x), s) := by
  unfold G_X10_partA
  rw [b_pa]; rfl
theorem e_pb : G_X10_partB θ x s = some (nI (xb x), s) := by
  unfold G_X10_partB
  rw [b_pb]; rfl
theorem e_pc : G_X10_partC θ x s = some (nI (xc x), s) := by
  unfold G_X10_partC
  rw [b_pc]; rfl
theorem gh_eq {α : Type} {g : gM α} {a : α} (h : gh g s (fun r s' => r = a ∧ s' = s)) : g s = some (a, s) := by
  obtain ⟨r, s', e, rfl, rfl⟩ := h
  exact e
theorem b_rem {a : Nat} (ha : a < 256) : nI a - nI a / (8 : Int32) * (8 : Int32) = nI (a % 8) := pk_rem (d := 8) (by omega) (by omega) (by omega)
theorem e_read (h : cT θ π n w s0 s W) (hd : d < π.1) {a : Nat} (ha : a < 256) : G_X3_read θ w d (nI a) s = some (W.1 0 d (a % 8), s) := gh_eq (by
  unfold G_X3_read
  refine hl (i := a % 8) (b_rem ha) (by rw [(h.ln.1 d hd).1]; omega) (by omega) (h.sc 0 d (a % 8) ⟨hd, by omega⟩) (hr ⟨rfl, rfl⟩))
theorem c_write (h : cT θ π n w s0 s W) (hd : d < π.1) {a : Nat} {v : Int32} (ha : a < 256) : gh (G_X3_write θ w d (nI a) v) s (fun _ s' => cT θ π n w s0 s' (mA W 0 d (a % 8) v)) := by
  unfold G_X3_write
  exact hs (i := a % 8) (b_rem ha) (by rw [(h.ln.1 d hd).1]; omega) (by omega) (hr (h.wr (j := 0) (i := d) (k := a % 8) ⟨hd, by omega⟩))
theorem c_report (h : cT θ π n w s0 s W) (hd : d < π.1) {v : Int32} : gh (G_X3_report θ w d v) s (fun _ s' => cT θ π n w s0 s' (mA W 0 d 7 v)) := by
  unfold G_X3_report
  exact hs (i := 7) rfl (by rw [(h.ln.1 d hd).1]; omega) (by omega) (hr (h.wr (j := 0) (i := d) (k := 7) ⟨hd, by omega⟩))
theorem e_has {m : Nat} (hm : m ≤ 32) : G_X3_hasCells θ x (nI m) s = some (if mcl x m then 1 else 0, s) := by
  have e32 : (32 : Int32) - nI m = nI (32 - m) := pk_sub (a := 32) hm
  unfold G_X3_hasCells
  rw [e32]
  refine gh_eq (hif (fun c => ?_) (fun c => ?_))
  · rw [if_neg (fun q => q.1 c)]
    exact hr0 ⟨rfl, rfl⟩
  · obtain ⟨j, hj, rfl⟩ := nI_of c
    refine hif (fun c2 => ?_) (fun c2 => ?_)
    · rw [nI_ltI (by omega) hj] at c2
      rw [if_neg (fun q => by have := q.2; rw [nI_clamp hj] at this; omega)]
      exact hr0 ⟨rfl, rfl⟩
    · rw [nI_ltI (by omega) hj] at c2
      rw [if_pos ⟨c, by rw [nI_clamp hj]; omega⟩]
      exact hr1 ⟨rfl, rfl⟩
theorem c_fill5 {k i m : Nat} {v : Int32} (hm : s.2.1 (pk k w i) = m) (hm2 : m < 1000) : ∀ (fu j : Nat) (s1 : gS), s1.2.1 (pk k w i) = m → m - j < fu → j ≤ m → gh (G_J7_fill_53178_5 θ fu k w i v (nI j) (nI m)) s1 (fun _ s' => s' = gw s1 (pk k w i) (fun q => if j ≤ q ∧ q < m then v else s1.1 (pk k w i) q))
  | 0, j, s1, _, h, _ => by omega
  | fu + 1, j, s1, hs1, h, hj => by
    unfold G_J7_fill_53178_5
    refine hif (fun c => ?_) (fun c => ?_)
    · rw [nI_leI (by omega) (by omega)] at c
      refine hr ?_
      have : (fun q => if j ≤ q ∧ q < m then v else s1.1 (pk k w i) q) = s1.1 (pk k w i) := by
        funext q
        rw [if_neg (by omega)]
      rw [this]
      unfold gw
      refine Prod.ext ?_ rfl
      funext q
      show s1.1 q = if q = pk k w i then s1.1 (pk k w i) else s1.1 q
      split
      · rename_i e; rw [e]
      · rfl
    · rw [nI_leI (by omega) (by omega)] at c
      refine hs (i := j) rfl (by omega) (by omega) ?_
      rw [nI_1]
      refine hm2' (c_fill5 hm hm2 fu (j + 1) _ hs1 (by omega) (by omega)) (fun _ s2 e => ?_)
      subst e
      unfold gw
      refine Prod.ext ?_ rfl
      funext q
      dsimp only
      by_cases e : q = pk k w i
      · rw [if_pos e, if_pos e, if_pos rfl]
        funext y
        by_cases c1 : j + 1 ≤ y ∧ y < m
        · rw [if_pos c1, if_pos ⟨by omega, c1.2⟩]
        · rw [if_neg c1]
          by_cases c2 : y = j
          · rw [c2, upd_s, if_pos ⟨Nat.le_refl _, by omega⟩]
          · rw [upd_o c2, if_neg (by omega)]
      · rw [if_neg e, if_neg e, if_neg e]
theorem c_fill {k i m : Nat} {v : Int32} (hm : s.2.1 (pk k w i) = m) (hm2 : m < 1000) : gh (G_J7_fill_53178 θ k w i v) s (fun _ s' => s' = gw s (pk k w i) (fun q => if q < m then v else s.1 (pk k w i) q)) := by
  unfold G_J7_fill_53178
  refine hln hm ?_
  refine hm2' (c_fill5 hm hm2 mo_fu 0 s hm (by unfold mo_fu; omega) (Nat.zero_le _)) (fun _ s2 e => ?_)
  rw [e]
  simp only [Nat.zero_le, true_and]
theorem c_clrM (h : cT θ π n w s0 s W) (hd : d < π.1) : gh (G_X3_clearMemory θ w d) s (fun _ s' => cT θ π n w s0 s' (mAr (mAr (mA W 2 d 4 0) 0 d (fun _ => 0)) 1 d (fun _ => 0))) := by
  unfold G_X3_clearMemory
  refine hp ?_
  have h1 : cT θ π n w s0 (gw s (pk 19 w d) (upd (s.1 (pk 19 w d)) 4 0)) (mA W 2 d 4 0) := h.wr (j := 2) (i := d) (k := 4) ⟨hd, by omega, by omega⟩
  refine hc (c_fill (h1.ln.1 d hd).1 (by omega)) (fun _ s1 e => ?_)
  have h2 : cT θ π n w s0 s1 (mAr (mA W 2 d 4 0) 0 d (fun _ => 0)) := by
    rw [e]
    exact h1.ar (j := 0) (i := d) (by omega) (fun k hk => if_pos hk.2)
  refine hc (c_fill (h2.ln.1 d hd).2 (by omega)) (fun _ s2 e => ?_)
  refine hr ?_
  rw [e]
  exact h2.ar (j := 1) (i := d) (by omega) (fun k hk => if_pos hk.2)
theorem c_fail (h : cT θ π n w s0 s W) (hd : d < π.1) : gh (G_X3_fail θ w d (pwy π d)) s (fun _ s' => cT θ π n w s0 s' (mfail π W d)) := by
  unfold G_X3_fail mfail
  refine hg (h.sc 2 d 6 ⟨hd, by omega, by omega⟩) (hp ?_)
  have h1 : cT θ π n w s0 (gw s (pk 19 w d) (upd (s.1 (pk 19 w d)) 6 (W.1 2 d 6 + 1))) (mA W 2 d 6 (W.1 2 d 6 + 1)) := h.wr (j := 2) (i := d) (k := 6) ⟨hd, by omega, by omega⟩
  refine hif (fun c => ?_) (fun c => ?_)
  · simp only [if_pos c]
    exact hc (c_clrM h1 hd) (fun _ s1 h2 => hr h2)
  · simp only [if_neg c]
    refine hif (fun c2 => ?_) (fun c2 => ?_)
    · simp only [if_pos c2]
      refine hg (h1.sc 2 d 4 ⟨hd, by omega, by omega⟩) (hp (hr ?_))
      exact h1.wr (j := 2) (i := d) (k := 4) ⟨hd, by omega, by omega⟩
    · simp only [if_neg c2]
      exact hp (hr (h1.wr (j := 2) (i := d) (k := 5) ⟨hd, by omega, by omega⟩))
theorem e_slD (h : cT θ π n w s0 s W) (hI : mIc π t W) (hQ : mQ π) : G_X2_slotDomain θ w s = some (nI (msl π W).1, s) := gh_eq (by
  obtain ⟨a, b, l, h1, h2, h3, h4, h5, h6, h7⟩ := hI.2.1
  have := (hQ.sl a h1).1
  unfold G_X2_slotDomain
  refine hg ((h.sc 5 0 2 ⟨rfl, by omega, by omega⟩).trans h2) (hx rfl h1 (by omega) ?_)
  refine hg ((h.sc 5 0 3 ⟨rfl, by omega, by omega⟩).trans h4) ?_
  refine hb (e_getn (h.pl.sl a h1).1 rfl (by omega)) (hr ⟨?_, rfl⟩)
  rw [getD_map (d := (0, 0)) h3]
  unfold msl
  rw [h2, h4, nI_clamp (by omega), nI_clamp (by omega)])
theorem e_bgs (h : cT θ π n w s0 s W) (hI : mIc π t W) (hQ : mQ π) : G_X2_beginsSlot θ w s = some (if mbgn π W then 1 else 0, s) := gh_eq (by
  obtain ⟨a, b, l, h1, h2, h3, h4, h5, h6, h7⟩ := hI.2.1
  have := (hQ.sl a h1).1
  have hm : (msl π W).2 = ((psl π a).getD b (0, 0)).2 := by
    unfold msl
    rw [h2, h4, nI_clamp (by omega), nI_clamp (by omega)]
  unfold G_X2_beginsSlot
  refine hg (h.sc 5 0 4 ⟨rfl, by omega, by omega⟩) (hg ((h.sc 5 0 2 ⟨rfl, by omega, by omega⟩).trans h2) (hx rfl h1 (by omega) ?_))
  refine hg ((h.sc 5 0 3 ⟨rfl, by omega, by omega⟩).trans h4) ?_
  refine hb (e_getn (h.pl.sl a h1).2 rfl (by omega)) ?_
  rw [getD_map (d := (0, 0)) h3]
  unfold mbgn
  rw [hm]
  refine hif (fun c => ?_) (fun c => ?_)
  · rw [if_pos c]; exact hr1 ⟨rfl, rfl⟩
  · rw [if_neg c]; exact hr0 ⟨rfl, rfl⟩)
theorem c_adv95 (h : cT θ π n w s0 s W) {a b : Nat} (h1 : a < 3) (h2 : W.1 5 0 2 = nI a) (h3 : b < (psl π a).length) (h4 : W.1 5 0 3 = nI b) (hb2 : (psl π a).length ≤ 12) : gh (G_X2_advance_95 θ w) s (fun _ s' => cT θ π n w s0 s' (mA W 5 0 4 (nI (msl π W).2))) := by
  have hm : (msl π W).2 = ((psl π a).getD b (0, 0)).2 := by
    unfold msl
    rw [h2, h4, nI_clamp (by omega), nI_clamp (by omega)]
  unfold G_X2_advance_95
  refine hg ((h.sc 5 0 2 ⟨rfl, by omega, by omega⟩).trans h2) (hx rfl h1 (by omega) ?_)
  refine hg ((h.sc 5 0 3 ⟨rfl, by omega, by omega⟩).trans h4) ?_
  refine hb (e_getn (h.pl.sl a h1).2 rfl (by omega)) ?_
  rw [getD_map (d := (0, 0)) h3, ← hm]
  exact hp (hr (h.wr (j := 5) (i := 0) (k := 4) ⟨rfl, by omega, by omega⟩))
theorem c_adv (h : cT θ π n w s0 s W) (hI : mIc π t W) (hQ : mQ π) : gh (G_X2_advance θ w) s (fun _ s' => cT θ π n w s0 s' (madv π W)) := by
  obtain ⟨a, b, l, h1, h2, h3, h4, h5, h6, h7⟩ := hI.2.1
  obtain ⟨a5, g1, g2⟩ := hI.2.2.1
  have hl12 := (hQ.sl a h1).1
  have nn : ∀ {X : mW} {k k' : Nat} {v : Int32}, k' ≠ k → (mA X 5 0 k v).1 5 0 k' = X.1 5 0 k' := fun hk => mA_n (by omega)
  unfold G_X2_advance madv
  refine hg (h.sc 5 0 1 ⟨rfl, by omega, by omega⟩) (hp ?_)
  have k1 : cT θ π n w s0 (gw s (pk 18 w 0) (upd (s.1 (pk 18 w 0)) 1 (W.1 5 0 1 + 1))) (mA W 5 0 1 (W.1 5 0 1 + 1)) := h.wr (j := 5) (i := 0) (k := 1) ⟨rfl, by omega, by omega⟩
  refine hg (v := W.1 5 0 4) ((k1.sc 5 0 4 ⟨rfl, by omega, by omega⟩).trans (nn (by omega))) (hp ?_)
  generalize gw s (pk 18 w 0) (upd (s.1 (pk 18 w 0)) 1 (W.1 5 0 1 + 1)) = s1 at k1 ⊢
  have k2 : cT θ π n w s0 (gw s1 (pk 18 w 0) (upd (s1.1 (pk 18 w 0)) 4 (W.1 5 0 4 - 1))) (mA (mA W 5 0 1 (W.1 5 0 1 + 1)) 5 0 4 (W.1 5 0 4 - 1)) := k1.wr (j := 5) (i := 0) (k := 4) ⟨rfl, by omega, by omega⟩
  generalize gw s1 (pk 18 w 0) (upd (s1.1 (pk 18 w 0)) 4 (W.1 5 0 4 - 1)) = s2 at k2 ⊢
  refine hg (v := W.1 5 0 4 - 1) ((k2.sc 5 0 4 ⟨rfl, by omega, by omega⟩).trans mA_s) ?_
  generalize hW1 : mA (mA W 5 0 1 (W.1 5 0 1 + 1)) 5 0 4 (W.1 5 0 4 - 1) = W1 at k2 ⊢
  have w2 : W1.1 5 0 2 = nI a := by rw [← hW1, nn (by omega), nn (by omega)]; exact h2
  have w3 : W1.1 5 0 3 = nI b := by rw [← hW1, nn (by omega), nn (by omega)]; exact h4
  have w5 : W1.1 5 0 5 = nI a5 := by rw [← hW1, nn (by omega), nn (by omega)]; exact g2
  rw [h4, h2, g2, nI_clamp (by omega), nI_clamp (by omega), nI_clamp (by omega)]
  refine hif (fun c => ?_) (fun c => ?_)
  · simp only [if_pos c]
    refine hg ((k2.sc 5 0 3 ⟨rfl, by omega, by omega⟩).trans w3) (hp ?_)
    have k3 : cT θ π n w s0 (gw s2 (pk 18 w 0) (upd (s2.1 (pk 18 w 0)) 3 (nI b + 1))) (mA W1 5 0 3 (nI b + 1)) := k2.wr (j := 5) (i := 0) (k := 3) ⟨rfl, by omega, by omega⟩
    generalize gw s2 (pk 18 w 0) (upd (s2.1 (pk 18 w 0)) 3 (nI b + 1)) = s3 at k3 ⊢
    rw [nI_1] at k3 ⊢
    refine hg ((k3.sc 5 0 3 ⟨rfl, by omega, by omega⟩).trans mA_s) ?_
    refine hg ((k3.sc 5 0 2 ⟨rfl, by omega, by omega⟩).trans ((nn (by omega)).trans w2)) (hx rfl h1 (by omega) ?_)
    refine hg (k3.pl.sl a h1).2.1 ?_
    rw [List.length_map]
    refine hif (fun c2 => ?_) (fun c2 => ?_)
    · rw [nI_ltI (by omega) (by omega)] at c2
      simp only [if_pos c2]
      exact c_adv95 k3 h1 ((nn (by omega)).trans w2) c2 mA_s hl12
    · rw [nI_ltI (by omega) (by omega)] at c2
      simp only [if_neg c2]
      refine hg ((k3.sc 5 0 5 ⟨rfl, by omega, by omega⟩).trans ((nn (by omega)).trans w5)) (hx rfl g1 (by omega) ?_)
      refine hg (k3.pl.sl a5 g1).2.1 ?_
      rw [List.length_map]
      have fin : ∀ a', a' < 3 → 0 < (psl π a').length → gh (G_X2_advance_87 θ w w (nI a')) s3 (fun _ s' => cT θ π n w s0 s' (mA (mA (mA (mA W1 5 0 3 (nI (b + 1))) 5 0 2 (nI a')) 5 0 3 0) 5 0 4 (nI (msl π (mA (mA (mA W1 5 0 3 (nI (b + 1))) 5 0 2 (nI a')) 5 0 3 0)).2))) := fun a' q1 q2 => by
        unfold G_X2_advance_87
        refine hp ?_
        have k4 : cT θ π n w s0 (gw s3 (pk 18 w 0) (upd (s3.1 (pk 18 w 0)) 2 (nI a'))) (mA (mA W1 5 0 3 (nI (b + 1))) 5 0 2 (nI a')) := k3.wr (j := 5) (i := 0) (k := 2) ⟨rfl, by omega, by omega⟩
        generalize gw s3 (pk 18 w 0) (upd (s3.1 (pk 18 w 0)) 2 (nI a')) = s4 at k4 ⊢
        refine hp ?_
        have k5 : cT θ π n w s0 (gw s4 (pk 18 w 0) (upd (s4.1 (pk 18 w 0)) 3 0)) (mA (mA (mA W1 5 0 3 (nI (b + 1))) 5 0 2 (nI a')) 5 0 3 0) := k4.wr (j := 5) (i := 0) (k := 3) ⟨rfl, by omega, by omega⟩
        exact c_adv95 k5 q1 ((nn (by omega)).trans mA_s) q2 mA_s (hQ.sl a' q1).1
      have hl5 := (hQ.sl a5 g1).1
      refine hif (fun c3 => ?_) (fun c3 => ?_)
      · have z : (psl π a5).length = 0 := by
          rcases Nat.eq_zero_or_pos (psl π a5).length with e | e
          · exact e
          · exact absurd c3 (nI_nle e (by omega))
        simp only [if_pos z]
        exact fin 0 (by omega) hQ.s0
      · have z : ¬ (psl π a5).length = 0 := fun e => c3 (by rw [e]; decide)
        simp only [if_neg z]
        refine hg ((k3.sc 5 0 5 ⟨rfl, by omega, by omega⟩).trans ((nn (by omega)).trans w5)) ?_
        exact fin a5 g1 (by omega)
  · simp only [if_neg c]
    exact hr k2
end CM
