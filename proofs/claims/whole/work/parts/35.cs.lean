/-! THE CLASS'S SHARED INSTRUCTIONS, ticks, resets -/
section CS
variable {θ : gT} {π : mP} {n t w : Nat} {s0 s s' : gS} {W W' : mW} {d : Nat} {x : Int32}
theorem e_chk (h : cT θ π n w s0 s W) {a : Nat} (ha : a < 256) {bd : Int32} : G_X5_channelOfKind θ w (nI a) bd s = some (if a < π.2.1 ∧ plk π a 2 = bd then some a else none, s) := gh_eq (by
  have ht := h.pl.t1
  unfold G_X5_channelOfKind
  refine hg h.pl.nc ?_
  refine hif (fun c => ?_) (fun c => ?_)
  · rw [nI_leI (by omega) (by omega)] at c
    rw [if_neg (by omega)]
    exact hr ⟨rfl, rfl⟩
  · rw [nI_leI (by omega) (by omega)] at c
    refine hx rfl (by rw [ht.2.1]; omega) (by omega) (hg (h.pl.lk a 2 (by omega) (by omega)) ?_)
    refine hif (fun c2 => ?_) (fun c2 => ?_)
    · rw [if_pos ⟨by omega, c2⟩]
      exact hx rfl (by rw [ht.2.1]; omega) (by omega) (hr ⟨rfl, rfl⟩)
    · rw [if_neg (fun q => c2 q.2)]
      exact hr ⟨rfl, rfl⟩)
theorem e_mayF (h : pC θ π s) {a b : Nat} (ha : a < π.1) (hb : b < π.1) : G_X7_mayFlow θ (nI a) (nI b) s = some (if pfl π a b = true then 1 else 0, s) := gh_eq (by
  have ht := h.t1
  have hlt := fb_lt (pfl π a) π.1
  have h64 : fbits (pfl π a) π.1 < 64 := Nat.lt_of_lt_of_le hlt (Nat.pow_le_pow_right (by omega) (show π.1 ≤ 6 by omega))
  have hbt := bt_and _ h64 b (by omega)
  rw [fb_test _ _ _ hb] at hbt
  unfold G_X7_mayFlow
  refine hl (i := a) rfl (by rw [h.fl.1]; omega) (by omega) (h.fl.2 a ha) ?_
  refine hif (fun c => ?_) (fun c => ?_)
  · rw [if_neg (by rw [hbt.mp c]; decide)]; exact hr0 ⟨rfl, rfl⟩
  · rw [if_pos (by cases hp : pfl π a b with | true => rfl | false => exact absurd (hbt.mpr hp) c)]; exact hr1 ⟨rfl, rfl⟩)
theorem e_reign (h : pC θ π s) {a : Nat} (ha : a < π.1) : G_X7_reigns θ (nI a) s = some (if mrg π a then 1 else 0, s) := gh_eq (by
  have ht := h.t1
  have hlt := fb_lt (pfl π a) π.1
  have h64 : fbits (pfl π a) π.1 < 64 := Nat.lt_of_lt_of_le hlt (Nat.pow_le_pow_right (by omega) (show π.1 ≤ 6 by omega))
  have h65 : 2 ^ π.1 ≤ 64 := Nat.pow_le_pow_right (n := 2) (by omega) (show π.1 ≤ 6 by omega)
  unfold G_X7_reigns
  refine hl (i := a) rfl (by rw [h.fl.1]; omega) (by omega) (h.fl.2 a ha) (hg h.nd ?_)
  rw [bt_all π.1 (by omega)]
  refine hif (fun c => ?_) (fun c => ?_)
  · rw [nI_eq (by omega) (by omega), fb_all] at c
    rw [if_pos c]; exact hr1 ⟨rfl, rfl⟩
  · rw [nI_eq (by omega) (by omega), fb_all] at c
    rw [if_neg c]; exact hr0 ⟨rfl, rfl⟩)
theorem e_hasD (h : pC θ π s) (x : Int32) : G_X7_hasDomain θ x s = some (if ¬ x < 0 ∧ x.toNatClampNeg < π.1 then 1 else 0, s) := gh_eq (by
  have ht := h.t1
  unfold G_X7_hasDomain
  refine hif (fun c => ?_) (fun c => ?_)
  · rw [if_neg (fun q => q.1 c)]; exact hr0 ⟨rfl, rfl⟩
  · obtain ⟨j, hj, rfl⟩ := nI_of c
    refine hg h.nd ?_
    rw [nI_clamp hj]
    refine hif (fun c2 => ?_) (fun c2 => ?_)
    · rw [nI_leI (by omega) hj] at c2
      rw [if_neg (by omega)]; exact hr0 ⟨rfl, rfl⟩
    · rw [nI_leI (by omega) hj] at c2
      rw [if_pos ⟨c, by omega⟩]; exact hr1 ⟨rfl, rfl⟩)
theorem e_age (h : cT θ π n w s0 s W) {c : Nat} (hc : c < π.2.1) : G_X1_age θ w c (W.1 5 0 1) s = some (mage W c, s) := gh_eq (by
  unfold G_X1_age mage
  refine hg (h.sc 3 c 6 ⟨hc, by omega⟩) ?_
  refine hif (fun q => ?_) (fun q => ?_)
  · rw [if_pos q]; exact hr ⟨rfl, rfl⟩
  · rw [if_neg q]; exact hg (h.sc 3 c 7 ⟨hc, by omega⟩) (hr ⟨rfl, rfl⟩))
theorem hasE {m : Nat} {y : Int32} (hm : m ≤ 32) (c : mcl y m) : G_X3_hasCells θ y (nI m) s = some (1, s) := by
  rw [e_has hm, if_pos c]
theorem hasN {m : Nat} {y : Int32} (hm : m ≤ 32) (c : ¬ mcl y m) : G_X3_hasCells θ y (nI m) s = some (0, s) := by
  rw [e_has hm, if_neg c]
theorem mchan_of {y z : Int32} (h : xop x = 14 ∨ xop x = 15 ∨ xop x = 16 ∨ xop x = 17) (hy : W.1 0 d (xb x % 8) = y) (hz : W.1 0 d (xc x % 8) = z) : mop π W d x = mchan π W d x y z := by
  subst hy hz
  unfold mop
  rcases h with e | e | e | e <;> simp only [e] <;> rfl
theorem c_send (h : cT θ π n w s0 s W) (hI : mI π n t W) (hQ : mQ π) (hd : d < π.1) (hw : w < 3) (hn3 : n < 3000) (e : xop x = 14) : gh (G_X5_send θ w (nI d) x) s (cPf θ π n w s0 d x W) := by
  have ht := h.pl.t1
  have hn := h.mono (Nat.le_succ n)
  have hno : xop x ≠ 0 ∧ xop x ≠ 9 ∧ xop x ≠ 10 ∧ xop x ≠ 11 := by omega
  have em := mchan_of (π := π) (W := W) (d := d) (Or.inl e) rfl rfl
  unfold mchan at em
  rw [if_pos e] at em
  unfold G_X5_send
  refine hx rfl (by rw [ht.1]; exact hd) (by omega) (hb e_pa (hb (e_chk h (xa_lt x)) ?_))
  by_cases c : xa x < π.2.1 ∧ plk π (xa x) 2 = 0
  · rw [if_pos c]
    refine hg (h.pl.lk _ 0 c.1 (by omega)) ?_
    refine hif (fun c2 => ?_) (fun c2 => ?_)
    · rw [if_pos ⟨c.1, c.2, c2⟩] at em
      refine hb e_pb (hb (e_read h hd (xb_lt x)) (hb e_pc (hb (e_read h hd (xc_lt x)) ?_)))
      refine hif (fun c3 => ?_) (fun c3 => ?_)
      · rw [if_neg (fun q => q.1 c3)] at em
        exact hr0 (cPf_no h em)
      refine hif (fun c4 => ?_) (fun c4 => ?_)
      · rw [if_neg (fun q => q.2.1 c4)] at em
        exact hr0 (cPf_no h em)
      have hz0 : ¬ W.1 0 d (xc x % 8) < 0 := fun q => c3 (Int32.lt_trans q (by decide))
      obtain ⟨m, hm, ez⟩ := nI_of hz0
      rw [ez] at c3 c4 em
      rw [ez]
      rw [show (1 : Int32) = nI 1 from rfl, nI_ltI hm (by omega)] at c3
      rw [show (4 : Int32) = nI 4 from rfl, nI_ltI (by omega) hm] at c4
      rw [nI_clamp hm] at em
      have c34 : ¬ nI m < 1 ∧ ¬ 4 < nI m := ⟨fun q => c3 ((nI_ltI hm (b := 1) (by omega)).mp q), fun q => c4 ((nI_ltI (a := 4) (by omega) hm).mp q)⟩
      by_cases c5 : mcl (W.1 0 d (xb x % 8)) m
      · rw [if_pos ⟨c34.1, c34.2, c5⟩] at em
        refine hb (hasE (by omega) c5) (hF (by decide) ?_)
        obtain ⟨f, hf, ef⟩ := nI_of c5.1
        have c52 := c5.2
        rw [ef, nI_clamp hf] at c52 em
        refine hg (h.sc 3 (xa x) 3 ⟨c.1, by omega⟩) (hg (h.pl.lk _ 3 c.1 (by omega)) ?_)
        refine hif (fun c6 => ?_) (fun c6 => ?_)
        · rw [if_pos c6] at em
          exact hc (c_report hn hd) (fun _ s1 h1 => hr1 (cPf_nx hno h1 em))
        · rw [if_neg c6] at em
          refine hg (h.sc 3 (xa x) 3 ⟨c.1, by omega⟩) (hp ?_)
          have h1 := h.wr (j := 3) (i := xa x) (k := 3) (v := W.1 3 (xa x) 3 + 1) ⟨c.1, by omega⟩
          rw [ef]
          have hml : (mrow W d f m).length = m := mrow_length
          have hadd := c_madd (θ := θ) (k0 := 21) (w0 := w) (i0 := d) (f := f) (m := mrow W d f m) (h1.ms (xa x) c.1).2 (fun mm hmm => ((hI.ms (xa x) 1 c.1 (by omega)).1 mm hmm).2) (by omega) (gGL_mem (by decide) hw (by omega)) rfl (by omega) (by rw [hml]; omega) (by rw [hml, (h1.ln.1 d hd).2]; omega) (by omega) (fun y hy => by
            rw [hml] at hy
            have a1 := h1.sc 1 d (f + y) ⟨hd, by omega⟩
            rw [mA_n (by omega)] at a1
            refine Eq.trans a1 ?_
            unfold mrow
            rw [getD_map (d := 0) (by rw [List.length_range]; exact hy)]
            rw [show (List.range m).getD y 0 = y by
              rw [List.getD_eq_getElem?_getD, List.getElem?_range hy]; rfl])
          rw [hml] at hadd
          refine hc hadd (fun _ s1 q => ?_)
          have h2 := h1.msg (j := 1) (by omega) (Nat.le_succ n) q.1 q.2
          exact hc (c_report h2 hd) (fun _ s2 h3 => hr1 (cPf_nx hno h3 em))
      · rw [if_neg (fun q => c5 q.2.2)] at em
        exact hb (hasN (by omega) c5) (hT rfl (hr0 (cPf_no h em)))
    · rw [if_neg (fun q => c2 q.2.2)] at em
      exact hr0 (cPf_no h em)
  · rw [if_neg c]
    rw [if_neg (fun q => c ⟨q.1, q.2.1⟩)] at em
    exact hr0 (cPf_no h em)
theorem c_take (h : cT θ π n w s0 s W) (hI : mI π n t W) (hQ : mQ π) (hd : d < π.1) (hw : w < 3) (hn3 : n < 3000) (e : xop x = 15) : gh (G_X5_take θ w (nI d) x) s (cPf θ π n w s0 d x W) := by
  have ht := h.pl.t1
  have hn := h.mono (Nat.le_succ n)
  have hno : xop x ≠ 0 ∧ xop x ≠ 9 ∧ xop x ≠ 10 ∧ xop x ≠ 11 := by omega
  have em := mchan_of (π := π) (W := W) (d := d) (Or.inr (Or.inl e)) rfl rfl
  unfold mchan at em
  rw [if_neg (by omega), if_pos e] at em
  unfold G_X5_take
  refine hx rfl (by rw [ht.1]; exact hd) (by omega) (hb e_pa (hb (e_chk h (xa_lt x)) ?_))
  by_cases c : xa x < π.2.1 ∧ plk π (xa x) 2 = 0
  · rw [if_pos c]
    refine hg (h.pl.lk _ 1 c.1 (by omega)) ?_
    refine hif (fun c2 => ?_) (fun c2 => ?_)
    · rw [if_pos ⟨c.1, c.2, c2⟩] at em
      have hms := (h.ms (xa x) c.1).1
      have hml := (hI.ms (xa x) 0 c.1 (by omega)).1
      refine hb (e_left hms) ?_
      cases hV : W.2.2 0 (xa x) with
      | nil =>
        rw [hV] at em
        refine hT rfl ?_
        exact hc (c_report hn hd) (fun _ s1 h1 => hr1 (cPf_nx hno h1 em))
      | cons m tl =>
        rw [hV] at em hms hml
        have hm := hml m (List.mem_cons_self ..)
        obtain ⟨nxt, cap, g1, g2, g3, g4⟩ := id hms
        rw [List.length_cons] at g3
        refine hF (nI_ne0 (by rw [List.length_cons]; omega) (by rw [List.length_cons]; omega)) ?_
        refine hb e_pb (hb (e_read h hd (xb_lt x)) (hb (e_nextW hms (by omega)) ?_))
        by_cases c5 : mcl (W.1 0 d (xb x % 8)) m.length
        · refine hb (hasE (by omega) c5) (hF (by decide) ?_)
          simp only [if_pos c5] at em
          obtain ⟨f, hf, ef⟩ := nI_of c5.1
          have c52 := c5.2
          rw [ef, nI_clamp hf] at c52 em
          rw [ef]
          refine hc (c_takeI (k0 := 21) (w0 := w) (i0 := d) (f := f) hms (by omega) hm.2 (by omega) (by rw [(h.ln.1 d hd).2]; omega) (by omega)) (fun _ s1 q => ?_)
          obtain ⟨q1, q2, q3, q4⟩ := q
          -- first the cells, then the messages
          have h1 := hn.ar (j := 1) (i := d) (f := s1.1 (pk 21 w d)) (g := fun k => if f ≤ k ∧ k < f + m.length then m.getD (k - f) 0 else W.1 1 d k) (by omega) (fun k hk => by
            rw [q4 k]
            split
            · rfl
            · exact h.sc 1 d k hk)
          have hk : ∀ q, q ≠ pk 21 w d → (gw s (pk 21 w d) (s1.1 (pk 21 w d))).1 q = s.1 q := fun q hq => gw_o hq
          have h2 : cT θ π (n + 1) w s0 s1 (mC (mput W d f m) 0 (xa x) tl) := by
            refine h1.msg (j := 0) (c := xa x) (by omega) (Nat.le_refl _) (q1.mono (Nat.le_succ n)) ⟨fun q hq => ⟨?_, ?_⟩, fun hL => ?_, ?_⟩
            · show s1.1 q = (gw s (pk 21 w d) (s1.1 (pk 21 w d))).1 q
              by_cases z : q = pk 21 w d
              · rw [z, gw_s]
              · rw [gw_o z]
                exact (q2.1 q (fun z2 => z2.elim (fun z2 => hq (Or.inl z2)) z)).1
            · show s1.2.1 q = s.2.1 q
              rw [q3]
            · intro q
              rw [q3]
              exact hL q
            · unfold grm gpot
              rw [q3]
              exact ⟨Nat.le_refl _, Nat.le_refl _⟩
          exact hc (c_report h2 hd) (fun _ s2 h3 => hr1 (cPf_nx hno h3 em))
        · simp only [if_neg c5] at em
          exact hb (hasN (by omega) c5) (hT rfl (hr0 (cPf_no h em)))
    · rw [if_neg (fun q => c2 q.2.2)] at em
      exact hr0 (cPf_no h em)
  · rw [if_neg c]
    rw [if_neg (fun q => c ⟨q.1, q.2.1⟩)] at em
    exact hr0 (cPf_no h em)
theorem c_wrB (h : cT θ π n w s0 s W) (hQ : mQ π) (hd : d < π.1) (e : xop x = 16) : gh (G_X5_writeBoard θ w (nI d) x) s (cPf θ π n w s0 d x W) := by
  have ht := h.pl.t1
  have hn := h.mono (Nat.le_succ n)
  have hno : xop x ≠ 0 ∧ xop x ≠ 9 ∧ xop x ≠ 10 ∧ xop x ≠ 11 := by omega
  have em := mchan_of (π := π) (W := W) (d := d) (Or.inr (Or.inr (Or.inl e))) rfl rfl
  unfold mchan at em
  rw [if_neg (by omega), if_neg (by omega), if_pos e] at em
  unfold G_X5_writeBoard
  refine hx rfl (by rw [ht.1]; exact hd) (by omega) (hb e_pa (hb (e_chk h (xa_lt x)) (hb e_pb (hb (e_read h hd (xb_lt x)) ?_))))
  by_cases c : xa x < π.2.1 ∧ plk π (xa x) 2 = 1
  · rw [if_pos c]
    refine hg (h.pl.lk _ 0 c.1 (by omega)) ?_
    have hz := hQ.lk _ c.1
    refine hif (fun c2 => ?_) (fun c2 => ?_)
    · refine hg ((h.pl.lk _ 3 c.1 (by omega)).trans hz.2.2.1) ?_
      by_cases c5 : mcl (W.1 0 d (xb x % 8)) (psz π (xa x))
      · refine hb (hasE (by omega) c5) (hF (by decide) ?_)
        rw [if_pos ⟨⟨c.1, c.2, c2⟩, c5⟩] at em
        obtain ⟨f, hf, ef⟩ := nI_of c5.1
        have c52 := c5.2
        rw [ef, nI_clamp hf] at c52 em
        rw [ef]
        refine hg ((h.pl.lk _ 3 c.1 (by omega)).trans hz.2.2.1) ?_
        refine hcp (sp := f) (dp := 0) (n := psz π (xa x)) rfl rfl rfl (by rw [(h.ln.1 d hd).2]; omega) (by rw [h.ln.2 _ c.1]; omega) (by omega) (by omega) ?_
        have h1 := hn.ar (j := 4) (i := xa x) (f := va_cpy (s.1 (pk 21 w d)) (s.1 (pk 31 w (xa x))) f 0 (psz π (xa x))) (g := fun k => if k < psz π (xa x) then W.1 1 d (f + k) else W.1 4 (xa x) k) (by omega) (fun k hk => by
          have hk2 : k < psz π (xa x) := hk.2
          rw [pk_cpy_in (by omega) (by omega), if_pos hk2, Nat.sub_zero]
          exact h.sc 1 d (f + k) ⟨hd, by omega⟩)
        refine hg (h1.sc 3 (xa x) 6 ⟨c.1, by omega⟩) (hp ?_)
        have h2 := h1.wr (j := 3) (i := xa x) (k := 6) (v := (mAr W 4 (xa x) (fun k => if k < psz π (xa x) then W.1 1 d (f + k) else W.1 4 (xa x) k)).1 3 (xa x) 6 + 1) ⟨c.1, by omega⟩
        refine hg (h2.sc 5 0 1 ⟨rfl, by omega, by omega⟩) (hp (hr1 ?_))
        refine cPf_nx hno (h2.wr (j := 3) (i := xa x) (k := 7) ⟨c.1, by omega⟩) ?_
        rw [em]
        rfl
      · rw [if_neg (fun q => c5 q.2)] at em
        exact hb (hasN (by omega) c5) (hT rfl (hr0 (cPf_no h em)))
    · rw [if_neg (fun q => c2 q.1.2.2)] at em
      exact hr0 (cPf_no h em)
  · rw [if_neg c]
    rw [if_neg (fun q => c ⟨q.1.1, q.1.2.1⟩)] at em
    exact hr0 (cPf_no h em)
theorem c_seeB (h : cT θ π n w s0 s W) (hQ : mQ π) (hd : d < π.1) (e : xop x = 17) : gh (G_X5_seeBoard θ w (nI d) x) s (cPf θ π n w s0 d x W) := by
  have ht := h.pl.t1
  have hn := h.mono (Nat.le_succ n)
  have hno : xop x ≠ 0 ∧ xop x ≠ 9 ∧ xop x ≠ 10 ∧ xop x ≠ 11 := by omega
  have em := mchan_of (π := π) (W := W) (d := d) (Or.inr (Or.inr (Or.inr e))) rfl rfl
  unfold mchan at em
  rw [if_neg (by omega), if_neg (by omega), if_neg (by omega), if_pos e] at em
  unfold G_X5_seeBoard
  refine hx rfl (by rw [ht.1]; exact hd) (by omega) (hb e_pa (hb (e_chk h (xa_lt x)) (hb e_pb (hb (e_read h hd (xb_lt x)) ?_))))
  by_cases c : xa x < π.2.1 ∧ plk π (xa x) 2 = 1
  · rw [if_pos c]
    refine hg (h.pl.lk _ 1 c.1 (by omega)) ?_
    have hz := hQ.lk _ c.1
    refine hif (fun c2 => ?_) (fun c2 => ?_)
    · refine hg ((h.pl.lk _ 3 c.1 (by omega)).trans hz.2.2.1) ?_
      by_cases c5 : mcl (W.1 0 d (xb x % 8)) (psz π (xa x))
      · refine hb (hasE (by omega) c5) (hF (by decide) ?_)
        rw [if_pos ⟨⟨c.1, c.2, c2⟩, c5⟩] at em
        obtain ⟨f, hf, ef⟩ := nI_of c5.1
        have c52 := c5.2
        rw [ef, nI_clamp hf] at c52 em
        rw [ef]
        refine hg ((h.pl.lk _ 3 c.1 (by omega)).trans hz.2.2.1) ?_
        refine hcp (sp := 0) (dp := f) (n := psz π (xa x)) rfl rfl rfl (by rw [h.ln.2 _ c.1]; omega) (by rw [(h.ln.1 d hd).2]; omega) (by omega) (by omega) ?_
        have h1 := hn.ar (j := 1) (i := d) (f := va_cpy (s.1 (pk 31 w (xa x))) (s.1 (pk 21 w d)) 0 f (psz π (xa x))) (g := fun k => if f ≤ k ∧ k < f + ((List.range (psz π (xa x))).map (fun k => W.1 4 (xa x) k)).length then ((List.range (psz π (xa x))).map (fun k => W.1 4 (xa x) k)).getD (k - f) 0 else W.1 1 d k) (by omega) (fun k hk => by
          rw [List.length_map, List.length_range]
          by_cases q : f ≤ k ∧ k < f + psz π (xa x)
          · rw [if_pos q, pk_cpy_in q.1 q.2, Nat.zero_add]
            have hkf : k - f < psz π (xa x) := by omega
            refine Eq.trans (h.sc 4 (xa x) (k - f) ⟨c.1, hkf⟩) ?_
            rw [getD_map (d := 0) (by rw [List.length_range]; exact hkf)]
            rw [show (List.range (psz π (xa x))).getD (k - f) 0 = k - f by
              rw [List.getD_eq_getElem?_getD, List.getElem?_range hkf]; rfl]
          · rw [if_neg q, pk_cpy_out (by omega)]
            exact h.sc 1 d k hk)
        refine hg (h1.sc 5 0 1 ⟨rfl, by omega, by omega⟩) (hb (e_age h1 c.1) ?_)
        refine hc (c_report h1 hd) (fun _ s1 h2 => hr1 (cPf_nx hno h2 ?_))
        rw [em]
        rfl
      · rw [if_neg (fun q => c5 q.2)] at em
        exact hb (hasN (by omega) c5) (hT rfl (hr0 (cPf_no h em)))
    · rw [if_neg (fun q => c2 q.1.2.2)] at em
      exact hr0 (cPf_no h em)
  · rw [if_neg c]
    rw [if_neg (fun q => c ⟨q.1.1, q.1.2.1⟩)] at em
    exact hr0 (cPf_no h em)
theorem c_look (h : cT θ π n w s0 s W) (hd : d < π.1) (e : xop x = 22) : gh (G_X5_look θ w (nI d) x) s (cPf θ π n w s0 d x W) := by
  have ht := h.pl.t1
  have hn := h.mono (Nat.le_succ n)
  have hno : xop x ≠ 0 ∧ xop x ≠ 9 ∧ xop x ≠ 10 ∧ xop x ≠ 11 := by omega
  have hbl := xb_lt x
  have em : mop π W d x = (if xb x < π.1 ∧ pfl π (xb x) d = true ∧ mcl (W.1 0 d (xc x % 8)) 1 then some (mset W d (xa x % 8) (W.1 1 (xb x) (W.1 0 d (xc x % 8)).toNatClampNeg)) else none) := by unfold mop; simp only [e]; rfl
  unfold G_X5_look
  refine hb e_pb (hx rfl (by rw [ht.1]; exact hd) (by omega) (hb e_pc (hb (e_read h hd (xc_lt x)) (hb (e_hasD h.pl _) ?_))))
  rw [nI_clamp (by omega)]
  by_cases c1 : xb x < π.1
  · rw [if_pos ⟨nI_pos (by omega), c1⟩]
    refine hF (by decide) (hb (e_mayF h.pl c1 hd) ?_)
    by_cases c2 : pfl π (xb x) d = true
    · rw [if_pos c2]
      refine hF (by decide) ?_
      by_cases c3 : mcl (W.1 0 d (xc x % 8)) 1
      · refine hb (hasE (m := 1) (by omega) c3) (hF (by decide) ?_)
        rw [if_pos ⟨c1, c2, c3⟩] at em
        obtain ⟨f, hf, ef⟩ := nI_of c3.1
        have c32 := c3.2
        rw [ef, nI_clamp hf] at c32 em
        rw [ef]
        refine hx rfl (by rw [ht.1]; exact hd) (by omega) (hb e_pa (hx rfl (by rw [ht.1]; exact c1) (by omega) ?_))
        refine hl (i := f) rfl (by rw [(h.ln.1 _ c1).2]; omega) hf (h.sc 1 (xb x) f ⟨c1, by omega⟩) ?_
        exact hc (c_write hn hd (xa_lt x)) (fun _ s1 h1 => hr1 (cPf_nx hno h1 em))
      · rw [if_neg (fun q => c3 q.2.2)] at em
        exact hb (hasN (m := 1) (by omega) c3) (hT rfl (hr0 (cPf_no h em)))
    · rw [if_neg c2]
      rw [if_neg (fun q => c2 q.2.1)] at em
      exact hT rfl (hr0 (cPf_no h em))
  · rw [if_neg (fun q => c1 q.2)]
    rw [if_neg (fun q => c1 q.1)] at em
    exact hT rfl (hr0 (cPf_no h em))
theorem e_isS {a : Nat} (ha : a < 256) : G_X10_isSchedule θ (nI a) s = some (if a < 3 then 1 else 0, s) := gh_eq (by
  unfold G_X10_isSchedule
  refine hF (nI_pos (by omega)) ?_
  refine hif (fun c => ?_) (fun c => ?_)
  · have c' : 3 ≤ a := (nI_leI (a := 3) (by omega) (by omega)).mp c
    rw [if_neg (by omega)]; exact hr0 ⟨rfl, rfl⟩
  · have c' : ¬ 3 ≤ a := fun q => c ((nI_leI (a := 3) (by omega) (by omega)).mpr q)
    rw [if_pos (by omega)]; exact hr1 ⟨rfl, rfl⟩)
theorem c_ask (h : cT θ π n w s0 s W) (hd : d < π.1) (e : xop x = 23) : gh (G_X5_ask θ w (nI d) (nI (xa x))) s (cPf θ π n w s0 d x W) := by
  have hn := h.mono (Nat.le_succ n)
  have hno : xop x ≠ 0 ∧ xop x ≠ 9 ∧ xop x ≠ 10 ∧ xop x ≠ 11 := by omega
  have em : mop π W d x = (if xa x < 3 ∧ mrg π d then some (mnx (mA W 5 0 5 (nI (xa x))) d) else none) := by unfold mop; simp only [e]; rfl
  unfold G_X5_ask
  refine hb (e_isS (xa_lt x)) ?_
  by_cases c1 : xa x < 3
  · rw [if_pos c1]
    refine hF (by decide) (hb (e_reign h.pl hd) ?_)
    by_cases c2 : mrg π d
    · rw [if_pos c2]
      rw [if_pos ⟨c1, c2⟩] at em
      refine hF (by decide) (hp (hr1 (cPf_nx hno (hn.wr (j := 5) (i := 0) (k := 5) ⟨rfl, by omega, by omega⟩) em)))
    · rw [if_neg c2]
      rw [if_neg (fun q => c2 q.2)] at em
      exact hT rfl (hr0 (cPf_no h em))
  · rw [if_neg c1]
    rw [if_neg (fun q => c1 q.1)] at em
    exact hT rfl (hr0 (cPf_no h em))
theorem cPf_z {r : Int32} (q : cPf θ π n w s0 d x W r s) : gh (grz r) s (cPf θ π n w s0 d x W) := hrz (q.elim (fun q => Or.inr q.1) (fun q => Or.inl q.1)) q
theorem c_shared (h : cT θ π n w s0 s W) (hI : mI π n t W) (hQ : mQ π) (hd : d < π.1) (hw : w < 3) (hn3 : n < 3000) (hx' : ¬ (xop x ≤ 13 ∨ xop x = 18 ∨ xop x = 19)) : gh (G_X5_performShared θ w (nI d) x) s (cPf θ π n w s0 d x W) := by
  have ht := h.pl.t1
  have hn := h.mono (Nat.le_succ n)
  have hno : xop x ≠ 0 ∧ xop x ≠ 9 ∧ xop x ≠ 10 ∧ xop x ≠ 11 := by omega
  unfold G_X5_performShared
  refine hb e_pa (hb e_op ?_)
  refine gif_op (m := 14) (by omega) rfl (fun e => hc (c_send h hI hQ hd hw hn3 e) (fun r s1 q => cPf_z q)) (fun e14 => ?_)
  refine gif_op (m := 15) (by omega) rfl (fun e => hc (c_take h hI hQ hd hw hn3 e) (fun r s1 q => cPf_z q)) (fun e15 => ?_)
  refine gif_op (m := 16) (by omega) rfl (fun e => hc (c_wrB h hQ hd e) (fun r s1 q => cPf_z q)) (fun e16 => ?_)
  refine gif_op (m := 17) (by omega) rfl (fun e => hc (c_seeB h hQ hd e) (fun r s1 q => cPf_z q)) (fun e17 => ?_)
  refine gif_op (m := 20) (by omega) rfl (fun e => ?_) (fun e20 => ?_)
  · refine hx rfl (by rw [ht.1]; exact hd) (by omega) (hg (h.sc 5 0 1 ⟨rfl, by omega, by omega⟩) ?_)
    exact hc (c_write hn hd (xa_lt x)) (fun _ s1 h1 => hr1 (cPf_nx hno h1 (by unfold mop; simp only [e]; rfl)))
  refine gif_op (m := 21) (by omega) rfl (fun e => ?_) (fun e21 => ?_)
  · exact hpz (Or.inr rfl) (hr1 (cPf_nx hno (hn.wr (j := 5) (i := 0) (k := 6) (v := 1) ⟨rfl, by omega, by omega⟩) (by unfold mop; simp only [e]; rfl)))
  refine gif_op (m := 22) (by omega) rfl (fun e => hc (c_look h hd e) (fun r s1 q => cPf_z q)) (fun e22 => ?_)
  refine gif_op (m := 23) (by omega) rfl (fun e => hc (c_ask h hd e) (fun r s1 q => cPf_z q)) (fun e23 => ?_)
  refine gif_op (m := 24) (by omega) rfl (fun e => ?_) (fun e24 => ?_)
  · refine hx rfl (by rw [ht.1]; exact hd) (by omega) (hg (h.sc 5 0 4 ⟨rfl, by omega, by omega⟩) ?_)
    exact hc (c_write hn hd (xa_lt x)) (fun _ s1 h1 => hr1 (cPf_nx hno h1 (by unfold mop; simp only [e]; rfl)))
  refine hr0 (cPf_no h ?_)
  unfold mop mchan
  rw [if_neg (by omega), if_neg (by omega), if_neg (by omega), if_neg (by omega), if_neg (by omega), if_neg (by omega), if_neg (by omega), if_neg (by omega), if_neg (by omega), if_neg (by omega), if_neg (by omega), if_neg (by omega), if_neg (by omega), if_neg (by omega), if_neg (by omega), if_neg (by omega), if_neg (by omega), if_neg (by omega), if_neg (by omega), if_neg (by omega), if_neg (by omega), if_neg (by omega), if_neg (by omega), if_neg (by omega), if_neg (by omega)]
end CS
