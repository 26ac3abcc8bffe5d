/-! THE CLASS'S TICKS AND RESETS -/
theorem mbgn_n {π : mP} {W W' : mW} (h2 : W'.1 5 0 2 = W.1 5 0 2) (h3 : W'.1 5 0 3 = W.1 5 0 3) : msl π W' = msl π W := by
  unfold msl
  rw [h2, h3]
def kMsg (w c : Nat) (q : gK) : Prop := q = pk 27 w c ∨ q = pk 28 w c ∨ q = pk 29 w c ∨ q = pk 30 w c
theorem gsw_o' {w c : Nat} {q : gK} (h : ¬ kMsg w c q) : gsw w c q = q := by
  unfold gsw
  rw [if_neg (fun e => h (Or.inl e)), if_neg (fun e => h (Or.inr (Or.inr (Or.inl e)))), if_neg (fun e => h (Or.inr (Or.inl e))), if_neg (fun e => h (Or.inr (Or.inr (Or.inr e))))]
section CTK
variable {θ : gT} {π : mP} {n t w : Nat} {s0 s s' : gS} {W W' : mW} {d : Nat} {x : Int32}
theorem e_due (h : cT θ π n w s0 s W) (hI : mI π n t W) (hQ : mQ π) (hn3 : n < 3001) (hd : (msl π W).1 = d) : G_X5_dueInstruction θ w s = some (mins π W d, s) := gh_eq (by
  have ht := h.pl.t1
  have hd1 : d < π.1 := by rw [← hd]; exact (hI.sl hQ).1
  obtain ⟨p, hp1, hp2⟩ := hI.dm d hd1
  unfold G_X5_dueInstruction
  refine hb (e_slD h hI.ck hQ) ?_
  rw [hd]
  refine hx rfl (by rw [ht.1]; exact hd1) (by omega) (hx rfl (by rw [ht.1]; exact hd1) (by omega) (hg ((h.sc 2 d 4 ⟨hd1, by omega, by omega⟩).trans hp2) ?_))
  refine hb (e_getn (h.pl.pr d hd1) rfl (by omega)) (hr ⟨?_, rfl⟩)
  unfold mins
  rw [hp2, nI_clamp (by omega)])
theorem e_isA : G_X5_isAlone θ (nI (xop x)) s = some (if xop x ≤ 13 ∨ xop x = 18 ∨ xop x = 19 then 1 else 0, s) := gh_eq (by
  have hlt := xop_lt x
  unfold G_X5_isAlone G_X5_isAlone_18
  refine hif (fun c => ?_) (fun c => ?_)
  · have c' : xop x ≤ 13 := (nI_leI (b := 13) (by omega) (by omega)).mp c
    rw [if_pos (Or.inl c')]; exact hr1 ⟨rfl, rfl⟩
  have c' : ¬ xop x ≤ 13 := fun q => c ((nI_leI (b := 13) (by omega) (by omega)).mpr q)
  refine gif_op (m := 18) (by omega) rfl (fun e => ?_) (fun e18 => ?_)
  · rw [if_pos (Or.inr (Or.inl e))]; exact hr1 ⟨rfl, rfl⟩
  refine gif_op (m := 19) (by omega) rfl (fun e => ?_) (fun e19 => ?_)
  · rw [if_pos (Or.inr (Or.inr e))]; exact hr1 ⟨rfl, rfl⟩
  rw [if_neg (by omega)]; exact hr0 ⟨rfl, rfl⟩)
theorem c_mk70 {W1 : mW} {r : Int32} (hd : d < π.1) (q : cPf θ π n w s0 d x W1 r s) : gh (G_X5_makeStep_70 θ w (nI d) w d x r) s (fun _ s' => cT θ π (n + 1) w s0 s' (match mop π W1 d x with | some W2 => W2 | none => mfail π W1 d)) := by
  unfold G_X5_makeStep_70
  rcases q with ⟨rfl, W2, W3, h2, em, e1, e2⟩ | ⟨rfl, h2, em⟩
  · refine hF (by decide) (hb (e_plA h2 hd) (hp (hr ?_)))
    rw [em]
    exact (h2.wr (j := 2) (i := d) (k := 4) ⟨hd, by omega, by omega⟩).eqW e1 (fun j i _ _ => by rw [e2]; rfl) (fun j i _ _ => by rw [e2]; rfl)
  · refine hT rfl (hl (i := d) rfl (by rw [h2.pl.wy.1]; exact hd) (by have := h2.pl.t1; omega) (h2.pl.wy.2 d hd) ?_)
    rw [em]
    exact hc (c_fail h2 hd) (fun _ s1 h3 => hr h3)
theorem c_step (h : cT θ π n w s0 s W) (hI : mI π n t W) (hQ : mQ π) (hw : w < 3) (hn3 : n < 3000) (hd : (msl π W).1 = d) : gh (G_X5_makeStep θ w (nI d)) s (fun _ s' => cT θ π (n + 1) w s0 s' (mstep π W d)) := by
  have ht := h.pl.t1
  have hd1 : d < π.1 := by rw [← hd]; exact (hI.sl hQ).1
  obtain ⟨p, hp1, hp2⟩ := hI.dm d hd1
  have hlen := hQ.pr d hd1
  unfold G_X5_makeStep mstep
  refine hx rfl (by rw [ht.1]; exact hd1) (by omega) (hg (h.sc 2 d 7 ⟨hd1, by omega, by omega⟩) (hp ?_))
  have h1 := h.wr (j := 2) (i := d) (k := 7) (v := W.1 2 d 7 + 1) ⟨hd1, by omega, by omega⟩
  have hI1 : mI π n t (mA W 2 d 7 (W.1 2 d 7 + 1)) := hI.A (by omega) (by omega) (by omega)
  have hp3 : (mA W 2 d 7 (W.1 2 d 7 + 1)).1 2 d 4 = nI p := (mA_n (by omega)).trans hp2
  have hsl : (msl π (mA W 2 d 7 (W.1 2 d 7 + 1))).1 = d := by rw [mbgn_n (W := W) (mA_n (by omega)) (mA_n (by omega))]; exact hd
  have hmi : mins π (mA W 2 d 7 (W.1 2 d 7 + 1)) d = mins π W d := by
    unfold mins
    rw [hp3, hp2]
  refine hb (e_due h1 hI1 hQ (by omega) hsl) (hg ((h1.sc 2 d 4 ⟨hd1, by omega, by omega⟩).trans hp3) (hx rfl (by rw [ht.1]; exact hd1) (by omega) (hg (h1.pl.pr d hd1).1 ?_)))
  rw [hmi, hp2, nI_clamp (by omega)]
  refine hif (fun c => ?_) (fun c => ?_)
  · rw [nI_leI (by omega) (by omega)] at c
    simp only [if_neg (show ¬ p < (ppr π d).length by omega)]
    unfold G_X5_makeStep_70
    refine hT rfl (hl (i := d) rfl (Nat.lt_of_lt_of_eq hd1 h1.pl.wy.1.symm) (by omega) (h1.pl.wy.2 d hd1) ?_)
    exact hc (c_fail (h1.mono (Nat.le_succ n)) hd1) (fun _ s1 h3 => hr h3)
  · rw [nI_leI (by omega) (by omega)] at c
    simp only [if_pos (show p < (ppr π d).length by omega)]
    refine hb e_op (hb e_isA ?_)
    by_cases c2 : xop (mins π W d) ≤ 13 ∨ xop (mins π W d) = 18 ∨ xop (mins π W d) = 19
    · rw [if_pos c2]
      refine hF (by decide) (hc (c_alone h1 hI1 hd1 hw (by omega) c2) (fun r s1 q => c_mk70 hd1 q))
    · rw [if_neg c2]
      refine hT rfl (hc (c_shared h1 hI1 hQ hd1 hw hn3 c2) (fun r s1 q => c_mk70 hd1 q))
theorem c_hand (h : cT θ π n w s0 s W) {c : Nat} (hcc : c < π.2.1) : gh (G_X1_handOver θ w c) s (fun _ s' => cT θ π n w s0 s' (mC (mC (mA W 3 c 4 (W.1 3 c 4 + nI (W.2.2 0 c).length)) 0 c (W.2.2 1 c)) 1 c [])) := by
  unfold G_X1_handOver
  refine hg (h.sc 3 c 4 ⟨hcc, by omega⟩) (hb (e_left (h.ms c hcc).1) (hp ?_))
  have h1 := h.wr (j := 3) (i := c) (k := 4) (v := W.1 3 c 4 + nI (W.2.2 0 c).length) ⟨hcc, by omega⟩
  refine hc (c_mclear (h1.ms c hcc).1 (by omega)) (fun _ s2 q => ?_)
  have h2 := h1.msg (j := 0) (c := c) (by omega) (Nat.le_refl _) (q.1 n) q.2
  generalize hW2 : mC (mA W 3 c 4 (W.1 3 c 4 + nI (W.2.2 0 c).length)) 0 c [] = W2 at h2
  have e0 : W2.2.2 0 c = [] := by rw [← hW2, mC_s]
  have e1 : W2.2.2 1 c = W.2.2 1 c := by rw [← hW2, mC_n (by omega)]; rfl
  refine hb (a := ()) (s1 := (fun q => s2.1 (gsw w c q), fun q => s2.2.1 (gsw w c q), s2.2.2)) rfl (hr ?_)
  have hf : fr (kMsg w c) s2 (fun q => s2.1 (gsw w c q), fun q => s2.2.1 (gsw w c q), s2.2.2) := by
    refine ⟨fun q hq => ?_, fun hL q => ?_, ?_⟩
    · show s2.1 (gsw w c q) = s2.1 q ∧ s2.2.1 (gsw w c q) = s2.2.1 q
      rw [gsw_o' hq]
      exact ⟨rfl, rfl⟩
    · show s2.2.1 (gsw w c q) ≤ gcap q.1
      by_cases z : kMsg w c q
      · rcases z with rfl | rfl | rfl | rfl
        · rw [gsw_27]; exact hL _
        · rw [gsw_28]; exact hL _
        · rw [gsw_29]; exact hL _
        · rw [gsw_30]; exact hL _
      · rw [gsw_o' z]; exact hL q
    · have e : gpot (fun q => s2.1 (gsw w c q), fun q => s2.2.1 (gsw w c q), s2.2.2) = gpot s2 := by
        unfold gpot
        refine gpot_swap (fun w' i' => ?_) (fun k w' i' k1 => ?_)
        · show s2.2.1 (gsw w c (pk 28 w' i')) + s2.2.1 (gsw w c (pk 30 w' i')) = _
          by_cases z : w' = w ∧ i' = c
          · obtain ⟨rfl, rfl⟩ := z
            rw [gsw_28, gsw_30, Nat.add_comm]
          · rw [gsw_o' (fun y => by rcases y with y | y | y | y <;> exact pk_ne (by omega) y), gsw_o' (fun y => by rcases y with y | y | y | y <;> exact pk_ne (by omega) y)]
        · show s2.2.1 (gsw w c (pk k w' i')) = _
          rw [gsw_o' (fun y => by rcases y with y | y | y | y <;> exact pk_ne (by omega) y)]
      unfold grm
      rw [e]
      exact ⟨Nat.le_refl _, Nat.le_refl _⟩
  have rs : ∀ k y, ¬ ((k = 27 ∨ k = 28 ∨ k = 29 ∨ k = 30) ∧ y = c) → s2.1 (gsw w c (pk k w y)) = s2.1 (pk k w y) ∧ s2.2.1 (gsw w c (pk k w y)) = s2.2.1 (pk k w y) := fun k y hk => by
    rw [gsw_o' (fun z => by rcases z with z | z | z | z <;> exact pk_ne (by omega) z)]
    exact ⟨rfl, rfl⟩
  refine h2.lst hf (fun q hq => ?_) (fun j i k => ?_) (fun y hy => ⟨?_, ?_⟩) (fun y hy => ⟨?_, ?_⟩)
  · rcases hq with rfl | rfl | rfl | rfl
    all_goals exact ⟨rfl, by dsimp only [pk]; omega⟩
  · rw [← hW2]; rfl
  · have := (h2.rw y hy).1
    rw [← hW2] at this
    exact this.cg (rs 22 y (by omega)).1 (rs 23 y (by omega)).1 (rs 23 y (by omega)).2
  · have := (h2.rw y hy).2
    rw [← hW2] at this
    exact this.cg (rs 24 y (by omega)).1 (rs 25 y (by omega)).1 (rs 25 y (by omega)).2
  · rw [mC_n (by omega)]
    by_cases z : y = c
    · subst z
      rw [mC_s, ← e1]
      have := (h2.ms y hy).2
      exact cMsg.cg (k' := 27) this (by show s2.1 (gsw w y (pk 27 w y)) = _; rw [gsw_27]) (by show s2.1 (gsw w y (pk 28 w y)) = _; rw [gsw_28]) (by show s2.2.1 (gsw w y (pk 28 w y)) = _; rw [gsw_28])
    · rw [mC_n (by omega)]
      have := (h2.ms y hy).1
      rw [← hW2, mC_n (by omega)] at this
      exact this.cg (rs 27 y (by omega)).1 (rs 28 y (by omega)).1 (rs 28 y (by omega)).2
  · by_cases z : y = c
    · subst z
      rw [mC_s, ← e0]
      have := (h2.ms y hy).1
      exact cMsg.cg (k' := 29) this (by show s2.1 (gsw w y (pk 29 w y)) = _; rw [gsw_29]) (by show s2.1 (gsw w y (pk 30 w y)) = _; rw [gsw_30]) (by show s2.2.1 (gsw w y (pk 30 w y)) = _; rw [gsw_30])
    · rw [mC_n (by omega), mC_n (by omega)]
      have := (h2.ms y hy).2
      rw [← hW2, mC_n (by omega)] at this
      exact this.cg (rs 29 y (by omega)).1 (rs 30 y (by omega)).1 (rs 30 y (by omega)).2
def pcut (π : mP) (m : Nat) : mP := (π.1, m, π.2.2)
theorem mbeg_ab (m : Nat) (W : mW) (d j i k : Nat) : (mbeg (pcut π m) W d).1 j i k = if j = 3 ∧ k = 3 ∧ i < m ∧ plk π i 0 = nI d then 0 else if j = 3 ∧ k = 4 ∧ i < m ∧ plk π i 1 = nI d then W.1 3 i 4 + nI (W.2.2 0 i).length else if j = 5 ∧ i = 0 ∧ k = 6 then 0 else W.1 j i k := rfl
theorem mbeg_cb (m : Nat) (W : mW) (d j i : Nat) : (mbeg (pcut π m) W d).2.2 j i = if i < m ∧ plk π i 1 = nI d then (if j = 0 then W.2.2 1 i else if j = 1 then [] else W.2.2 j i) else W.2.2 j i := rfl
theorem mbeg_ne {m j i k : Nat} (h : ¬ (j = 3 ∧ i = m)) : (mbeg (pcut π (m + 1)) W d).1 j i k = (mbeg (pcut π m) W d).1 j i k := by
  rw [mbeg_ab, mbeg_ab]
  by_cases y : j = 3
  · have e : i < m + 1 ↔ i < m := ⟨fun _ => by omega, fun _ => by omega⟩
    simp only [e]
  · simp only [y, false_and, if_false]
theorem mbeg_m0 {m k : Nat} : (mbeg (pcut π m) W d).1 3 m k = W.1 3 m k := by
  rw [mbeg_ab, if_neg (by omega), if_neg (by omega), if_neg (by omega)]
theorem mbeg_m3 {m : Nat} : (mbeg (pcut π (m + 1)) W d).1 3 m 3 = if plk π m 0 = nI d then 0 else W.1 3 m 3 := by
  rw [mbeg_ab]
  by_cases c : plk π m 0 = nI d
  · rw [if_pos c, if_pos ⟨rfl, rfl, by omega, c⟩]
  · rw [if_neg c, if_neg (fun q => c q.2.2.2), if_neg (by omega), if_neg (by omega)]
theorem mbeg_m4 {m : Nat} : (mbeg (pcut π (m + 1)) W d).1 3 m 4 = if plk π m 1 = nI d then W.1 3 m 4 + nI (W.2.2 0 m).length else W.1 3 m 4 := by
  rw [mbeg_ab, if_neg (by omega)]
  by_cases c : plk π m 1 = nI d
  · rw [if_pos c, if_pos ⟨rfl, rfl, by omega, c⟩]
  · rw [if_neg c, if_neg (fun q => c q.2.2.2), if_neg (by omega)]
theorem mbeg_mk {m k : Nat} (h : k ≠ 3) (h4 : k ≠ 4) : (mbeg (pcut π (m + 1)) W d).1 3 m k = W.1 3 m k := by
  rw [mbeg_ab, if_neg (by omega), if_neg (by omega), if_neg (by omega)]
theorem mbeg_cne {m j i : Nat} (h : i ≠ m) : (mbeg (pcut π (m + 1)) W d).2.2 j i = (mbeg (pcut π m) W d).2.2 j i := by
  rw [mbeg_cb, mbeg_cb]
  have e : i < m + 1 ↔ i < m := ⟨fun _ => by omega, fun _ => by omega⟩
  simp only [e]
theorem mbeg_c0 {m j : Nat} : (mbeg (pcut π m) W d).2.2 j m = W.2.2 j m := by
  rw [mbeg_cb, if_neg (by omega)]
theorem mbeg_c1 {m j : Nat} (h : plk π m 1 = nI d) : (mbeg (pcut π (m + 1)) W d).2.2 j m = if j = 0 then W.2.2 1 m else if j = 1 then [] else W.2.2 j m := by
  rw [mbeg_cb, if_pos ⟨by omega, h⟩]
theorem mbeg_c2 {m j : Nat} (h : ¬ plk π m 1 = nI d) : (mbeg (pcut π (m + 1)) W d).2.2 j m = W.2.2 j m := by
  rw [mbeg_cb, if_neg (fun q => h q.2)]
/-- the first half of a channel's part in a slot's beginning -/
def mbh (π : mP) (W : mW) (d m : Nat) : mW := if plk π m 0 = nI d then mA (mbeg (pcut π m) W d) 3 m 3 0 else mbeg (pcut π m) W d
theorem mbh_1 {m j i k : Nat} (h : ¬ (j = 3 ∧ i = m)) : (mbh π W d m).1 j i k = (mbeg (pcut π (m + 1)) W d).1 j i k := by
  rw [mbeg_ne h]
  unfold mbh
  split
  · rw [mA_n (by omega)]
  · rfl
theorem mbh_3 {m : Nat} : (mbh π W d m).1 3 m 3 = (mbeg (pcut π (m + 1)) W d).1 3 m 3 := by
  rw [mbeg_m3]
  unfold mbh
  split
  · rw [mA_s]
  · rw [mbeg_m0]
theorem mbh_k {m k : Nat} (h : k ≠ 3) : (mbh π W d m).1 3 m k = W.1 3 m k := by
  unfold mbh
  split
  · rw [mA_n (by omega), mbeg_m0]
  · rw [mbeg_m0]
theorem mbh_B {m : Nat} : (mbh π W d m).2 = (mbeg (pcut π m) W d).2 := by
  unfold mbh
  split <;> rfl
theorem mbh_C {m j i : Nat} : (mbh π W d m).2.2 j i = (mbeg (pcut π m) W d).2.2 j i := by rw [mbh_B]
theorem c_bg26 (hd : d < 2 ^ 31) : ∀ (fu m : Nat) (s : gS), cT θ π n w s0 s (mbeg (pcut π m) W d) → π.2.1 - m < fu → m ≤ π.2.1 → gh (G_X5_beginTick_26 θ fu w (nI d) (nI m)) s (fun _ s' => cT θ π n w s0 s' (mbeg π W d))
  | 0, m, s, _, h, _ => by omega
  | fu + 1, m, s, h, hf, hm => by
    have ht := h.pl.t1
    unfold G_X5_beginTick_26
    refine hg h.pl.nc ?_
    refine hif (fun c => ?_) (fun c => ?_)
    · rw [nI_leI (by omega) (by omega)] at c
      have e : m = π.2.1 := by omega
      subst e
      exact hr h
    · rw [nI_leI (by omega) (by omega)] at c
      have hmc : m < π.2.1 := by omega
      refine hx rfl (by rw [ht.2.1]; exact hmc) (by omega) (hg (h.pl.lk m 0 hmc (by omega)) ?_)
      have mid : ∀ s1, cT θ π n w s0 s1 (mbh π W d m) → gh (G_X5_beginTick_60 θ (G_X5_beginTick_26 θ fu) w (nI d) (nI m) w m) s1 (fun _ s' => cT θ π n w s0 s' (mbeg π W d)) := fun s1 h1 => by
        unfold G_X5_beginTick_60 G_X5_beginTick_75
        refine hg (h1.pl.lk m 1 hmc (by omega)) ?_
        rw [nI_1]
        refine hif (fun c1 => ?_) (fun c1 => ?_)
        · refine hc (c_hand h1 hmc) (fun _ s2 h2 => ?_)
          refine c_bg26 hd fu (m + 1) s2 (h2.eqW (fun j i k hr => ?_) (fun j i _ _ => ?_) (fun j i _ _ => ?_)) (by omega) (by omega)
          · show _ = (mA (mbh π W d m) 3 m 4 _).1 j i k
            by_cases z : j = 3 ∧ i = m
            · obtain ⟨rfl, rfl⟩ := z
              by_cases z4 : k = 4
              · subst z4
                rw [mA_s, mbeg_m4, if_pos c1, mbh_k (by omega), mbh_C, mbeg_c0]
              · rw [mA_n (by omega)]
                by_cases z3 : k = 3
                · subst z3
                  rw [mbh_3]
                · rw [mbh_k z3, mbeg_mk z3 z4]
            · rw [mA_n (by omega), mbh_1 z]
          · show _ = (mbh π W d m).2.1 j i
            rw [mbh_B]; rfl
          · by_cases z : i = m
            · subst z
              rw [mbeg_c1 c1]
              by_cases z1 : j = 1
              · subst z1
                rw [mC_s]; rfl
              · have z0 : j = 0 := by omega
                subst z0
                rw [mC_n (by omega), mC_s, if_pos rfl, mbh_C, mbeg_c0]
            · rw [mC_n (by omega), mC_n (by omega), mbeg_cne z]
              show _ = (mbh π W d m).2.2 j i
              rw [mbh_C]
        · refine c_bg26 hd fu (m + 1) s1 (h1.eqW (fun j i k hr => ?_) (fun j i _ _ => ?_) (fun j i _ _ => ?_)) (by omega) (by omega)
          · by_cases z : j = 3 ∧ i = m
            · obtain ⟨rfl, rfl⟩ := z
              by_cases z3 : k = 3
              · subst z3
                rw [mbh_3]
              · rw [mbh_k z3]
                by_cases z4 : k = 4
                · subst z4
                  rw [mbeg_m4, if_neg c1]
                · rw [mbeg_mk z3 z4]
            · rw [mbh_1 z]
          · rw [mbh_B]; rfl
          · rw [mbh_C]
            by_cases z : i = m
            · subst z
              rw [mbeg_c2 c1, mbeg_c0]
            · rw [mbeg_cne z]
      refine hif (fun c0 => ?_) (fun c0 => ?_)
      · refine hp (mid _ ?_)
        unfold mbh
        rw [if_pos c0]
        exact h.wr (j := 3) (i := m) (k := 3) ⟨hmc, by omega⟩
      · refine mid _ ?_
        unfold mbh
        rw [if_neg c0]
        exact h
theorem c_beg (h : cT θ π n w s0 s W) (hI : mI π n t W) (hQ : mQ π) : gh (G_X5_beginTick θ w) s (fun _ s' => cT θ π n w s0 s' (mbg π W)) := by
  have hsl := hI.sl hQ
  have ht := h.pl.t1
  unfold G_X5_beginTick mbg
  refine hb (e_bgs h hI.ck hQ) ?_
  by_cases c : mbgn π W
  · rw [if_pos c, if_pos c]
    refine hF (by decide) (hpz (Or.inl rfl) ?_)
    have h1 := h.wr (j := 5) (i := 0) (k := 6) (v := 0) ⟨rfl, by omega, by omega⟩
    have hI1 := hI.A56 (v := 0) (Or.inl rfl)
    refine hb (e_slD h1 hI1.ck hQ) ?_
    rw [mbgn_n (W := W) (mA_n (by omega)) (mA_n (by omega))]
    refine c_bg26 (by omega) mo_fu 0 _ (h1.eqW (fun j i k _ => ?_) (fun _ _ _ _ => rfl) (fun j i _ _ => ?_)) (by unfold mo_fu; omega) (Nat.zero_le _)
    · rw [mbeg_ab, if_neg (by omega), if_neg (by omega)]
      rfl
    · rw [mbeg_cb, if_neg (by omega)]; rfl
  · rw [if_neg c, if_neg c]
    exact hT rfl (hr h)
theorem msl_bg : msl π (mbg π W) = msl π W := by
  unfold mbg
  split
  · exact mbgn_n (mbeg_n (by omega) (by omega) (by omega)) (mbeg_n (by omega) (by omega) (by omega))
  · rfl
theorem msl_F (h : mFt π d W W') : msl π W' = msl π W := mbgn_n (h.1 2 (by omega) (by omega)) (h.1 3 (by omega) (by omega))
theorem c_end (h : cT θ π n w s0 s W) (hI : mI π n t W) (hQ : mQ π) (hd : (msl π W).1 = d) : gh (G_X5_endTick θ w) s (fun _ s' => cT θ π n w s0 s' (madv π (mA W 2 d 8 (W.1 2 d 8 + 1)))) := by
  have ht := h.pl.t1
  have hd1 : d < π.1 := by rw [← hd]; exact (hI.sl hQ).1
  unfold G_X5_endTick
  refine hb (e_slD h hI.ck hQ) ?_
  rw [hd]
  refine hx rfl (by rw [ht.1]; exact hd1) (by omega) (hg (h.sc 2 d 8 ⟨hd1, by omega, by omega⟩) (hp ?_))
  have h1 := h.wr (j := 2) (i := d) (k := 8) (v := W.1 2 d 8 + 1) ⟨hd1, by omega, by omega⟩
  exact hc (c_adv h1 (hI.A (by omega) (by omega) (by omega) : mI π n t _).ck hQ) (fun _ s1 h2 => hr h2)
theorem c_pass0 (h : cT θ π n w s0 s W) (hI : mI π n t W) (hQ : mQ π) : gh (G_X5_passIdle θ w) s (fun _ s' => cT θ π n w s0 s' (mpass π W false)) := by
  unfold G_X5_passIdle mpass
  refine hc (c_beg h hI hQ) (fun _ s1 h1 => ?_)
  refine hc (c_end h1 (mbg_I hI) hQ (by rw [msl_bg])) (fun _ s2 h2 => hr h2)
theorem c_pass1 (h : cT θ π n w s0 s W) (hI : mI π n t W) (hQ : mQ π) (hw : w < 3) (hn3 : n < 3000) : gh (G_X5_passWithStep θ w) s (fun _ s' => cT θ π (n + 1) w s0 s' (mpass π W true)) := by
  unfold G_X5_passWithStep mpass
  refine hc (c_beg h hI hQ) (fun _ s1 h1 => ?_)
  refine hb (e_slD h1 (mbg_I hI).ck hQ) ?_
  rw [msl_bg]
  refine hc (c_step h1 (mbg_I hI) hQ hw hn3 (by rw [msl_bg])) (fun _ s2 h2 => ?_)
  refine hc (c_end h2 (mstep_I (mbg_I hI) hQ (hI.sl hQ).1) hQ (by rw [msl_F mstep_F, msl_bg])) (fun _ s3 h3 => hr h3)
theorem c_idl8 (hQ : mQ π) {T : Nat} (hT2 : T < 900000) : ∀ (fu t : Nat) (s : gS) (W : mW), cT θ π n w s0 s W → mI π n t W → T - t < fu → t ≤ 900000 → gh (G_X5_passIdleUntil_8 θ fu w (nI T) (nI t)) s (fun _ s' => cT θ π n w s0 s' (mid π (T - t) W))
  | 0, t, s, W, _, _, h, _ => by omega
  | fu + 1, t, s, W, h, hI, hf, htt => by
    unfold G_X5_passIdleUntil_8
    refine hif (fun c => ?_) (fun c => ?_)
    · rw [nI_leI (by omega) (by omega)] at c
      rw [show T - t = 0 by omega]
      exact hr h
    · rw [nI_leI (by omega) (by omega)] at c
      rw [nI_1, show T - t = (T - (t + 1)) + 1 by omega]
      exact hc (c_pass0 h hI hQ) (fun _ s1 h1 => c_idl8 hQ hT2 fu (t + 1) s1 _ h1 (mpass_I hI hQ) (by omega) (by omega))
theorem c_idl (hQ : mQ π) {T : Nat} (hT2 : T < 900000) (h : cT θ π n w s0 s W) (hI : mI π n t W) (htt : t < 900000) : gh (G_X5_passIdleUntil θ w (nI T)) s (fun _ s' => cT θ π n w s0 s' (mid π (T - t) W)) := by
  unfold G_X5_passIdleUntil
  exact hg ((h.sc 5 0 1 ⟨rfl, by omega, by omega⟩).trans hI.ck.1) (c_idl8 hQ hT2 mo_fu t s W h hI (by unfold mo_fu; omega) (by omega))
end CTK
