/-! THE REFERENCE'S TICKS AND RESETS -/
section RP
variable {θ : gT} {π : mP} {n t w : Nat} {bv : Int32} {s0 s s' : gS} {W W' : mW} {d : Nat} {x : Int32}
theorem e_slR (h : rT π n w bv s0 s W) (hI : mIc π t W) (hQ : mQ π) : G_X11_slotDomain θ (nI w) s = some (nI (msl π W).1, s) := gh_eq (by
  obtain ⟨a, b, l, h1, h2, h3, h4, h5, h6, h7⟩ := hI.2.1
  have := (hQ.sl a h1).1
  unfold G_X11_slotDomain
  refine rt_g h hQ (j := 5) (i := 0) (k := 2) ⟨rfl, by omega, by omega⟩ rfl rfl ?_
  refine rt_g h hQ (j := 5) (i := 0) (k := 3) ⟨rfl, by omega, by omega⟩ rfl rfl ?_
  rw [h2, h4]
  simp only [m_12, nI_add]
  refine hlr (i := 12 * a + b) rfl (h.ln 52 (by omega)) (by show _ < 36; omega) ((h.pl.sl a h1).2 b h3).1 (hr ⟨?_, rfl⟩)
  unfold msl
  rw [h2, h4, nI_clamp (by omega), nI_clamp (by omega)])
theorem e_rdy (h : rT π n w bv s0 s W) (hI : mI π n t W) (hQ : mQ π) (hb' : bv = if mbgn π W then 1 else 0) : G_X11_isReady θ (nI w) s = some (if mrdy π W then 1 else 0, s) := gh_eq (by
  have hsl := hI.sl hQ
  have hw := h.w3
  have ht := h.pl.t1
  unfold G_X11_isReady G_X11_isReady_36
  refine hb (e_slR h hI.ck hQ) ?_
  simp only [m_6, nI_add]
  refine rt_g h hQ (j := 2) (i := (msl π W).1) (k := 5) ⟨hsl.1, by omega, by omega⟩ rfl rfl ?_
  refine hif (fun c => ?_) (fun c => ?_)
  · refine hlr (i := w) rfl (h.ln 92 (by omega)) (by show _ < 3; omega) h.bg ?_
    rw [hb']
    by_cases q : mbgn π W
    · rw [if_pos q, if_pos ⟨c, Or.inl q⟩]
      exact hF (by decide) (hr1 ⟨rfl, rfl⟩)
    · rw [if_neg q]
      refine hT rfl (rt_g h hQ (j := 5) (i := 0) (k := 6) ⟨rfl, by omega, by omega⟩ rfl rfl ?_)
      refine hif (fun c2 => ?_) (fun c2 => ?_)
      · rw [if_pos ⟨c, Or.inr c2⟩]; exact hr1 ⟨rfl, rfl⟩
      · rw [if_neg (fun z => z.2.elim q c2)]; exact hr0 ⟨rfl, rfl⟩
  · rw [if_neg (fun z => c z.1)]; exact hr0 ⟨rfl, rfl⟩)
theorem e_insR (h : rT π n w bv s0 s W) (hI : mI π n t W) (hQ : mQ π) (hn3 : n < 3001) (hd : d < π.1) : G_X11_instructionAt θ (nI w) (nI d) s = some (mins π W d, s) := gh_eq (by
  obtain ⟨p, hp1, hp2⟩ := hI.dm d hd
  have hlen := hQ.pr d hd
  have ht := h.pl.t1
  unfold G_X11_instructionAt mins
  simp only [m_6, nI_add]
  refine rt_g h hQ (j := 2) (i := d) (k := 4) ⟨hd, by omega, by omega⟩ rfl rfl ?_
  rw [hp2, nI_clamp (by omega)]
  refine hlr (i := d) rfl (h.ln 50 (by omega)) (by show _ < 6; omega) (h.pl.pr d hd).1 ?_
  refine hif (fun c => ?_) (fun c => ?_)
  · rw [nI_leI (by omega) (by omega)] at c
    rw [getD_def c]; exact hr ⟨rfl, rfl⟩
  · rw [nI_leI (by omega) (by omega)] at c
    simp only [m_64, nI_add]
    exact hlr (i := 64 * d + p) rfl (h.ln 49 (by omega)) (by show _ < 384; omega) ((h.pl.pr d hd).2 p (by omega)) (hr ⟨rfl, rfl⟩))
theorem rt_bg (h : rT π n w bv s0 s W) {v : Int32} (hv : v = 0 ∨ v = 1) {β : Type} {Q : β → gS → Prop} {Kc : Unit → gM β} (kk : ∀ s', rT π n w v s0 s' W → gh (Kc ()) s' Q) : gh (gb (gsz (pk 92 0 0) (nI w) v) Kc) s Q := by
  have hw := h.w3
  refine hzr (i := w) hv rfl (h.ln 92 (by omega)) (by show _ < 3; omega) (fun s1 f0 f1 f2 => kk s1 ?_)
  have ho : ∀ k, k ≠ 92 → s1.1 (rk k) = s.1 (rk k) := fun k hk => f2 _ (rk_ne hk)
  refine ⟨fun j i k hr => ?_, fun c k hc h1 h2 => ?_, ?_, ?_, h.io.cg (fun k k1 k2 => ho k (by omega)), h.ms.cg (fun k hk => ho k (by omega)), h.pl.cg (fun k hk => ho k (by omega)), h.fm.tr (rfr.up1 (K := 92) (show w = w from rfl) f0 f1 f2), hw⟩
  · have hv := rKd_r hr
    rw [← h.sc j i k hr, ho _ (by rw [rF_1]; omega)]
  · rw [ho 80 (by omega)]; exact h.sh c k hc h1 h2
  · rw [f1, upd_s]
  · intro k hk
    rw [f0]; exact h.ln k hk
/-- a slot's beginning up to channel m, the gift still standing -/
def mb6 (π : mP) (W : mW) (d m : Nat) : mW := mA (mbeg (pcut π m) W d) 5 0 6 (W.1 5 0 6)
theorem mb6_1 {m j i k : Nat} (hn : ¬ (j = 5 ∧ i = 0 ∧ k = 6)) : (mb6 π W d m).1 j i k = (mbeg (pcut π m) W d).1 j i k := mA_n hn
theorem r_bg2 (hQ : mQ π) (hI : mI π n t W) (hd : d < 2 ^ 31) : ∀ (fu m : Nat) (s : gS), rT π n w bv s0 s (mb6 π W d m) → π.2.1 - m < fu → m ≤ π.2.1 → gh (G_X11_beginSlot_2 θ fu (nI w) (nI d) (nI m)) s (fun _ s' => rT π n w 0 s0 s' (mbeg π W d))
  | 0, m, s, _, h, _ => by omega
  | fu + 1, m, s, h, hf, hm => by
    have ht := h.pl.t1
    have hw := h.w3
    unfold G_X11_beginSlot_2
    refine hg h.pl.nc ?_
    refine hif (fun c => ?_) (fun c => ?_)
    · rw [nI_leI (by omega) (by omega)] at c
      have e : m = π.2.1 := by omega
      subst e
      unfold G_X11_beginSlot_128
      refine rt_z h hQ (j := 5) (i := 0) (k := 6) (Or.inl rfl) ⟨rfl, by omega, by omega⟩ rfl rfl (fun s1 h1 => ?_)
      refine rt_bg h1 (Or.inl rfl) (fun s2 h2 => hr (h2.eqW (fun j i k _ => ?_) (fun _ _ _ _ => rfl) (fun _ _ _ _ => rfl)))
      by_cases z : j = 5 ∧ i = 0 ∧ k = 6
      · obtain ⟨rfl, rfl, rfl⟩ := z
        rw [mA_s, mbeg_6]
      · rw [mA_n z, mb6_1 z]; rfl
    · rw [nI_leI (by omega) (by omega)] at c
      have hmc : m < π.2.1 := by omega
      have hz := hQ.lk m hmc
      simp only [m_12, nI_add]
      -- the second half: what was sent in the slot before
      have mid : ∀ s1 V, rT π n w bv s0 s1 V → V.2.1 = W.2.1 → (∀ j i k, mR π j i k → ¬ (j = 3 ∧ i = m ∧ k = 3) → V.1 j i k = (mb6 π W d (m + 1)).1 j i k) → V.1 3 m 3 = W.1 3 m 3 → (∀ j c, j < 2 → c < π.2.1 → V.2.2 j c = (mbeg (pcut π (m + 1)) W d).2.2 j c) → gh (G_X11_beginSlot_104 θ (G_X11_beginSlot_2 θ fu) (nI w) (nI d) (nI m) (nI (12 * w + m))) s1 (fun _ s' => rT π n w 0 s0 s' (mbeg π W d)) := fun s1 V h1 vB vA v3 vC => by
        unfold G_X11_beginSlot_104 G_X11_beginSlot_122
        refine hlr (i := m) rfl (h1.ln 45 (by omega)) (by show _ < 12; omega) (h1.pl.lk m 0 hmc (by omega)) ?_
        rw [nI_1]
        refine hif (fun c0 => ?_) (fun c0 => ?_)
        · refine rt_s h1 hQ (j := 3) (i := m) (k := 3) ⟨hmc, by omega⟩ rfl rfl (fun s2 h2 => ?_)
          refine r_bg2 hQ hI hd fu (m + 1) s2 (h2.eqW (fun j i k hr => ?_) (fun j i _ _ => ?_) (fun j i hj hi => ?_)) (by omega) (by omega)
          · by_cases z : j = 3 ∧ i = m ∧ k = 3
            · obtain ⟨rfl, rfl, rfl⟩ := z
              rw [mA_s, mb6_1 (by omega), mbeg_m3, if_pos c0]
            · rw [mA_n z, vA j i k hr z]
          · show W.2.1 j i = V.2.1 j i
            rw [vB]
          · exact (vC j i hj hi).symm
        · refine r_bg2 hQ hI hd fu (m + 1) s1 (h1.eqW (fun j i k hr => ?_) (fun j i _ _ => ?_) (fun j i hj hi => ?_)) (by omega) (by omega)
          · by_cases z : j = 3 ∧ i = m ∧ k = 3
            · obtain ⟨rfl, rfl, rfl⟩ := z
              rw [v3, mb6_1 (by omega), mbeg_m3, if_neg c0]
            · rw [vA j i k hr z]
          · show W.2.1 j i = V.2.1 j i
            rw [vB]
          · exact (vC j i hj hi).symm
      have mb33 : (mb6 π W d m).1 3 m 3 = W.1 3 m 3 := by rw [mb6_1 (by omega), mbeg_m0]
      -- a channel that isn't the domain's, or a board: nothing is handed over
      have same : (¬ plk π m 1 = nI d ∨ plk π m 2 = 1) → gh (G_X11_beginSlot_104 θ (G_X11_beginSlot_2 θ fu) (nI w) (nI d) (nI m) (nI (12 * w + m))) s (fun _ s' => rT π n w 0 s0 s' (mbeg π W d)) := fun hq => by
        have hE : plk π m 2 = 1 → ∀ j, j < 2 → W.2.2 j m = [] := fun q j hj => (hI.ms m j hmc hj).2 q
        refine mid s (mb6 π W d m) h rfl (fun j i k hr hn => ?_) mb33 (fun j c' hj hc' => ?_)
        · by_cases z6 : j = 5 ∧ i = 0 ∧ k = 6
          · obtain ⟨rfl, rfl, rfl⟩ := z6
            unfold mb6
            rw [mA_s, mA_s]
          · rw [mb6_1 z6, mb6_1 z6]
            by_cases z : j = 3 ∧ i = m
            · obtain ⟨rfl, rfl⟩ := z
              rw [mbeg_m0]
              by_cases z4 : k = 4
              · subst z4
                rw [mbeg_m4]
                by_cases z1 : plk π i 1 = nI d
                · rw [if_pos z1]
                  rcases hq with hq | hq
                  · exact absurd z1 hq
                  · rw [hE hq 0 (by omega)]
                    show _ = W.1 3 i 4 + 0
                    rw [Int32.add_zero]
                · rw [if_neg z1]
              · rw [mbeg_mk (by omega) z4]
            · rw [mbeg_ne z]
        · show (mbeg (pcut π m) W d).2.2 j c' = _
          by_cases z : c' = m
          · subst z
            rw [mbeg_c0]
            by_cases z1 : plk π c' 1 = nI d
            · rcases hq with hq | hq
              · exact absurd z1 hq
              · rw [mbeg_c1 z1, hE hq j hj]
                by_cases j0 : j = 0
                · rw [if_pos j0, hE hq 1 (by omega)]
                · rw [if_neg j0, if_pos (by omega)]
            · rw [mbeg_c2 z1]
          · rw [mbeg_cne z]
      refine hlr (i := m) rfl (h.ln 47 (by omega)) (by show _ < 12; omega) (h.pl.lk m 2 hmc (by omega)) ?_
      refine hif (fun b0 => ?_) (fun b0 => ?_)
      · refine hlr (i := m) rfl (h.ln 46 (by omega)) (by show _ < 12; omega) (h.pl.lk m 1 hmc (by omega)) ?_
        refine hif (fun c1 => ?_) (fun c1 => ?_)
        · have hcn := rM_cnt h.ms hmc
          have eC : ∀ j, (mb6 π W d m).2.2 j m = W.2.2 j m := fun j => mbeg_c0
          rw [eC, eC] at hcn
          refine rt_g h hQ (j := 3) (i := m) (k := 4) ⟨hmc, by omega⟩ rfl rfl ?_
          rw [show (mb6 π W d m).1 3 m 4 = W.1 3 m 4 by rw [mb6_1 (by omega), mbeg_m0]]
          refine hlr (i := 12 * w + m) rfl (h.ln 74 (by omega)) (by show _ < 36; omega) hcn.2.1 ?_
          refine rt_s h hQ (j := 3) (i := m) (k := 4) ⟨hmc, by omega⟩ rfl rfl (fun s1 h1 => ?_)
          have hcn1 := rM_cnt h1.ms hmc
          refine hlr (i := 12 * w + m) (v := s1.1 (rk 77) (12 * w + m)) rfl (h1.ln 77 (by omega)) (by show _ < 36; omega) rfl ?_
          refine hsr (i := 12 * w + m) rfl (h1.ln 74 (by omega)) (by show _ < 36; omega) (fun s2 f0 f1 f2 => ?_)
          have L2 : ∀ k, 42 ≤ k → s2.2.1 (rk k) = rLen k := fun k hk => by rw [f0]; exact h1.ln k hk
          refine hlr (i := 12 * w + m) (v := s1.1 (rk 75) (12 * w + m)) rfl (L2 75 (by omega)) (by show _ < 36; omega) (by rw [f2 _ (rk_ne (by omega))]) ?_
          refine hsr (i := 12 * w + m) rfl (L2 72 (by omega)) (by show _ < 36; omega) (fun s3 g0 g1 g2 => ?_)
          have L3 : ∀ k, 42 ≤ k → s3.2.1 (rk k) = rLen k := fun k hk => by rw [g0]; exact L2 k hk
          refine hlr (i := 12 * w + m) (v := s1.1 (rk 76) (12 * w + m)) rfl (L3 76 (by omega)) (by show _ < 36; omega) (by rw [g2 _ (rk_ne (by omega)), f2 _ (rk_ne (by omega))]) ?_
          refine hsr (i := 12 * w + m) rfl (L3 73 (by omega)) (by show _ < 36; omega) (fun s4 p0 p1 p2 => ?_)
          have L4 : ∀ k, 42 ≤ k → s4.2.1 (rk k) = rLen k := fun k hk => by rw [p0]; exact L3 k hk
          refine hsr (i := 12 * w + m) rfl (L4 77 (by omega)) (by show _ < 36; omega) (fun s5 u0 u1 u2 => ?_)
          have sl : ∀ K, 72 ≤ K → K ≤ 77 → rSl w K (12 * w + m) := fun K k1 k2 => by
            unfold rSl
            rw [if_neg (by omega), if_neg (by omega), if_neg (by omega), if_neg (by omega), if_pos (by omega)]
            omega
          have r5 : rfr w s1 s5 := (((rfr.up1 (K := 74) (sl 74 (by omega) (by omega)) f0 f1 f2).tr (rfr.up1 (K := 72) (sl 72 (by omega) (by omega)) g0 g1 g2)).tr (rfr.up1 (K := 73) (sl 73 (by omega) (by omega)) p0 p1 p2)).tr (rfr.up1 (K := 77) (sl 77 (by omega) (by omega)) u0 u1 u2)
          have k5 : ∀ k, k ≠ 72 → k ≠ 73 → k ≠ 74 → k ≠ 77 → s5.1 (rk k) = s1.1 (rk k) := fun k a1 a2 a3 a4 => by
            rw [u2 _ (rk_ne a4), p2 _ (rk_ne a2), g2 _ (rk_ne a1), f2 _ (rk_ne a3)]
          have hM := rM_hand (s' := s5) h1.ms hmc (fun k hk => k5 k (by omega) (by omega) (by omega) (by omega)) (by rw [u2 _ (rk_ne (by omega)), p2 _ (rk_ne (by omega)), g1, f2 _ (rk_ne (by omega))]) (by rw [u2 _ (rk_ne (by omega)), p2 _ (rk_ne (by omega)), g2 _ (rk_ne (by omega)), f1]) (by rw [u1, p2 _ (rk_ne (by omega)), g2 _ (rk_ne (by omega)), f2 _ (rk_ne (by omega))])
          have h5 := h1.msU (n' := n) (s' := s5) (W' := ((mA (mb6 π W d m) 3 m 4 (W.1 3 m 4 + nI (W.2.2 0 m).length)).1, (mA (mb6 π W d m) 3 m 4 (W.1 3 m 4 + nI (W.2.2 0 m).length)).2.1, fun j' i' => if i' = m then (if j' = 0 then (mA (mb6 π W d m) 3 m 4 (W.1 3 m 4 + nI (W.2.2 0 m).length)).2.2 1 m else if j' = 1 then [] else (mA (mb6 π W d m) 3 m 4 (W.1 3 m 4 + nI (W.2.2 0 m).length)).2.2 j' m) else (mA (mb6 π W d m) 3 m 4 (W.1 3 m 4 + nI (W.2.2 0 m).length)).2.2 j' i')) r5 (fun k hk => k5 k (by omega) (by omega) (by omega) (by omega)) hM rfl rfl
          refine mid s5 _ h5 rfl (fun j i k hr hn => ?_) ?_ (fun j c' hj hc' => ?_)
          · show (mA (mb6 π W d m) 3 m 4 (W.1 3 m 4 + nI (W.2.2 0 m).length)).1 j i k = _
            by_cases z6 : j = 5 ∧ i = 0 ∧ k = 6
            · obtain ⟨rfl, rfl, rfl⟩ := z6
              unfold mb6
              rw [mA_n (by omega), mA_s, mA_s]
            · rw [mb6_1 z6]
              by_cases z : j = 3 ∧ i = m
              · obtain ⟨rfl, rfl⟩ := z
                by_cases z4 : k = 4
                · subst z4
                  rw [mA_s, mbeg_m4, if_pos c1]
                · rw [mA_n (by omega), mb6_1 z6, mbeg_m0, mbeg_mk (by omega) z4]
              · rw [mA_n (by omega), mb6_1 z6, mbeg_ne z]
          · show (mA (mb6 π W d m) 3 m 4 (W.1 3 m 4 + nI (W.2.2 0 m).length)).1 3 m 3 = _
            rw [mA_n (by omega), mb33]
          · show (if c' = m then (if j = 0 then (mb6 π W d m).2.2 1 m else if j = 1 then [] else (mb6 π W d m).2.2 j m) else (mb6 π W d m).2.2 j c') = _
            by_cases z : c' = m
            · subst z
              rw [if_pos rfl, mbeg_c1 c1, eC, eC]
            · rw [if_neg z, mbeg_cne z]
              rfl
        · exact same (Or.inl c1)
      · refine same (Or.inr ?_)
        rcases hz.2.2.2 with q | q
        · exact absurd q b0
        · exact q
theorem r_adv142 (h : rT π n w bv s0 s W) (hQ : mQ π) {a b : Nat} (h1 : a < 3) (h2 : W.1 5 0 2 = nI a) (h3 : b < (psl π a).length) (h4 : W.1 5 0 3 = nI b) : gh (G_X11_pass_142 θ (nI w)) s (fun _ s' => rT π n w 1 s0 s' (mA W 5 0 4 (nI (msl π W).2))) := by
  have := (hQ.sl a h1).1
  have hm : (msl π W).2 = ((psl π a).getD b (0, 0)).2 := by
    unfold msl
    rw [h2, h4, nI_clamp (by omega), nI_clamp (by omega)]
  unfold G_X11_pass_142
  refine rt_g h hQ (j := 5) (i := 0) (k := 2) ⟨rfl, by omega, by omega⟩ rfl rfl ?_
  refine rt_g h hQ (j := 5) (i := 0) (k := 3) ⟨rfl, by omega, by omega⟩ rfl rfl ?_
  rw [h2, h4]
  simp only [m_12, nI_add]
  refine hlr (i := 12 * a + b) rfl (h.ln 53 (by omega)) (by show _ < 36; omega) ((h.pl.sl a h1).2 b h3).2 ?_
  rw [← hm]
  refine rt_s h hQ (j := 5) (i := 0) (k := 4) ⟨rfl, by omega, by omega⟩ rfl rfl (fun s1 h1 => ?_)
  exact rt_bg h1 (Or.inr rfl) (fun s2 h2 => hr h2)
theorem r_adv (h : rT π n w 0 s0 s W) (hI : mIc π t W) (hQ : mQ π) : gh (G_X11_pass_46 θ (nI w)) s (fun _ s' => rT π n w (if mbgn π (madv π W) then 1 else 0) s0 s' (madv π W)) := by
  obtain ⟨a, b, l, h1, h2, h3, h4, h5, h6, h7⟩ := hI.2.1
  obtain ⟨a5, g1, g2⟩ := hI.2.2.1
  have hl12 := (hQ.sl a h1).1
  have hl20 := ((hQ.sl a h1).2 b h3).2.2
  have hl5 := (hQ.sl a5 g1).1
  have nn : ∀ {X : mW} {k k' : Nat} {v : Int32}, k' ≠ k → (mA X 5 0 k v).1 5 0 k' = X.1 5 0 k' := fun hk => mA_n (by omega)
  have hb1 : ∀ X : mW, mbgn π (mA X 5 0 4 (nI (msl π X).2)) := fun X => by
    unfold mbgn
    rw [mA_s, mbgn_n (W := X) (nn (by omega)) (nn (by omega))]
  unfold G_X11_pass_46 madv
  refine rt_g h hQ (j := 5) (i := 0) (k := 1) ⟨rfl, by omega, by omega⟩ rfl rfl ?_
  refine rt_s h hQ (j := 5) (i := 0) (k := 1) ⟨rfl, by omega, by omega⟩ rfl rfl (fun s1 k1 => ?_)
  refine rt_g k1 hQ (j := 5) (i := 0) (k := 4) ⟨rfl, by omega, by omega⟩ rfl rfl ?_
  rw [nn (by omega)]
  refine rt_s k1 hQ (j := 5) (i := 0) (k := 4) ⟨rfl, by omega, by omega⟩ rfl rfl (fun s2 k2 => ?_)
  refine rt_g k2 hQ (j := 5) (i := 0) (k := 4) ⟨rfl, by omega, by omega⟩ rfl rfl ?_
  rw [mA_s]
  generalize hW1 : mA (mA W 5 0 1 (W.1 5 0 1 + 1)) 5 0 4 (W.1 5 0 4 - 1) = W1 at k2 ⊢
  have w2 : W1.1 5 0 2 = nI a := by rw [← hW1, nn (by omega), nn (by omega)]; exact h2
  have w3 : W1.1 5 0 3 = nI b := by rw [← hW1, nn (by omega), nn (by omega)]; exact h4
  have w4 : W1.1 5 0 4 = nI (l - 1) := by
    rw [← hW1, mA_s, h7]
    obtain ⟨m, rfl⟩ : ∃ m, l = m + 1 := ⟨l - 1, by omega⟩
    exact nI_pred m
  have w5 : W1.1 5 0 5 = nI a5 := by rw [← hW1, nn (by omega), nn (by omega)]; exact g2
  have hl1 : W.1 5 0 4 - 1 = nI (l - 1) := by rw [← w4, ← hW1, mA_s]
  rw [hl1, h4, h2, g2, nI_clamp (by omega), nI_clamp (by omega), nI_clamp (by omega)]
  refine hif (fun c => ?_) (fun c => ?_)
  · have c' : nI (l - 1) ≤ 0 := by rw [c]; decide
    simp only [if_pos c']
    refine rt_g k2 hQ (j := 5) (i := 0) (k := 3) ⟨rfl, by omega, by omega⟩ rfl rfl ?_
    rw [w3]
    refine rt_s k2 hQ (j := 5) (i := 0) (k := 3) ⟨rfl, by omega, by omega⟩ rfl rfl (fun s3 k3 => ?_)
    rw [nI_1] at k3 ⊢
    refine rt_g k3 hQ (j := 5) (i := 0) (k := 3) ⟨rfl, by omega, by omega⟩ rfl rfl ?_
    refine rt_g k3 hQ (j := 5) (i := 0) (k := 2) ⟨rfl, by omega, by omega⟩ rfl rfl ?_
    rw [mA_s, nn (by omega), w2]
    refine hlr (i := a) rfl (k3.ln 54 (by omega)) (by show _ < 3; omega) (k3.pl.sl a h1).1 ?_
    refine hif (fun c2 => ?_) (fun c2 => ?_)
    · rw [nI_eq (by omega) (by omega)] at c2
      simp only [if_neg (show ¬ b + 1 < (psl π a).length by omega)]
      refine rt_g k3 hQ (j := 5) (i := 0) (k := 5) ⟨rfl, by omega, by omega⟩ rfl rfl ?_
      rw [nn (by omega), w5]
      refine hlr (i := a5) rfl (k3.ln 54 (by omega)) (by show _ < 3; omega) (k3.pl.sl a5 g1).1 ?_
      have fin : ∀ a', a' < 3 → 0 < (psl π a').length → gh (G_X11_pass_134 θ (nI w) (nI w) (nI a')) s3 (fun _ s' => rT π n w (if mbgn π (mA (mA (mA (mA W1 5 0 3 (nI (b + 1))) 5 0 2 (nI a')) 5 0 3 0) 5 0 4 (nI (msl π (mA (mA (mA W1 5 0 3 (nI (b + 1))) 5 0 2 (nI a')) 5 0 3 0)).2)) then 1 else 0) s0 s' (mA (mA (mA (mA W1 5 0 3 (nI (b + 1))) 5 0 2 (nI a')) 5 0 3 0) 5 0 4 (nI (msl π (mA (mA (mA W1 5 0 3 (nI (b + 1))) 5 0 2 (nI a')) 5 0 3 0)).2))) := fun a' q1 q2 => by
        rw [if_pos (hb1 _)]
        unfold G_X11_pass_134
        refine rt_s k3 hQ (j := 5) (i := 0) (k := 2) ⟨rfl, by omega, by omega⟩ rfl rfl (fun s4 k4 => ?_)
        refine rt_s k4 hQ (j := 5) (i := 0) (k := 3) ⟨rfl, by omega, by omega⟩ rfl rfl (fun s5 k5 => ?_)
        exact r_adv142 k5 hQ (a := a') (b := 0) q1 ((nn (by omega)).trans mA_s) q2 mA_s
      refine hif (fun c3 => ?_) (fun c3 => ?_)
      · have z : (psl π a5).length = 0 := (nI_eq (b := 0) (by omega) (by omega)).mp c3
        simp only [if_pos z]
        exact fin 0 (by omega) hQ.s0
      · have z : ¬ (psl π a5).length = 0 := fun e => c3 (by rw [e]; rfl)
        simp only [if_neg z]
        refine rt_g k3 hQ (j := 5) (i := 0) (k := 5) ⟨rfl, by omega, by omega⟩ rfl rfl ?_
        rw [nn (by omega), w5]
        exact fin a5 g1 (by omega)
    · rw [nI_eq (by omega) (by omega)] at c2
      simp only [if_pos (show b + 1 < (psl π a).length by omega)]
      rw [if_pos (hb1 _)]
      exact r_adv142 k3 hQ (a := a) (b := b + 1) h1 ((nn (by omega)).trans w2) (by omega) mA_s
  · have l1 : l - 1 ≠ 0 := fun e => c (by rw [e]; rfl)
    have c' : ¬ nI (l - 1) ≤ 0 := nI_nle (by omega) (by omega)
    simp only [if_neg c']
    have hnb : ¬ mbgn π W1 := fun q => by
      unfold mbgn at q
      have em : (msl π W1).2 = ((psl π a).getD b (0, 0)).2 := by
        unfold msl
        rw [w2, w3, nI_clamp (by omega), nI_clamp (by omega)]
      rw [w4, em, nI_eq (by omega) (by omega)] at q
      omega
    rw [if_neg hnb]
    exact hr k2
theorem r_pass (h : rT π n w bv s0 s W) (hI : mI π n t W) (hQ : mQ π) (hbv : bv = if mbgn π W then 1 else 0) (hn3 : n ≤ 3000) (b : Bool) (hb3 : b = true → n < 3000) : gh (G_X11_pass θ (nI w) (if b = true then 1 else 0)) s (fun _ s' => rT π (if b = true then n + 1 else n) w (if mbgn π (mpass π W b) then 1 else 0) s0 s' (mpass π W b)) := by
  have hsl := hI.sl hQ
  have hw := h.w3
  have ht := h.pl.t1
  have rest : ∀ s1, rT π n w 0 s0 s1 (mbg π W) → gh (G_X11_pass_21 θ (nI w) (if b = true then 1 else 0) (nI (msl π W).1)) s1 (fun _ s' => rT π (if b = true then n + 1 else n) w (if mbgn π (mpass π W b) then 1 else 0) s0 s' (mpass π W b)) := fun s1 h1 => by
    have hI1 := mbg_I hI
    unfold G_X11_pass_21
    simp only [m_6, nI_add]
    refine rt_g h1 hQ (j := 2) (i := (msl π W).1) (k := 8) ⟨hsl.1, by omega, by omega⟩ rfl rfl ?_
    refine rt_s h1 hQ (j := 2) (i := (msl π W).1) (k := 8) ⟨hsl.1, by omega, by omega⟩ rfl rfl (fun s2 h2 => ?_)
    have hI2 : mI π n t (mA (mbg π W) 2 (msl π W).1 8 ((mbg π W).1 2 (msl π W).1 8 + 1)) := hI1.A (by omega) (by omega) (by omega)
    cases b with
    | false =>
      refine hT (by decide) ?_
      exact r_adv h2 hI2.ck hQ
    | true =>
      refine hF (by decide) (hc (r_step h2 hI2 hQ hsl.1 (hb3 rfl)) (fun _ s3 h3 => ?_))
      have hI3 := mstep_I hI2 hQ hsl.1
      rw [mstep_t] at h3 hI3
      exact r_adv h3 hI3.ck hQ
  unfold G_X11_pass
  refine hb (e_slR h hI.ck hQ) ?_
  refine hlr (i := w) rfl (h.ln 92 (by omega)) (by show _ < 3; omega) h.bg ?_
  by_cases q : mbgn π W
  · rw [if_pos q] at hbv
    rw [hbv]
    refine hF (by decide) ?_
    unfold G_X11_beginSlot
    refine hc (r_bg2 hQ hI (by omega) mo_fu 0 s (h.eqW (fun j i k _ => ?_) (fun _ _ _ _ => rfl) (fun j i _ _ => ?_)) (by unfold mo_fu; omega) (Nat.zero_le _)) (fun _ s1 h1 => ?_)
    · by_cases z : j = 5 ∧ i = 0 ∧ k = 6
      · obtain ⟨rfl, rfl, rfl⟩ := z
        unfold mb6
        rw [mA_s]
      · rw [mb6_1 z, mbeg_ab, if_neg (by omega), if_neg (by omega), if_neg z]
    · show (mbeg (pcut π 0) W (msl π W).1).2.2 j i = _
      rw [mbeg_cb, if_neg (by omega)]
    · refine rest s1 ?_
      unfold mbg
      rw [if_pos q]
      exact h1
  · rw [if_neg q] at hbv
    rw [hbv]
    refine hT rfl (rest s ?_)
    unfold mbg
    rw [if_neg q, ← hbv]
    exact h
end RP
