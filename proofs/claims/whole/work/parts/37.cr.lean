/-! THE CLASS'S RESET -/
def mrz (W : mW) (dm cm : Nat) : mW := (fun j i k => if (j ≤ 2 ∧ i < dm) ∨ ((j = 3 ∨ j = 4) ∧ i < cm) then 0 else W.1 j i k, fun j i => if i < dm then [] else W.2.1 j i, fun j i => if i < cm then [] else W.2.2 j i)
section CR
variable {θ : gT} {π : mP} {n t w : Nat} {s0 s s' : gS} {W W' : mW} {d : Nat} {x : Int32}
theorem mR_2 {j i k : Nat} (h : mR π j i k) : (j = 2 → 4 ≤ k ∧ k ≤ 8) ∧ (j = 3 → k = 3 ∨ k = 4 ∨ k = 6 ∨ k = 7) := by
  constructor
  · rintro rfl; exact h.2
  · rintro rfl; exact h.2
theorem ct_p (h : cT θ π n w s0 s W) {β : Type} {Q : β → gS → Prop} {j i k : Nat} {c : gK} {f : Nat} {v : Int32} {K : Unit → gM β} (hr : mR π j i k) (hcf : cF w j i k = (c, f)) (kk : ∀ s', cT θ π n w s0 s' (mA W j i k v) → (∀ q, q ≠ c → s'.1 q = s.1 q) → s'.2 = s.2 → gh (K ()) s' Q) : gh (gb (gp c f v) K) s Q := by
  have h1 := h.wr (v := v) hr
  rw [hcf] at h1
  exact hp (kk _ h1 (fun q hq => gw_o hq) rfl)
theorem mrz_d1 {j i k : Nat} (hm : j = 2 → 4 ≤ k ∧ k ≤ 8) : (mrz W (d + 1) 0).1 j i k = (mA (mA (mA (mA (mB (mB (mAr (mAr (mA (mrz W d 0) 2 d 4 0) 0 d fun _ => 0) 1 d fun _ => 0) 0 d []) 1 d []) 2 d 5 0) 2 d 6 0) 2 d 7 0) 2 d 8 0).1 j i k := by
  simp only [mA, mAr, mB, mrz]
  by_cases z : i = d ∧ j ≤ 2
  · rw [if_pos (Or.inl ⟨z.2, by omega⟩)]
    by_cases z2 : j = 2
    · have := hm z2
      by_cases k8 : k = 8
      · rw [if_pos ⟨z2, z.1, k8⟩]
      rw [if_neg (by omega)]
      by_cases k7 : k = 7
      · rw [if_pos ⟨z2, z.1, k7⟩]
      rw [if_neg (by omega)]
      by_cases k6 : k = 6
      · rw [if_pos ⟨z2, z.1, k6⟩]
      rw [if_neg (by omega)]
      by_cases k5 : k = 5
      · rw [if_pos ⟨z2, z.1, k5⟩]
      rw [if_neg (by omega), if_neg (by omega), if_neg (by omega), if_pos (by omega)]
    · rw [if_neg (by omega), if_neg (by omega), if_neg (by omega), if_neg (by omega)]
      by_cases z1 : j = 1
      · rw [if_pos ⟨z1, z.1⟩]
      rw [if_neg (by omega), if_pos (by omega)]
  · have e : ((j ≤ 2 ∧ i < d + 1) ∨ ((j = 3 ∨ j = 4) ∧ i < 0)) ↔ ((j ≤ 2 ∧ i < d) ∨ ((j = 3 ∨ j = 4) ∧ i < 0)) := ⟨fun _ => by omega, fun _ => by omega⟩
    simp only [e]
    rw [if_neg (show ¬ (j = 2 ∧ i = d ∧ k = 8) by omega), if_neg (show ¬ (j = 2 ∧ i = d ∧ k = 7) by omega), if_neg (show ¬ (j = 2 ∧ i = d ∧ k = 6) by omega), if_neg (show ¬ (j = 2 ∧ i = d ∧ k = 5) by omega), if_neg (show ¬ (j = 1 ∧ i = d) by omega), if_neg (show ¬ (j = 0 ∧ i = d) by omega), if_neg (show ¬ (j = 2 ∧ i = d ∧ k = 4) by omega)]
theorem mrz_d2 {j i : Nat} (hj : j < 2) : (mrz W (d + 1) 0).2.1 j i = (mA (mA (mA (mA (mB (mB (mAr (mAr (mA (mrz W d 0) 2 d 4 0) 0 d fun _ => 0) 1 d fun _ => 0) 0 d []) 1 d []) 2 d 5 0) 2 d 6 0) 2 d 7 0) 2 d 8 0).2.1 j i := by
  simp only [mA, mAr, mB, mrz]
  repeat' split
  all_goals first | rfl | (exfalso; omega)
theorem c_rstD (h : cT θ π n w s0 s (mrz W d 0)) (hd : d < π.1) : gh (G_X3_reset θ w d) s (fun _ s' => cT θ π n w s0 s' (mrz W (d + 1) 0)) := by
  unfold G_X3_reset
  refine hc (c_clrM h hd) (fun _ s1 h1 => ?_)
  refine hc (c_clear (h1.rw d hd).1) (fun _ s2 q => ?_)
  have h2 := h1.row0 q.1 q.2
  refine hc (c_clear (h2.rw d hd).2) (fun _ s3 q => ?_)
  have h3 := h2.row1 q.1 q.2
  refine ct_p h3 (j := 2) (i := d) (k := 5) ⟨hd, by omega, by omega⟩ rfl (fun s4 h4 _ _ => ?_)
  refine ct_p h4 (j := 2) (i := d) (k := 6) ⟨hd, by omega, by omega⟩ rfl (fun s5 h5 _ _ => ?_)
  refine ct_p h5 (j := 2) (i := d) (k := 7) ⟨hd, by omega, by omega⟩ rfl (fun s6 h6 _ _ => ?_)
  refine ct_p h6 (j := 2) (i := d) (k := 8) ⟨hd, by omega, by omega⟩ rfl (fun s7 h7 _ _ => hr ?_)
  exact cT.eqW h7 (fun j i k hr => mrz_d1 (mR_2 hr).1) (fun j i hj hi => mrz_d2 hj) (fun j i _ _ => rfl)
theorem mrz_c1 {m D j i k : Nat} (hm : j = 3 → k = 3 ∨ k = 4 ∨ k = 6 ∨ k = 7) : (mrz W D (m + 1)).1 j i k = (mA (mA (mAr (mA (mA (mC (mC (mrz W D m) 0 m []) 1 m []) 3 m 3 0) 3 m 4 0) 4 m fun _ => 0) 3 m 6 0) 3 m 7 0).1 j i k := by
  simp only [mA, mAr, mC, mrz]
  by_cases z : i = m ∧ (j = 3 ∨ j = 4)
  · rw [if_pos (Or.inr ⟨z.2, by omega⟩)]
    by_cases z3 : j = 3
    · have := hm z3
      by_cases k7 : k = 7
      · rw [if_pos ⟨z3, z.1, k7⟩]
      rw [if_neg (by omega)]
      by_cases k6 : k = 6
      · rw [if_pos ⟨z3, z.1, k6⟩]
      rw [if_neg (by omega), if_neg (by omega)]
      by_cases k4 : k = 4
      · rw [if_pos ⟨z3, z.1, k4⟩]
      rw [if_neg (by omega), if_pos (by omega)]
    · rw [if_neg (by omega), if_neg (by omega), if_pos (by omega)]
  · have e : ((j ≤ 2 ∧ i < D) ∨ ((j = 3 ∨ j = 4) ∧ i < m + 1)) ↔ ((j ≤ 2 ∧ i < D) ∨ ((j = 3 ∨ j = 4) ∧ i < m)) := ⟨fun _ => by omega, fun _ => by omega⟩
    simp only [e]
    rw [if_neg (show ¬ (j = 3 ∧ i = m ∧ k = 7) by omega), if_neg (show ¬ (j = 3 ∧ i = m ∧ k = 6) by omega), if_neg (show ¬ (j = 4 ∧ i = m) by omega), if_neg (show ¬ (j = 3 ∧ i = m ∧ k = 4) by omega), if_neg (show ¬ (j = 3 ∧ i = m ∧ k = 3) by omega)]
theorem mrz_c2 {m D j i : Nat} (hj : j < 2) : (mrz W D (m + 1)).2.2 j i = (mA (mA (mAr (mA (mA (mC (mC (mrz W D m) 0 m []) 1 m []) 3 m 3 0) 3 m 4 0) 4 m fun _ => 0) 3 m 6 0) 3 m 7 0).2.2 j i := by
  simp only [mA, mAr, mC, mrz]
  repeat' split
  all_goals first | rfl | (exfalso; omega)
theorem c_rstC {m : Nat} (h : cT θ π n w s0 s (mrz W π.1 m)) (hm : m < π.2.1) (hQ : mQ π) : gh (G_X1_reset θ w m) s (fun _ s' => cT θ π n w s0 s' (mrz W π.1 (m + 1)) ∧ (cMsg s' 27 w m 0 [] ∧ cMsg s' 29 w m 0 []) ∧ ∀ k c, c ≠ m → s'.1 (pk k w c) = s.1 (pk k w c) ∧ s'.2.1 (pk k w c) = s.2.1 (pk k w c)) := by
  have hz := hQ.lk m hm
  unfold G_X1_reset
  refine hc (c_mclear (h.ms m hm).1 (by omega)) (fun _ s1 q1 => ?_)
  have h1 := h.msg (j := 0) (c := m) (by omega) (Nat.le_refl _) (q1.1 n) q1.2
  refine hc (c_mclear (h1.ms m hm).2 (by omega)) (fun _ s2 q2 => ?_)
  have h2 := h1.msg (j := 1) (c := m) (by omega) (Nat.le_refl _) (q2.1 n) q2.2
  have a27 : cMsg s2 27 w m 0 [] := (q1.1 0).cg (q2.2.1 _ (fun z => z.elim (pk_ne (by omega)) (pk_ne (by omega)))).1 (q2.2.1 _ (fun z => z.elim (pk_ne (by omega)) (pk_ne (by omega)))).1 (q2.2.1 _ (fun z => z.elim (pk_ne (by omega)) (pk_ne (by omega)))).2
  have a29 := q2.1 0
  have ff : ∀ k c, c ≠ m → s2.1 (pk k w c) = s.1 (pk k w c) ∧ s2.2.1 (pk k w c) = s.2.1 (pk k w c) := fun k c hc' => by
    have b1 := q1.2.1 (pk k w c) (fun z => z.elim (pk_ne (by omega)) (pk_ne (by omega)))
    have b2 := q2.2.1 (pk k w c) (fun z => z.elim (pk_ne (by omega)) (pk_ne (by omega)))
    exact ⟨b2.1.trans b1.1, b2.2.trans b1.2⟩
  have step : ∀ {s s' : gS} {k : Nat}, (k = 26 ∨ k = 31) → (∀ q, q ≠ pk k w m → s'.1 q = s.1 q) → s'.2 = s.2 → (cMsg s 27 w m 0 [] ∧ cMsg s 29 w m 0 [] → cMsg s' 27 w m 0 [] ∧ cMsg s' 29 w m 0 []) ∧ ∀ k c, c ≠ m → s'.1 (pk k w c) = s.1 (pk k w c) ∧ s'.2.1 (pk k w c) = s.2.1 (pk k w c) := fun hk e1 e2 =>
    ⟨fun q => ⟨q.1.cg (e1 _ (pk_ne (by omega))) (e1 _ (pk_ne (by omega))) (by rw [e2]), q.2.cg (e1 _ (pk_ne (by omega))) (e1 _ (pk_ne (by omega))) (by rw [e2])⟩, fun k c hc' => ⟨e1 _ (pk_ne (by omega)), by rw [e2]⟩⟩
  refine ct_p h2 (j := 3) (i := m) (k := 3) ⟨hm, by omega⟩ rfl (fun s3 h3 e31 e32 => ?_)
  refine ct_p h3 (j := 3) (i := m) (k := 4) ⟨hm, by omega⟩ rfl (fun s4 h4 e41 e42 => ?_)
  refine hc (c_fill (h4.ln.2 m hm) (by omega)) (fun _ s5 e5 => ?_)
  have h5 : cT θ π n w s0 s5 (mAr (mA (mA (mC (mC (mrz W π.1 m) 0 m []) 1 m []) 3 m 3 0) 3 m 4 0) 4 m fun _ => 0) := by
    rw [e5]
    exact h4.ar (j := 4) (i := m) (by omega) (fun k hk => if_pos hk.2)
  have e51 : ∀ q, q ≠ pk 31 w m → s5.1 q = s4.1 q := fun q hq => by rw [e5, gw_o hq]
  have e52 : s5.2 = s4.2 := by rw [e5]; rfl
  refine ct_p h5 (j := 3) (i := m) (k := 6) ⟨hm, by omega⟩ rfl (fun s6 h6 e61 e62 => ?_)
  refine ct_p h6 (j := 3) (i := m) (k := 7) ⟨hm, by omega⟩ rfl (fun s7 h7 e71 e72 => hr ⟨?_, ?_, fun k c hc' => ?_⟩)
  · exact cT.eqW h7 (fun j i k hr => mrz_c1 (mR_2 hr).2) (fun j i hj hi => rfl) (fun j i hj _ => mrz_c2 hj)
  · exact (step (Or.inl rfl) e71 e72).1 ((step (Or.inl rfl) e61 e62).1 ((step (Or.inr rfl) e51 e52).1 ((step (Or.inl rfl) e41 e42).1 ((step (Or.inl rfl) e31 e32).1 ⟨a27, a29⟩))))
  · have b7 := (step (Or.inl rfl) e71 e72).2 k c hc'
    have b6 := (step (Or.inl rfl) e61 e62).2 k c hc'
    have b5 := (step (Or.inr rfl) e51 e52).2 k c hc'
    have b4 := (step (Or.inl rfl) e41 e42).2 k c hc'
    have b3 := (step (Or.inl rfl) e31 e32).2 k c hc'
    have b2 := ff k c hc'
    exact ⟨b7.1.trans (b6.1.trans (b5.1.trans (b4.1.trans (b3.1.trans b2.1)))), b7.2.trans (b6.2.trans (b5.2.trans (b4.2.trans (b3.2.trans b2.2))))⟩
theorem c_start (h : cT θ π n w s0 s W) (hQ : mQ π) : gh (G_X2_start θ w) s (fun _ s' => cT θ π n w s0 s' (mA (mA (mA (mA (mA W 5 0 1 0) 5 0 2 0) 5 0 3 0) 5 0 4 (nI ((psl π 0).getD 0 (0, 0)).2)) 5 0 5 0) ∧ (∀ q, q ≠ pk 18 w 0 → s'.1 q = s.1 q) ∧ s'.2 = s.2) := by
  unfold G_X2_start
  refine ct_p h (j := 5) (i := 0) (k := 1) ⟨rfl, by omega, by omega⟩ rfl (fun s1 h1 e1 f1 => ?_)
  refine ct_p h1 (j := 5) (i := 0) (k := 2) ⟨rfl, by omega, by omega⟩ rfl (fun s2 h2 e2 f2 => ?_)
  refine ct_p h2 (j := 5) (i := 0) (k := 3) ⟨rfl, by omega, by omega⟩ rfl (fun s3 h3 e3 f3 => ?_)
  refine hx (j := 0) rfl (by omega) (by omega) ?_
  refine hb (e_getn (h3.pl.sl 0 (by omega)).2 (a := 0) rfl (by omega)) ?_
  rw [getD_map (d := (0, 0)) hQ.s0]
  refine ct_p h3 (j := 5) (i := 0) (k := 4) ⟨rfl, by omega, by omega⟩ rfl (fun s4 h4 e4 f4 => ?_)
  refine ct_p h4 (j := 5) (i := 0) (k := 5) ⟨rfl, by omega, by omega⟩ rfl (fun s5 h5 e5 f5 => hr ⟨h5, fun q hq => ?_, ?_⟩)
  · rw [e5 q hq, e4 q hq, e3 q hq, e2 q hq, e1 q hq]
  · rw [f5, f4, f3, f2, f1]
theorem mres_e {j i k : Nat} (hr : mR π j i k) : (mres π).1 j i k = (mA (mA (mA (mA (mA (mA (mrz W π.1 π.2.1) 5 0 1 0) 5 0 2 0) 5 0 3 0) 5 0 4 (nI ((psl π 0).getD 0 (0, 0)).2)) 5 0 5 0) 5 0 6 0).1 j i k := by
  have hj := mR_lt hr
  simp only [mA, mrz, mres]
  by_cases j5 : j = 5
  · subst j5
    obtain ⟨rfl, r1, r2⟩ := hr
    have : k = 1 ∨ k = 2 ∨ k = 3 ∨ k = 4 ∨ k = 5 ∨ k = 6 := by omega
    rcases this with rfl | rfl | rfl | rfl | rfl | rfl <;> rfl
  · have h1 : (j ≤ 2 ∧ i < π.1) ∨ ((j = 3 ∨ j = 4) ∧ i < π.2.1) := by
      rcases hj with rfl | rfl | rfl | rfl | rfl | rfl
      · exact Or.inl ⟨by omega, hr.1⟩
      · exact Or.inl ⟨by omega, hr.1⟩
      · exact Or.inl ⟨by omega, hr.1⟩
      · exact Or.inr ⟨by omega, hr.1⟩
      · exact Or.inr ⟨by omega, hr.1⟩
      · exact absurd rfl j5
    simp only [j5, false_and, if_false, if_pos h1]
theorem c_rst56 (h : cT θ π n w s0 s (mrz W π.1 π.2.1)) (hz : ∀ c, c < π.2.1 → cMsg s 27 w c 0 [] ∧ cMsg s 29 w c 0 []) (hQ : mQ π) : gh (G_X5_reset_56 θ w) s (fun _ s' => cT θ π 0 w s0 s' (mres π)) := by
  unfold G_X5_reset_56
  refine hc (c_start h hQ) (fun _ s1 q => ?_)
  have h2 : cT θ π n w s0 (gw s1 (pk 15 w 0) (upd (s1.1 (pk 15 w 0)) 4 0)) _ := q.1.wr (j := 5) (i := 0) (k := 6) (v := 0) ⟨rfl, by omega, by omega⟩
  have h3 : cT θ π n w s0 (gw s1 (pk 15 w 0) (upd (s1.1 (pk 15 w 0)) 4 0)) (mres π) := by
    refine cT.eqW h2 (fun j i k hr => mres_e hr) (fun j i hj hi => ?_) (fun j i hj hi => ?_)
    · exact (if_pos hi : (if i < π.1 then _ else _) = _).symm
    · exact (if_pos hi : (if i < π.2.1 then _ else _) = _).symm
  refine hpz (Or.inl rfl) (hr ?_)
  have ho : ∀ k c, k = 27 ∨ k = 28 ∨ k = 29 ∨ k = 30 → (gw s1 (pk 15 w 0) (upd (s1.1 (pk 15 w 0)) 4 0)).1 (pk k w c) = s.1 (pk k w c) ∧ (gw s1 (pk 15 w 0) (upd (s1.1 (pk 15 w 0)) 4 0)).2.1 (pk k w c) = s.2.1 (pk k w c) := fun k c hk => by
    refine ⟨(gw_o (pk_ne (by omega))).trans (q.2.1 (pk k w c) (pk_ne (by omega))), ?_⟩
    show s1.2.1 (pk k w c) = _
    rw [q.2.2]
  generalize gw s1 (pk 15 w 0) (upd (s1.1 (pk 15 w 0)) 4 0) = s3 at h3 ho
  refine ⟨h3.sc, h3.ln, h3.rw, fun c hc => ?_, h3.pl, h3.fm⟩
  have a := hz c hc
  exact ⟨a.1.cg (ho 27 c (by omega)).1 (ho 28 c (by omega)).1 (ho 28 c (by omega)).2, a.2.cg (ho 29 c (by omega)).1 (ho 30 c (by omega)).1 (ho 30 c (by omega)).2⟩
theorem c_rst30 (hQ : mQ π) : ∀ (fu m : Nat) (s : gS), cT θ π n w s0 s (mrz W π.1 m) → (∀ c, c < m → cMsg s 27 w c 0 [] ∧ cMsg s 29 w c 0 []) → π.2.1 - m < fu → m ≤ π.2.1 → gh (G_X5_reset_30 θ fu w (nI m)) s (fun _ s' => cT θ π 0 w s0 s' (mres π))
  | 0, m, s, _, _, h, _ => by omega
  | fu + 1, m, s, h, hz, hf, hm => by
    have ht := h.pl.t1
    unfold G_X5_reset_30
    refine hg h.pl.nc ?_
    refine hif (fun c => ?_) (fun c => ?_)
    · rw [nI_leI (by omega) (by omega)] at c
      have e : m = π.2.1 := by omega
      subst e
      exact c_rst56 h hz hQ
    · rw [nI_leI (by omega) (by omega)] at c
      rw [nI_1]
      refine hx rfl (by rw [ht.2.1]; omega) (by omega) (hc (c_rstC h (by omega) hQ) (fun _ s1 q => ?_))
      refine c_rst30 hQ fu (m + 1) s1 q.1 (fun c' hc' => ?_) (by omega) (by omega)
      by_cases e : c' = m
      · subst e; exact q.2.1
      · have a := hz c' (by omega)
        exact ⟨a.1.cg (q.2.2 27 c' e).1 (q.2.2 28 c' e).1 (q.2.2 28 c' e).2, a.2.cg (q.2.2 29 c' e).1 (q.2.2 30 c' e).1 (q.2.2 30 c' e).2⟩
theorem c_rst2 (hQ : mQ π) : ∀ (fu m : Nat) (s : gS), cT θ π n w s0 s (mrz W m 0) → π.1 - m < fu → m ≤ π.1 → gh (G_X5_reset_2 θ fu w (nI m)) s (fun _ s' => cT θ π 0 w s0 s' (mres π))
  | 0, m, s, _, h, _ => by omega
  | fu + 1, m, s, h, hf, hm => by
    have ht := h.pl.t1
    unfold G_X5_reset_2
    refine hg h.pl.nd ?_
    refine hif (fun c => ?_) (fun c => ?_)
    · rw [nI_leI (by omega) (by omega)] at c
      have e : m = π.1 := by omega
      subst e
      unfold G_X5_reset_28
      exact c_rst30 hQ mo_fu 0 s h (fun c hc => by omega) (by unfold mo_fu; omega) (by omega)
    · rw [nI_leI (by omega) (by omega)] at c
      rw [nI_1]
      refine hx rfl (by rw [ht.1]; omega) (by omega) (hc (c_rstD h (by omega)) (fun _ s1 q => ?_))
      exact c_rst2 hQ fu (m + 1) s1 q (by omega) (by omega)
theorem c_rst (h : cT θ π n w s0 s W) (hQ : mQ π) : gh (G_X5_reset θ w) s (fun _ s' => cT θ π 0 w s0 s' (mres π)) := by
  unfold G_X5_reset
  refine c_rst2 (n := n) (W := W) hQ mo_fu 0 s (h.eqW (fun j i k _ => ?_) (fun j i _ _ => ?_) (fun j i _ _ => ?_)) (by unfold mo_fu; have := h.pl.t1; omega) (Nat.zero_le _)
  · show (if (j ≤ 2 ∧ i < 0) ∨ ((j = 3 ∨ j = 4) ∧ i < 0) then 0 else W.1 j i k) = _
    rw [if_neg (by omega)]
  · show (if i < 0 then [] else W.2.1 j i) = _
    rw [if_neg (by omega)]
  · show (if i < 0 then [] else W.2.2 j i) = _
    rw [if_neg (by omega)]
end CR
