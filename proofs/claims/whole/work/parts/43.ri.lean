/-! THE REFERENCE'S INSTRUCTIONS -/
def rPf (π : mP) (n w : Nat) (bv : Int32) (s0 : gS) (W1 : mW) (o : Option mW) (r : Int32) (s' : gS) : Prop := (r = 1 ∧ ∃ W3, rT π (n + 1) w bv s0 s' W3 ∧ o = some W3) ∨ (r = 0 ∧ rT π (n + 1) w bv s0 s' W1 ∧ o = none)
section RI
variable {θ : gT} {π : mP} {n t w : Nat} {bv : Int32} {s0 s s' : gS} {W W' : mW} {d : Nat} {x : Int32} {o : Option mW}
theorem rPf_z {r : Int32} (q : rPf π n w bv s0 W o r s) : gh (grz r) s (rPf π n w bv s0 W o) := hrz (q.elim (fun q => Or.inr q.1) (fun q => Or.inl q.1)) q
theorem rPf_no (h : rT π n w bv s0 s W) (e : o = none) : rPf π n w bv s0 W o 0 s := Or.inr ⟨rfl, h.mono (Nat.le_succ n), e⟩
theorem rt_sf (h : rT π n w bv s0 s W) (hQ : mQ π) {β : Type} {Q : β → gS → Prop} {j i k K idx : Nat} {x v : Int32} {Kc : Unit → gM β} (hr : mR π j i k) (hkk : rF w j i k = (K, idx)) (ex : x = nI idx) (kk : ∀ s', rT π n w bv s0 s' (mA W j i k v) → s'.2 = s.2 → (∀ q, q ≠ rk K → s'.1 q = s.1 q) → gh (Kc ()) s' Q) : gh (gb (gsa (pk K 0 0) x v) Kc) s Q := by
  have h1 := rF_len h hQ hr
  have h2 := h.wr hQ (v := v) hr
  have h3 := rKd_r hr
  rw [← rF_1 w j i k] at h3
  rw [hkk] at h1 h2 h3
  have := rLen_le K
  exact hs (i := idx) ex (Nat.lt_of_lt_of_eq h1 (h.ln K (by have := h3.1; omega)).symm) (by have : idx < rLen K := h1; omega) (kk _ h2 rfl (fun q hq => gw_o hq))
theorem e_isD (h : pR π s) (x : Int32) : G_X11_isDomain θ x s = some (if ¬ x < 0 ∧ x.toNatClampNeg < π.1 then 1 else 0, s) := gh_eq (by
  have ht := h.t1
  unfold G_X11_isDomain
  refine hif (fun c => ?_) (fun c => ?_)
  · rw [if_neg (fun q => q.1 c)]; exact hr0 ⟨rfl, rfl⟩
  · obtain ⟨j, hj, rfl⟩ := nI_of c
    refine hg h.nd ?_
    rw [nI_clamp hj]
    refine hif (fun c2 => ?_) (fun c2 => ?_)
    · rw [nI_leI (by omega) hj] at c2
      rw [if_neg (by omega)]; exact hr0 ⟨rfl, rfl⟩
    · rw [nI_leI (by omega) hj] at c2
      rw [if_pos ⟨c, by omega⟩]; exact hr1 ⟨rfl, rfl⟩)
theorem e_flT (h : pR π s) (hL : s.2.1 (rk 43) = 36) (hk : mPok π) {a b : Nat} (ha : a < π.1) (hb : b < π.1) : G_X11_flowsTo θ (nI a) (nI b) s = some (if pfl π a b = true then 1 else 0, s) := gh_eq (by
  have ht := h.t1
  unfold G_X11_flowsTo G_X11_flowsTo_19
  simp only [m_6, nI_add]
  refine hif (fun c => ?_) (fun c => ?_)
  · rw [nI_eq (by omega) (by omega)] at c
    subst c
    rw [if_pos (hk.1 a ha)]; exact hr1 ⟨rfl, rfl⟩
  · rw [nI_eq (by omega) (by omega)] at c
    refine hl (i := 6 * a + b) rfl (by show _ < s.2.1 (rk 43); rw [hL]; omega) (by omega) (h.fl a b ha hb c) ?_
    by_cases q : pfl π a b = true
    · rw [if_pos q]; exact hF (by decide) (hr1 ⟨rfl, rfl⟩)
    · rw [if_neg q]; exact hT rfl (hr0 ⟨rfl, rfl⟩))
theorem e_rgn4 (h : pR π s) (hL : s.2.1 (rk 43) = 36) (hk : mPok π) {a : Nat} (ha : a < π.1) : ∀ (fu m : Nat) (b : Bool), π.1 - m < fu → m ≤ π.1 → gh (G_X11_reigns_4 θ fu (nI a) (if b = true then 1 else 0) (nI m)) s (fun r s' => ((r = 1 ∧ (b = true ∧ ∀ k, m ≤ k → k < π.1 → pfl π a k = true)) ∨ (r = 0 ∧ ¬ (b = true ∧ ∀ k, m ≤ k → k < π.1 → pfl π a k = true))) ∧ s' = s)
  | 0, m, b, hf, _ => by omega
  | fu + 1, m, b, hf, hm => by
    have ht := h.t1
    unfold G_X11_reigns_4 G_X11_reigns_29 G_X11_reigns_30
    refine hg h.nd ?_
    refine hif (fun c => ?_) (fun c => ?_)
    · rw [nI_leI (by omega) (by omega)] at c
      refine hrz (by cases b <;> decide) ⟨?_, rfl⟩
      cases b with
      | false => exact Or.inr ⟨rfl, fun q => absurd q.1 (by decide)⟩
      | true => exact Or.inl ⟨rfl, rfl, fun k k1 k2 => by omega⟩
    · rw [nI_leI (by omega) (by omega)] at c
      rw [nI_1]
      cases b with
      | false =>
        refine hT (by decide) ?_
        refine hm2 (e_rgn4 h hL hk ha fu (m + 1) false (by omega) (by omega)) (fun r s1 q => ⟨Or.inr ?_, q.2⟩)
        rcases q.1 with q | q
        · exact absurd q.2.1 (by decide)
        · exact ⟨q.1, fun z => absurd z.1 (by decide)⟩
      | true =>
        refine hF (by decide) (hb (e_flT h hL hk ha (show m < π.1 by omega)) ?_)
        by_cases z : pfl π a m = true
        · rw [if_pos z]
          refine hF (by decide) ?_
          refine hm2 (e_rgn4 h hL hk ha fu (m + 1) true (by omega) (by omega)) (fun r s1 q => ⟨?_, q.2⟩)
          rcases q.1 with q | q
          · refine Or.inl ⟨q.1, rfl, fun k k1 k2 => ?_⟩
            by_cases e : k = m
            · rw [e]; exact z
            · exact q.2.2 k (by omega) k2
          · exact Or.inr ⟨q.1, fun y => q.2 ⟨rfl, fun k k1 k2 => y.2 k (by omega) k2⟩⟩
        · rw [if_neg z]
          refine hT rfl ?_
          refine hm2 (e_rgn4 h hL hk ha fu (m + 1) false (by omega) (by omega)) (fun r s1 q => ⟨Or.inr ?_, q.2⟩)
          rcases q.1 with q | q
          · exact absurd q.2.1 (by decide)
          · exact ⟨q.1, fun y => z (y.2 m (Nat.le_refl _) (by omega))⟩
theorem e_rgn (h : pR π s) (hL : s.2.1 (rk 43) = 36) (hk : mPok π) {a : Nat} (ha : a < π.1) : G_X11_reigns θ (nI a) s = some (if mrg π a then 1 else 0, s) := gh_eq (by
  have ht := h.t1
  unfold G_X11_reigns
  refine hm2 (e_rgn4 h hL hk ha mo_fu 0 true (by unfold mo_fu; omega) (Nat.zero_le _)) (fun r s1 q => ⟨?_, q.2⟩)
  by_cases y : mrg π a
  · rw [if_pos y]
    rcases q.1 with q | q
    · exact q.1
    · exact absurd ⟨rfl, fun k _ k2 => y k k2⟩ q.2
  · rw [if_neg y]
    rcases q.1 with q | q
    · exact absurd (fun k hk => q.2.2 k (Nat.zero_le _) hk) y
    · exact q.1)
theorem e_ageR (h : rT π n w bv s0 s W) (hQ : mQ π) {c : Nat} (hc : c < π.2.1) : G_X11_ageOf θ (nI w) (nI (12 * w + c)) s = some (mage W c, s) := gh_eq (by
  unfold G_X11_ageOf mage
  refine rt_g h hQ (j := 3) (i := c) (k := 6) ⟨hc, by omega⟩ rfl rfl ?_
  refine hif (fun q => ?_) (fun q => ?_)
  · rw [if_pos q]; exact hr ⟨rfl, rfl⟩
  · rw [if_neg q]
    refine rt_g h hQ (j := 5) (i := 0) (k := 1) ⟨rfl, by omega, by omega⟩ rfl rfl ?_
    exact rt_g h hQ (j := 3) (i := c) (k := 7) ⟨hc, by omega⟩ rfl rfl (hr ⟨rfl, rfl⟩))
theorem r_737 (h : rT π n w bv s0 s W) (hQ : mQ π) (hd : d < π.1) (e : o = some (mnx W d)) {W1 : mW} : gh (G_X11_does_737 θ (nI (6 * w + d))) s (rPf π n w bv s0 W1 o) := by
  unfold G_X11_does_737
  refine rt_g h hQ (j := 2) (i := d) (k := 4) ⟨hd, by omega, by omega⟩ rfl rfl ?_
  exact rt_s h hQ (j := 2) (i := d) (k := 4) ⟨hd, by omega, by omega⟩ rfl rfl (fun s1 h1 => hr1 (Or.inl ⟨rfl, _, h1.mono (Nat.le_succ n), e⟩))
theorem r_737' (h : rT π (n + 1) w bv s0 s W) (hQ : mQ π) (hd : d < π.1) (e : o = some (mnx W d)) {W1 : mW} : gh (G_X11_does_737 θ (nI (6 * w + d))) s (rPf π n w bv s0 W1 o) := by
  unfold G_X11_does_737
  refine rt_g h hQ (j := 2) (i := d) (k := 4) ⟨hd, by omega, by omega⟩ rfl rfl ?_
  exact rt_s h hQ (j := 2) (i := d) (k := 4) ⟨hd, by omega, by omega⟩ rfl rfl (fun s1 h1 => hr1 (Or.inl ⟨rfl, _, h1, e⟩))
theorem gif_o {β : Type} {Q : β → gS → Prop} {a b : gM β} {m : Nat} (hm : m < 256) {y : Int32} (hy : y = nI m) (k1 : xop x = m → gh a s Q) (k2 : xop x ≠ m → gh b s Q) : gh (gif (nI (xop x) = y) a b) s Q := by
  subst hy
  refine hif (fun c => k1 ((nI_lit (xop_lt x) hm).mp c)) (fun c => k2 (fun e => c (by rw [e])))
theorem r_set (h : rT π n w bv s0 s W) (hQ : mQ π) (hd : d < π.1) {r : Nat} (hr : r < 8) {v : Int32} (e : o = some (mset W d r v)) {W1 : mW} : gh (gb (gsa (pk 61 0 0) (nI (8 * (6 * w + d) + r)) v) fun _ => G_X11_does_737 θ (nI (6 * w + d))) s (rPf π n w bv s0 W1 o) :=
  rt_s h hQ (j := 0) (i := d) (k := r) ⟨hd, hr⟩ rfl rfl (fun s1 h1 => r_737 h1 hQ hd e)
theorem r_138 (h : rT π n w bv s0 s W) (hI : mI π n t W) (hQ : mQ π) (hd : d < π.1) (hx : xop x ≤ 13 ∨ (18 ≤ xop x ∧ xop x ≤ 24)) : gh (G_X11_does_138 θ (nI w) (nI d) (nI (6 * w + d)) (nI (xop x)) (nI (xa x)) (nI (xb x)) (nI (xc x)) (nI (8 * (6 * w + d) + xa x % 8)) (W.1 0 d (xb x % 8)) (W.1 0 d (xc x % 8))) s (rPf π n w bv s0 W (mop π W d x)) := by
  have ht := h.pl.t1
  have hw := h.w3
  have hra : xa x % 8 < 8 := Nat.mod_lt _ (by omega)
  have ha := xa_lt x
  have hbb := xb_lt x
  have hcc := xc_lt x
  unfold G_X11_does_138
  simp only [m_6, m_32, m_200, m_256, nI_add]
  refine gif_o (m := 0) (by omega) rfl (fun e => ?_) (fun e0 => ?_)
  · refine rt_s h hQ (j := 2) (i := d) (k := 5) ⟨hd, by omega, by omega⟩ rfl rfl (fun s1 h1 => hr1 (Or.inl ⟨rfl, _, h1.mono (Nat.le_succ n), ?_⟩))
    unfold mop; rw [if_pos e]
  refine gif_o (m := 1) (by omega) rfl (fun e => ?_) (fun e1 => ?_)
  · have em : mop π W d x = some (mset W d (xa x % 8) (x >>> ((16 : Int32) &&& 31))) := by unfold mop; simp only [e]; rfl
    have hk := b_k1 x
    have e256 : nI (xb x) + 256 * nI (xc x) = nI (xb x + 256 * xc x) := by rw [m_256, nI_add]
    unfold G_X11_does_301
    refine hif (fun c => ?_) (fun c => ?_) <;> rw [e256] at c
    · rw [hk.1 ((nI_leI (b := 32767) (by omega) (by omega)).mp c)]
      exact r_set h hQ hd hra em
    · rw [hk.2 (fun q => c ((nI_leI (b := 32767) (by omega) (by omega)).mpr q))]
      exact r_set h hQ hd hra em
  refine gif_o (m := 2) (by omega) rfl (fun e => r_set h hQ hd hra (by unfold mop; simp only [e]; rfl)) (fun e2 => ?_)
  refine gif_o (m := 3) (by omega) rfl (fun e => r_set h hQ hd hra (by unfold mop; simp only [e]; rfl)) (fun e3 => ?_)
  refine gif_o (m := 4) (by omega) rfl (fun e => r_set h hQ hd hra (by unfold mop; simp only [e]; rfl)) (fun e4 => ?_)
  refine gif_o (m := 5) (by omega) rfl (fun e => r_set h hQ hd hra (by unfold mop; simp only [e]; rfl)) (fun e5 => ?_)
  refine gif_o (m := 6) (by omega) rfl (fun e => r_set h hQ hd hra (by unfold mop; simp only [e]; rfl)) (fun e6 => ?_)
  refine gif_o (m := 7) (by omega) rfl (fun e => r_set h hQ hd hra (by unfold mop; simp only [e]; rfl)) (fun e7 => ?_)
  refine gif_o (m := 8) (by omega) rfl (fun e => ?_) (fun e8 => ?_)
  · have em : mop π W d x = some (mset W d (xa x % 8) (if W.1 0 d (xb x % 8) < W.1 0 d (xc x % 8) then 1 else 0)) := by unfold mop; simp only [e]; rfl
    unfold G_X11_does_410
    refine hif (fun c => ?_) (fun c => ?_)
    · rw [if_neg (Int32.not_lt.mpr c)] at em
      exact r_set h hQ hd hra em
    · rw [if_pos (Int32.not_le.mp c)] at em
      exact r_set h hQ hd hra em
  refine gif_o (m := 9) (by omega) rfl (fun e => ?_) (fun e9 => ?_)
  · refine rt_s h hQ (j := 2) (i := d) (k := 4) ⟨hd, by omega, by omega⟩ rfl rfl (fun s1 h1 => hr1 (Or.inl ⟨rfl, _, h1.mono (Nat.le_succ n), ?_⟩))
    unfold mop; simp only [e]; rfl
  have jmp : ∀ {o : Option mW}, o = some (mA W 2 d 4 (nI (xb x))) → gh (G_X11_does_475 θ (nI (6 * w + d)) (nI (xb x))) s (rPf π n w bv s0 W o) := fun em => by
    unfold G_X11_does_475
    exact rt_s h hQ (j := 2) (i := d) (k := 4) ⟨hd, by omega, by omega⟩ rfl rfl (fun s1 h1 => hr1 (Or.inl ⟨rfl, _, h1.mono (Nat.le_succ n), em⟩))
  have nxt : ∀ {o : Option mW}, o = some (mnx W d) → gh (gb (gl (pk 63 0 0) (nI (6 * w + d))) fun v1 => G_X11_does_475 θ (nI (6 * w + d)) (v1 + (1 : Int32))) s (rPf π n w bv s0 W o) := fun em => by
    refine rt_g h hQ (j := 2) (i := d) (k := 4) ⟨hd, by omega, by omega⟩ rfl rfl ?_
    unfold G_X11_does_475
    exact rt_s h hQ (j := 2) (i := d) (k := 4) ⟨hd, by omega, by omega⟩ rfl rfl (fun s1 h1 => hr1 (Or.inl ⟨rfl, _, h1.mono (Nat.le_succ n), em⟩))
  refine gif_o (m := 10) (by omega) rfl (fun e => ?_) (fun e10 => ?_)
  · have em : mop π W d x = some (if W.1 0 d (xa x % 8) = 0 then mA W 2 d 4 (nI (xb x)) else mnx W d) := by unfold mop; simp only [e]; rfl
    refine rt_g h hQ (j := 0) (i := d) (k := xa x % 8) ⟨hd, hra⟩ rfl rfl ?_
    unfold G_X11_does_446 G_X11_does_458
    rw [e]
    refine hif (fun c => ?_) (fun c => ?_)
    · rw [if_pos c] at em
      exact hT rfl (hT rfl (jmp em))
    · rw [if_neg c] at em
      exact hT rfl (hF (by decide) (nxt em))
  refine gif_o (m := 11) (by omega) rfl (fun e => ?_) (fun e11 => ?_)
  · have em : mop π W d x = some (if W.1 0 d (xa x % 8) = 0 then mnx W d else mA W 2 d 4 (nI (xb x))) := by unfold mop; simp only [e]; rfl
    refine rt_g h hQ (j := 0) (i := d) (k := xa x % 8) ⟨hd, hra⟩ rfl rfl ?_
    unfold G_X11_does_446 G_X11_does_458
    rw [e]
    refine hif (fun c => ?_) (fun c => ?_)
    · rw [if_pos c] at em
      exact hF (by decide) (hF (by decide) (nxt em))
    · rw [if_neg c] at em
      exact hF (by decide) (hT rfl (jmp em))
  refine gif_o (m := 12) (by omega) rfl (fun e => ?_) (fun e12 => ?_)
  · have em : mop π W d x = if mcl (W.1 0 d (xb x % 8)) 1 then some (mset W d (xa x % 8) (W.1 1 d (W.1 0 d (xb x % 8)).toNatClampNeg)) else none := by unfold mop; simp only [e]; rfl
    refine hb (e_arC (m := 1) (W.1 0 d (xb x % 8)) (by omega)) ?_
    by_cases c : mcl (W.1 0 d (xb x % 8)) 1
    · rw [if_pos c] at em ⊢
      obtain ⟨j, hj, ej⟩ := nI_of c.1
      have c2 := c.2
      rw [ej, nI_clamp hj] at c2 em
      rw [ej, nI_add, e]
      refine hF (by decide) (hT rfl (rt_g h hQ (j := 1) (i := d) (k := j) ⟨hd, by omega⟩ rfl rfl ?_))
      exact r_set h hQ hd hra em
    · rw [if_neg c] at em ⊢
      exact hT rfl (hr0 (rPf_no h em))
  refine gif_o (m := 13) (by omega) rfl (fun e => ?_) (fun e13 => ?_)
  · have em : mop π W d x = if mcl (W.1 0 d (xb x % 8)) 1 then some (mnx (mA W 1 d (W.1 0 d (xb x % 8)).toNatClampNeg (W.1 0 d (xa x % 8))) d) else none := by unfold mop; simp only [e]; rfl
    refine hb (e_arC (m := 1) (W.1 0 d (xb x % 8)) (by omega)) ?_
    by_cases c : mcl (W.1 0 d (xb x % 8)) 1
    · rw [if_pos c] at em ⊢
      obtain ⟨j, hj, ej⟩ := nI_of c.1
      have c2 := c.2
      rw [ej, nI_clamp hj] at c2 em
      rw [ej, nI_add, e]
      refine hF (by decide) (hF (by decide) (rt_g h hQ (j := 0) (i := d) (k := xa x % 8) ⟨hd, hra⟩ rfl rfl ?_))
      exact rt_s h hQ (j := 1) (i := d) (k := j) ⟨hd, by omega⟩ rfl rfl (fun s1 h1 => r_737 h1 hQ hd em)
    · rw [if_neg c] at em ⊢
      exact hT rfl (hr0 (rPf_no h em))
  refine gif_o (m := 18) (by omega) rfl (fun e => ?_) (fun e18 => ?_)
  · have em : mop π W d x = if (W.2.1 1 d).length = 200 then none else some (mnx (mB W 1 d (W.2.1 1 d ++ [W.1 0 d (xa x % 8)])) d) := by unfold mop; simp only [e]; rfl
    have hlen := (hI.io d hd).2
    have hio := h.io d hd
    refine hlr (i := 6 * w + d) rfl (h.ln 68 (by omega)) (by show _ < 18; omega) hio.2.1 ?_
    refine hif (fun c => ?_) (fun c => ?_)
    · have c' : (W.2.1 1 d).length = 200 := (nI_eq (b := 200) (by omega) (by omega)).mp c
      rw [if_pos c'] at em
      exact hr0 (rPf_no h em)
    · have c' : ¬ (W.2.1 1 d).length = 200 := fun e => c (by rw [e]; rfl)
      rw [if_neg c'] at em
      refine hlr (i := 6 * w + d) rfl (h.ln 68 (by omega)) (by show _ < 18; omega) hio.2.1 ?_
      refine rt_g h hQ (j := 0) (i := d) (k := xa x % 8) ⟨hd, hra⟩ rfl rfl ?_
      rw [nI_add]
      exact rt_out h hI.io hd (by omega) (fun s1 h1 => r_737 h1 hQ hd em)
  refine gif_o (m := 19) (by omega) rfl (fun e => ?_) (fun e19 => ?_)
  · have em : mop π W d x = (match W.2.1 0 d with
      | [] => some (mset W d 7 0)
      | v :: t => some (mset (mB (mA W 0 d (xa x % 8) v) 0 d t) d 7 1)) := by unfold mop; simp only [e]; rfl
    have hio := h.io d hd
    have hlen := (hI.io d hd).1
    unfold G_X11_take
    simp only [m_8, a_7]
    cases hV : W.2.1 0 d with
    | nil =>
      rw [hV] at em hio
      refine hc (Q1 := fun _ s1 => rT π n w bv s0 s1 (mA W 0 d 7 0)) ?_ (fun _ s1 h1 => r_737 h1 hQ hd em)
      refine hlr (i := 6 * w + d) rfl (h.ln 66 (by omega)) (by show _ < 18; omega) hio.1.1 (hT rfl ?_)
      exact rt_s h hQ (j := 0) (i := d) (k := 7) ⟨hd, by omega⟩ rfl rfl (fun s1 h1 => hr h1)
    | cons v tl =>
      rw [hV] at em hio hlen
      rw [List.length_cons] at hlen
      refine hc (Q1 := fun _ s1 => rT π n w bv s0 s1 (mB (mA (mA W 0 d (xa x % 8) v) 0 d 7 1) 0 d tl)) ?_ (fun _ s1 h1 => r_737 h1 hQ hd em)
      refine hlr (i := 6 * w + d) rfl (h.ln 66 (by omega)) (by show _ < 18; omega) hio.1.1 (hF (nI_ne0 (by rw [List.length_cons]; omega) (by rw [List.length_cons]; omega)) ?_)
      refine hlr (i := 8 * (6 * w + d)) (v := v) rfl (h.ln 65 (by omega)) (by show _ < 144; omega) (hio.1.2 0 (by rw [List.length_cons]; omega)) ?_
      refine rt_s h hQ (j := 0) (i := d) (k := xa x % 8) ⟨hd, hra⟩ rfl rfl (fun s1 h1 => ?_)
      refine rt_s h1 hQ (j := 0) (i := d) (k := 7) ⟨hd, by omega⟩ rfl rfl (fun s2 h2 => ?_)
      exact rt_take h2 hI.io hd hV
  refine gif_o (m := 20) (by omega) rfl (fun e => ?_) (fun e20 => ?_)
  · refine rt_g h hQ (j := 5) (i := 0) (k := 1) ⟨rfl, by omega, by omega⟩ rfl rfl ?_
    exact r_set h hQ hd hra (by unfold mop; simp only [e]; rfl)
  refine gif_o (m := 21) (by omega) rfl (fun e => ?_) (fun e21 => ?_)
  · exact rt_z h hQ (j := 5) (i := 0) (k := 6) (Or.inr rfl) ⟨rfl, by omega, by omega⟩ rfl rfl (fun s1 h1 => r_737 h1 hQ hd (by unfold mop; simp only [e]; rfl))
  refine gif_o (m := 22) (by omega) rfl (fun e => ?_) (fun e22 => ?_)
  · have em : mop π W d x = (if xb x < π.1 ∧ pfl π (xb x) d = true ∧ mcl (W.1 0 d (xc x % 8)) 1 then some (mset W d (xa x % 8) (W.1 1 (xb x) (W.1 0 d (xc x % 8)).toNatClampNeg)) else none) := by unfold mop; simp only [e]; rfl
    refine hb (e_isD h.pl _) ?_
    rw [nI_clamp (by omega)]
    by_cases c1 : xb x < π.1
    · rw [if_pos ⟨nI_pos (by omega), c1⟩]
      refine hF (by decide) (hb (e_flT h.pl (h.ln 43 (by omega)) hQ.pok c1 hd) ?_)
      by_cases c2 : pfl π (xb x) d = true
      · rw [if_pos c2]
        refine hF (by decide) (hb (e_arC (m := 1) (W.1 0 d (xc x % 8)) (by omega)) ?_)
        by_cases c3 : mcl (W.1 0 d (xc x % 8)) 1
        · rw [if_pos c3]
          rw [if_pos ⟨c1, c2, c3⟩] at em
          obtain ⟨f, hf, ef⟩ := nI_of c3.1
          have c32 := c3.2
          rw [ef, nI_clamp hf] at c32 em
          rw [ef, nI_add]
          refine hF (by decide) (rt_g h hQ (j := 1) (i := xb x) (k := f) ⟨c1, by omega⟩ rfl rfl ?_)
          exact r_set h hQ hd hra em
        · rw [if_neg c3]
          rw [if_neg (fun q => c3 q.2.2)] at em
          exact hT rfl (hr0 (rPf_no h em))
      · rw [if_neg c2]
        rw [if_neg (fun q => c2 q.2.1)] at em
        exact hT rfl (hr0 (rPf_no h em))
    · rw [if_neg (fun q => c1 q.2)]
      rw [if_neg (fun q => c1 q.1)] at em
      exact hT rfl (hr0 (rPf_no h em))
  refine gif_o (m := 23) (by omega) rfl (fun e => ?_) (fun e23 => ?_)
  · have em : mop π W d x = (if xa x < 3 ∧ mrg π d then some (mnx (mA W 5 0 5 (nI (xa x))) d) else none) := by unfold mop; simp only [e]; rfl
    refine hif (fun c => ?_) (fun c => ?_)
    · have c' : 2 < xa x := (nI_ltI (a := 2) (by omega) (by omega)).mp c
      rw [if_neg (by omega)] at em
      exact hr0 (rPf_no h em)
    · have c' : ¬ 2 < xa x := fun q => c ((nI_ltI (a := 2) (by omega) (by omega)).mpr q)
      refine hb (e_rgn h.pl (h.ln 43 (by omega)) hQ.pok hd) ?_
      by_cases c2 : mrg π d
      · rw [if_pos c2]
        rw [if_pos ⟨by omega, c2⟩] at em
        exact hF (by decide) (rt_s h hQ (j := 5) (i := 0) (k := 5) ⟨rfl, by omega, by omega⟩ rfl rfl (fun s1 h1 => r_737 h1 hQ hd em))
      · rw [if_neg c2]
        rw [if_neg (fun q => c2 q.2)] at em
        exact hT rfl (hr0 (rPf_no h em))
  refine gif_o (m := 24) (by omega) rfl (fun e => ?_) (fun e24 => by omega)
  · refine rt_g h hQ (j := 5) (i := 0) (k := 4) ⟨rfl, by omega, by omega⟩ rfl rfl ?_
    exact r_set h hQ hd hra (by unfold mop; simp only [e]; rfl)
end RI
