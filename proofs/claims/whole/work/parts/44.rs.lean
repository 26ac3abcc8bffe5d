/-! THE REFERENCE'S SENDING AND SEEING, its steps -/
def rSf (π : mP) (n w : Nat) (bv : Int32) (s0 : gS) (d : Nat) (W1 : mW) (o : Option mW) (r : Int32) (s' : gS) : Prop := (r = 1 ∧ ∃ W2, rT π (n + 1) w bv s0 s' W2 ∧ o = some (mnx W2 d)) ∨ (r = 0 ∧ rT π (n + 1) w bv s0 s' W1 ∧ o = none)
section RS
theorem mAr_s {W : mW} {j i k : Nat} {f : Nat → Int32} : (mAr W j i f).1 j i k = f k := if_pos ⟨rfl, rfl⟩
variable {θ : gT} {π : mP} {n t w : Nat} {bv : Int32} {s0 s s' : gS} {W W' : mW} {d : Nat} {x : Int32} {o : Option mW}
theorem rSf_no (h : rT π n w bv s0 s W) (e : o = none) : rSf π n w bv s0 d W o 0 s := Or.inr ⟨rfl, h.mono (Nat.le_succ n), e⟩
theorem r_s36 {q F m M : Nat} {s2 : gS} (hL : ∀ k, 42 ≤ k → s2.2.1 (rk k) = rLen k) (hm : m ≤ 4) (hF : F + m ≤ 576) (hM : M < 9000) {Q : Unit → gS → Prop} (kk : ∀ s', s'.2 = s2.2 → (∀ q, q ≠ rk 85 → s'.1 q = s2.1 q) → (∀ y, y < m → s'.1 (rk 85) (4 * M + y) = s2.1 (rk 62) (F + y)) → (∀ x, x < 4 * M ∨ 4 * M + 4 ≤ x → s'.1 (rk 85) x = s2.1 (rk 85) x) → gh (G_X11_send_70 θ (nI q) (nI M)) s' Q) : ∀ (fu j : Nat) (s1 : gS), m - j < fu → j ≤ m → s1.2 = s2.2 → (∀ q, q ≠ rk 85 → s1.1 q = s2.1 q) → (∀ y, y < j → s1.1 (rk 85) (4 * M + y) = s2.1 (rk 62) (F + y)) → (∀ x, x < 4 * M ∨ 4 * M + 4 ≤ x → s1.1 (rk 85) x = s2.1 (rk 85) x) → gh (G_X11_send_36 θ fu (nI q) (nI F) (nI m) (nI M) (nI j)) s1 Q
  | 0, j, s1, h, _, _, _, _, _ => by omega
  | fu + 1, j, s1, hf, hj, e0, e1, e2, e3 => by
    have hL1 : ∀ k, 42 ≤ k → s1.2.1 (rk k) = rLen k := fun k hk => by rw [e0]; exact hL k hk
    unfold G_X11_send_36
    refine hif (fun c => ?_) (fun c => ?_)
    · rw [nI_leI (by omega) (by omega)] at c
      exact kk s1 e0 e1 (fun y hy => e2 y (by omega)) e3
    · rw [nI_leI (by omega) (by omega)] at c
      simp only [m_4, nI_add, nI_1]
      refine hlr (i := F + j) (v := s2.1 (rk 62) (F + j)) rfl (hL1 62 (by omega)) (by show _ < 576; omega) (by rw [e1 _ (rk_ne (by omega))]) ?_
      refine hsr (i := 4 * M + j) rfl (hL1 85 (by omega)) (by show _ < 36000; omega) (fun s3 g0 g1 g2 => ?_)
      refine r_s36 hL hm hF hM kk fu (j + 1) s3 (by omega) (by omega) (g0.trans e0) (fun q hq => (g2 q hq).trans (e1 q hq)) (fun y hy => ?_) (fun y hy => ?_)
      · rw [g1]
        by_cases z : y = j
        · rw [z, upd_s]
        · rw [upd_o (by omega)]; exact e2 y (by omega)
      · rw [g1, upd_o (by omega)]; exact e3 y hy
theorem r_send (h : rT π n w bv s0 s W) (hI : mI π n t W) (hn3 : n < 3000) (hd : d < π.1) {c f m : Nat} (hcc : c < π.2.1) (hm1 : 1 ≤ m) (hm : m ≤ 4) (hf : f + m ≤ 32) : gh (G_X11_send θ (nI w) (nI (12 * w + c)) (nI (32 * (6 * w + d) + f)) (nI m)) s (fun _ s' => rT π (n + 1) w bv s0 s' (mC W 1 c (W.2.2 1 c ++ [mrow W d f m]))) := by
  have hw := h.w3
  have ht := h.pl.t1
  obtain ⟨cnt, q1, q2, q3, q4⟩ := rM_send h.ms (fun c j m hc hj hm => ((hI.ms c j hc hj).1 m hm).2) hcc
  have hcn := rM_cnt h.ms hcc
  unfold G_X11_send
  simp only [m_3000]
  refine hlr (i := w) rfl (h.ln 86 (by omega)) (by show _ < 3; omega) q1 ?_
  refine hlr (i := w) rfl (h.ln 86 (by omega)) (by show _ < 3; omega) q1 ?_
  simp only [nI_add, nI_1]
  refine hsr (i := w) rfl (h.ln 86 (by omega)) (by show _ < 3; omega) (fun s1 f0 f1 f2 => ?_)
  have L1 : ∀ k, 42 ≤ k → s1.2.1 (rk k) = rLen k := fun k hk => by rw [f0]; exact h.ln k hk
  refine hsr (i := 3000 * w + cnt) rfl (L1 84 (by omega)) (by show _ < 9000; omega) (fun s2 g0 g1 g2 => ?_)
  have L2 : ∀ k, 42 ≤ k → s2.2.1 (rk k) = rLen k := fun k hk => by rw [g0]; exact L1 k hk
  refine r_s36 L2 hm (show 32 * (6 * w + d) + f + m ≤ 576 by omega) (show 3000 * w + cnt < 9000 by omega) (fun s3 p0 p1 p2 p3 => ?_) mo_fu 0 s2 (by unfold mo_fu; omega) (Nat.zero_le _) rfl (fun _ _ => rfl) (fun y hy => by omega) (fun _ _ => rfl)
  have L3 : ∀ k, 42 ≤ k → s3.2.1 (rk k) = rLen k := fun k hk => by rw [p0]; exact L2 k hk
  have k3 : ∀ k, k ≠ 84 → k ≠ 85 → k ≠ 86 → s3.1 (rk k) = s.1 (rk k) := fun k h1 h2 h3 => by rw [p1 _ (rk_ne h2), g2 _ (rk_ne h1), f2 _ (rk_ne h3)]
  have r3 : rfr w s s3 := by
    have r1 : rfr w s s1 := rfr.up1 (K := 86) (show w = w from rfl) f0 f1 f2
    have r2 : rfr w s1 s2 := rfr.up1 (K := 84) (show 3000 * w ≤ _ ∧ _ < 3000 * w + 3000 by omega) g0 g1 g2
    refine (r1.tr r2).tr ⟨p0, fun q y hq => ?_⟩
    by_cases e : q = rk 85
    · rw [e]
      refine p3 y ?_
      have hz : ¬ (12000 * w ≤ y ∧ y < 12000 * w + 12000) := fun z => hq ⟨by rw [e]; rfl, by rw [e]; exact z⟩
      omega
    · rw [p1 q e]
  have e86 : s3.1 (rk 86) w = nI (cnt + 1) := by rw [p1 _ (rk_ne (by omega)), g2 _ (rk_ne (by omega)), f1, upd_s]
  have e84 : s3.1 (rk 84) (3000 * w + cnt) = nI (mrow W d f m).length := by rw [p1 _ (rk_ne (by omega)), g1, upd_s, mrow_length]
  have e84o : ∀ x, x ≠ 3000 * w + cnt → s3.1 (rk 84) x = s.1 (rk 84) x := fun x hx => by rw [p1 _ (rk_ne (by omega)), g1, upd_o hx, f2 _ (rk_ne (by omega))]
  have e85 : ∀ y, y < (mrow W d f m).length → s3.1 (rk 85) (4 * (3000 * w + cnt) + y) = (mrow W d f m).getD y 0 := fun y hy => by
    rw [mrow_length] at hy
    rw [p2 y hy, g2 _ (rk_ne (by omega)), f2 _ (rk_ne (by omega))]
    have := h.sc 1 d (f + y) ⟨hd, by omega⟩
    rw [show 32 * (6 * w + d) + f + y = 32 * (6 * w + d) + (f + y) by omega]
    refine Eq.trans this ?_
    unfold mrow
    rw [getD_map (d := 0) (by rw [List.length_range]; exact hy)]
    rw [show (List.range m).getD y 0 = y by
      rw [List.getD_eq_getElem?_getD, List.getElem?_range hy]; rfl]
  have e85o : ∀ x, x < 4 * (3000 * w + cnt) → s3.1 (rk 85) x = s.1 (rk 85) x := fun x hx => by rw [p3 x (Or.inl hx), g2 _ (rk_ne (by omega)), f2 _ (rk_ne (by omega))]
  have fin : ∀ s4, s4.2 = s3.2 → (∀ k, k ≠ 75 → k ≠ 83 → s4.1 (rk k) = s3.1 (rk k)) → rfr w s3 s4 → (W.2.2 1 c = [] → s4.1 (rk 75) = upd (s.1 (rk 75)) (12 * w + c) (nI (3000 * w + cnt)) ∧ s4.1 (rk 83) = s.1 (rk 83)) → (W.2.2 1 c ≠ [] → s4.1 (rk 75) = s.1 (rk 75) ∧ ∀ l, s.1 (rk 76) (12 * w + c) = nI l → l < 2 ^ 31 → s4.1 (rk 83) = upd (s.1 (rk 83)) l (nI (3000 * w + cnt))) → gh (G_X11_send_103 θ (nI (12 * w + c)) (nI (3000 * w + cnt))) s4 (fun _ s' => rT π (n + 1) w bv s0 s' (mC W 1 c (W.2.2 1 c ++ [mrow W d f m]))) := fun s4 u0 u1 u2 u3 u4 => by
    have L4 : ∀ k, 42 ≤ k → s4.2.1 (rk k) = rLen k := fun k hk => by rw [u0]; exact L3 k hk
    unfold G_X11_send_103
    refine hsr (i := 12 * w + c) rfl (L4 76 (by omega)) (by show _ < 36; omega) (fun s5 v0 v1 v2 => ?_)
    have L5 : ∀ k, 42 ≤ k → s5.2.1 (rk k) = rLen k := fun k hk => by rw [v0]; exact L4 k hk
    refine hlr (i := 12 * w + c) (v := nI (W.2.2 1 c).length) rfl (L5 77 (by omega)) (by show _ < 36; omega) (by rw [v2 _ (rk_ne (by omega)), u1 _ (by omega) (by omega), k3 _ (by omega) (by omega) (by omega)]; exact hcn.2.2.1) ?_
    rw [nI_1]
    refine hsr (i := 12 * w + c) rfl (L5 77 (by omega)) (by show _ < 36; omega) (fun s6 y0 y1 y2 => hr ?_)
    have r4 : rfr w s4 s5 := rfr.up1 (K := 76) (show 12 * w ≤ _ ∧ _ < 12 * w + 12 by omega) v0 v1 v2
    have r5 : rfr w s5 s6 := rfr.up1 (K := 77) (show 12 * w ≤ _ ∧ _ < 12 * w + 12 by omega) y0 y1 y2
    have k6 : ∀ k, k ≠ 75 → k ≠ 83 → k ≠ 84 → k ≠ 85 → k ≠ 86 → k ≠ 76 → k ≠ 77 → s6.1 (rk k) = s.1 (rk k) := fun k a1 a2 a3 a4 a5 a6 a7 => by
      rw [y2 _ (rk_ne a7), v2 _ (rk_ne a6), u1 _ a1 a2, k3 _ a3 a4 a5]
    refine h.msU (W' := mC W 1 c (W.2.2 1 c ++ [mrow W d f m])) (((r3.tr u2).tr r4).tr r5) (fun k hk => k6 k (by omega) (by omega) (by omega) (by omega) (by omega) (by omega) (by omega)) ?_ rfl rfl
    have k84 : ∀ k, k = 84 ∨ k = 85 ∨ k = 86 → s6.1 (rk k) = s3.1 (rk k) := fun k hk => by
      rw [y2 _ (rk_ne (by omega)), v2 _ (rk_ne (by omega)), u1 _ (by omega) (by omega)]
    have k75 : ∀ k, k = 75 ∨ k = 83 → s6.1 (rk k) = s4.1 (rk k) := fun k hk => by
      rw [y2 _ (rk_ne (by omega)), v2 _ (rk_ne (by omega))]
    refine q4 (mrow W d f m) s6 (fun k hk => k6 k (by omega) (by omega) (by omega) (by omega) (by omega) (by omega) (by omega)) ?_ ?_ ?_ ?_ ?_ ?_ ?_ ?_ ?_ hw (by omega)
    · rw [k84 86 (by omega)]; exact e86
    · rw [k84 84 (by omega)]; exact e84
    · rw [k84 84 (by omega)]; exact e84o
    · rw [k84 85 (by omega)]; exact e85
    · rw [k84 85 (by omega)]; exact e85o
    · rw [y2 _ (rk_ne (by omega)), v1, u1 _ (by omega) (by omega), k3 _ (by omega) (by omega) (by omega)]
    · rw [y1, v2 _ (rk_ne (by omega)), u1 _ (by omega) (by omega), k3 _ (by omega) (by omega) (by omega)]
    · rw [k75 75 (by omega), k75 83 (by omega)]; exact u3
    · rw [k75 75 (by omega), k75 83 (by omega)]; exact u4
  unfold G_X11_send_70
  refine hlr (i := 12 * w + c) (v := nI (W.2.2 1 c).length) rfl (L3 77 (by omega)) (by show _ < 36; omega) (by rw [k3 _ (by omega) (by omega) (by omega)]; exact hcn.2.2.1) ?_
  refine hif (fun z => ?_) (fun z => ?_)
  · have z0 : (W.2.2 1 c).length = 0 := (nI_eq (b := 0) (by omega) (by omega)).mp z
    have zn : W.2.2 1 c = [] := List.eq_nil_of_length_eq_zero z0
    refine hsr (i := 12 * w + c) rfl (L3 75 (by omega)) (by show _ < 36; omega) (fun s4 u0 u1 u2 => ?_)
    refine fin s4 u0 (fun k a1 _ => u2 _ (rk_ne a1)) (rfr.up1 (K := 75) (show 12 * w ≤ _ ∧ _ < 12 * w + 12 by omega) u0 u1 u2) (fun _ => ⟨?_, ?_⟩) (fun q => absurd zn q)
    · rw [u1, k3 _ (by omega) (by omega) (by omega)]
    · rw [u2 _ (rk_ne (by omega)), k3 _ (by omega) (by omega) (by omega)]
  · have zn : W.2.2 1 c ≠ [] := fun q => z (by rw [q]; rfl)
    obtain ⟨l, l1, l2, l3⟩ := q3 zn
    refine hlr (i := 12 * w + c) (v := nI l) rfl (L3 76 (by omega)) (by show _ < 36; omega) (by rw [k3 _ (by omega) (by omega) (by omega)]; exact l1) ?_
    refine hsr (i := l) rfl (L3 83 (by omega)) (by show _ < 9000; omega) (fun s4 u0 u1 u2 => ?_)
    refine fin s4 u0 (fun k _ a2 => u2 _ (rk_ne a2)) (rfr.up1 (K := 83) (show 3000 * w ≤ _ ∧ _ < 3000 * w + 3000 by omega) u0 u1 u2) (fun q => absurd q zn) (fun _ => ⟨?_, fun l' hl' hl2 => ?_⟩)
    · rw [u2 _ (rk_ne (by omega)), k3 _ (by omega) (by omega) (by omega)]
    · have : l' = l := (nI_eq hl2 (by omega)).mp (hl'.symm.trans l1)
      rw [u1, k3 _ (by omega) (by omega) (by omega), this]
/-- words into cells -/
theorem r_253 (hQ : mQ π) (hd : d < π.1) {c f i : Nat} {m : List Int32} (hm : m.length ≤ 4) (hf : f + m.length ≤ 32) (hi : i < 9000) {Q : Int32 → gS → Prop} (e84 : s.1 (rk 84) i = nI m.length) (e85 : ∀ y, y < m.length → s.1 (rk 85) (4 * i + y) = m.getD y 0) (kk : ∀ s', rT π n w bv s0 s' (mput W d f m) → s'.2 = s.2 → (∀ q, q ≠ rk 62 → s'.1 q = s.1 q) → gh (G_X11_sends_299 θ (nI (6 * w + d)) (nI (12 * w + c)) (nI i)) s' Q) : ∀ (fu j : Nat) (s1 : gS), m.length - j < fu → j ≤ m.length → rT π n w bv s0 s1 (mAr W 1 d (fun k => if f ≤ k ∧ k < f + j then m.getD (k - f) 0 else W.1 1 d k)) → s1.2 = s.2 → (∀ q, q ≠ rk 62 → s1.1 q = s.1 q) → gh (G_X11_sends_253 θ fu (nI f) (nI (6 * w + d)) (nI (12 * w + c)) (nI i) (nI j)) s1 Q
  | 0, j, s1, h, _, _, _, _ => by omega
  | fu + 1, j, s1, hfu, hj, h1, e0, e1 => by
    unfold G_X11_sends_253
    refine hlr (i := i) (v := nI m.length) rfl (h1.ln 84 (by omega)) (by show _ < 9000; omega) (by rw [e1 _ (rk_ne (by omega))]; exact e84) ?_
    refine hif (fun z => ?_) (fun z => ?_)
    · rw [nI_leI (by omega) (by omega)] at z
      have : j = m.length := by omega
      subst this
      exact kk s1 h1 e0 e1
    · rw [nI_leI (by omega) (by omega)] at z
      simp only [m_4, m_32, nI_add, nI_1]
      refine hlr (i := 4 * i + j) (v := m.getD j 0) rfl (h1.ln 85 (by omega)) (by show _ < 36000; omega) (by rw [e1 _ (rk_ne (by omega))]; exact e85 j (by omega)) ?_
      refine rt_sf h1 hQ (j := 1) (i := d) (k := f + j) ⟨hd, by omega⟩ rfl (by rw [show 32 * (6 * w + d) + (f + j) = 32 * (6 * w + d) + f + j by omega]) (fun s2 h2 g0 g1 => ?_)
      refine r_253 hQ hd hm hf hi e84 e85 kk fu (j + 1) s2 (by omega) (by omega) (h2.eqW (fun jj ii k _ => ?_) (fun _ _ _ _ => rfl) (fun _ _ _ _ => rfl)) (g0.trans e0) (fun q hq => (g1 q hq).trans (e1 q hq))
      by_cases y : jj = 1 ∧ ii = d
      · obtain ⟨rfl, rfl⟩ := y
        by_cases y2 : k = f + j
        · subst y2
          rw [mA_s, mAr_s, if_pos (by omega), show f + j - f = j by omega]
        · rw [mA_n (by omega), mAr_s, mAr_s]
          by_cases y3 : f ≤ k ∧ k < f + j
          · rw [if_pos y3, if_pos (by omega)]
          · rw [if_neg y3, if_neg (by omega)]
      · rw [mA_n (by omega), mAr_n y, mAr_n y]
/-- cells onto a board, or a board into cells -/
theorem r_368 (hQ : mQ π) (hd : d < π.1) {c f : Nat} (hcc : c < π.2.1) (hf : f + psz π c ≤ 32) (b : Bool) {Q : Int32 → gS → Prop} (kk : ∀ s', rT π n w bv s0 s' (if b = true then mAr W 4 c (fun k => if k < psz π c then W.1 1 d (f + k) else W.1 4 c k) else mAr W 1 d (fun k => if f ≤ k ∧ k < f + psz π c then W.1 4 c (k - f) else W.1 1 d k)) → gh (G_X11_sends_451 θ (nI w) (nI (if b = true then 16 else 17)) (nI (6 * w + d)) (nI (12 * w + c))) s' Q) : ∀ (fu j : Nat) (s1 : gS), psz π c - j < fu → j ≤ psz π c → rT π n w bv s0 s1 (if b = true then mAr W 4 c (fun k => if k < j then W.1 1 d (f + k) else W.1 4 c k) else mAr W 1 d (fun k => if f ≤ k ∧ k < f + j then W.1 4 c (k - f) else W.1 1 d k)) → gh (G_X11_sends_368 θ fu (nI w) (nI (if b = true then 16 else 17)) (nI c) (nI f) (nI (6 * w + d)) (nI (12 * w + c)) (nI j)) s1 Q
  | 0, j, s1, h, _, _ => by omega
  | fu + 1, j, s1, hfu, hj, h1 => by
    have hz := hQ.lk c hcc
    have ht := h1.pl.t1
    unfold G_X11_sends_368 G_X11_sends_445
    refine hlr (i := c) (v := nI (psz π c)) rfl (h1.ln 48 (by omega)) (by show _ < 12; omega) ((h1.pl.lk c 3 hcc (by omega)).trans hz.2.2.1) ?_
    refine hif (fun z => ?_) (fun z => ?_)
    · rw [nI_leI (by omega) (by omega)] at z
      have : j = psz π c := by omega
      subst this
      exact kk s1 h1
    · rw [nI_leI (by omega) (by omega)] at z
      simp only [m_4, m_32, nI_add, nI_1]
      cases b with
      | true =>
        simp only [if_true] at h1 ⊢
        refine hT rfl ?_
        refine rt_g h1 hQ (j := 1) (i := d) (k := f + j) ⟨hd, by omega⟩ rfl (by rw [show 32 * (6 * w + d) + (f + j) = 32 * (6 * w + d) + f + j by omega]) ?_
        refine rt_s h1 hQ (j := 4) (i := c) (k := j) ⟨hcc, by omega⟩ rfl rfl (fun s2 h2 => ?_)
        refine r_368 hQ hd hcc hf true kk fu (j + 1) s2 (by omega) (by omega) ?_
        simp only [if_true]
        refine h2.eqW (fun jj ii k _ => ?_) (fun _ _ _ _ => rfl) (fun _ _ _ _ => rfl)
        by_cases y : jj = 4 ∧ ii = c
        · obtain ⟨rfl, rfl⟩ := y
          by_cases y2 : k = j
          · subst y2
            rw [mA_s, mAr_s, mAr_n (by omega), if_pos (by omega)]
          · rw [mA_n (by omega), mAr_s, mAr_s]
            by_cases y3 : k < j
            · rw [if_pos y3, if_pos (by omega)]
            · rw [if_neg y3, if_neg (by omega)]
        · rw [mA_n (by omega), mAr_n y, mAr_n y]
      | false =>
        simp only [Bool.false_eq_true, if_false] at h1 ⊢
        refine hF (by decide) ?_
        refine rt_g h1 hQ (j := 4) (i := c) (k := j) ⟨hcc, by omega⟩ rfl rfl ?_
        refine rt_s h1 hQ (j := 1) (i := d) (k := f + j) ⟨hd, by omega⟩ rfl (by rw [show 32 * (6 * w + d) + (f + j) = 32 * (6 * w + d) + f + j by omega]) (fun s2 h2 => ?_)
        refine r_368 hQ hd hcc hf false kk fu (j + 1) s2 (by omega) (by omega) ?_
        simp only [Bool.false_eq_true, if_false]
        refine h2.eqW (fun jj ii k _ => ?_) (fun _ _ _ _ => rfl) (fun _ _ _ _ => rfl)
        by_cases y : jj = 1 ∧ ii = d
        · obtain ⟨rfl, rfl⟩ := y
          by_cases y2 : k = f + j
          · subst y2
            rw [mA_s, mAr_s, mAr_n (by omega), if_pos (by omega), show f + j - f = j by omega]
          · rw [mA_n (by omega), mAr_s, mAr_s]
            by_cases y3 : f ≤ k ∧ k < f + j
            · rw [if_pos y3, if_pos (by omega)]
            · rw [if_neg y3, if_neg (by omega)]
        · rw [mA_n (by omega), mAr_n y, mAr_n y]
theorem op_par (h : xop x = 14 ∨ xop x = 15 ∨ xop x = 16 ∨ xop x = 17) : (nI (xop x) - nI (xop x) / (2 : Int32) * (2 : Int32) = 0) ↔ (xop x = 14 ∨ xop x = 16) := by
  rcases h with e | e | e | e <;> rw [e]
  · exact ⟨fun _ => by omega, fun _ => by decide⟩
  · exact ⟨fun q => absurd q (by decide), fun q => by omega⟩
  · exact ⟨fun _ => by omega, fun _ => by decide⟩
  · exact ⟨fun q => absurd q (by decide), fun q => by omega⟩
theorem r_187 (h : rT π (n + 1) w bv s0 s W) (hQ : mQ π) (hd : d < π.1) {v : Int32} {W1 : mW} (e : o = some (mset W d 7 v)) : gh (G_X11_sends_187 θ (nI (8 * (6 * w + d) + 7)) v) s (rSf π n w bv s0 d W1 o) := by
  unfold G_X11_sends_187
  exact rt_s h hQ (j := 0) (i := d) (k := 7) ⟨hd, by omega⟩ rfl rfl (fun s1 h1 => hr1 (Or.inl ⟨rfl, _, h1, e⟩))
theorem r_53 (h : rT π n w bv s0 s W) (hI : mI π n t W) (hQ : mQ π) (hd : d < π.1) (hn3 : n < 3000) (hx : xop x = 14 ∨ xop x = 15 ∨ xop x = 16 ∨ xop x = 17) (hcc : xa x < π.2.1) (hb2 : plk π (xa x) 2 = if xop x = 14 ∨ xop x = 15 then 0 else 1) {e0 : Int32} (he : e0 = if xop x = 14 ∨ xop x = 16 then plk π (xa x) 0 else plk π (xa x) 1) : gh (G_X11_sends_53 θ (nI w) (nI d) (nI (xop x)) (nI (xa x)) (W.1 0 d (xb x % 8)) (W.1 0 d (xc x % 8)) e0) s (rSf π n w bv s0 d W (mop π W d x)) := by
  have hw := h.w3
  have ht := h.pl.t1
  have hn := h.mono (Nat.le_succ n)
  have em := mchan_of (π := π) (W := W) (d := d) hx rfl rfl
  have hz := hQ.lk _ hcc
  have hcn := rM_cnt h.ms hcc
  unfold G_X11_sends_53
  simp only [m_12, m_6, m_8, a_7, nI_add]
  refine hif (fun c0 => ?_) (fun c0 => ?_)
  · refine gif_o (m := 14) (by omega) rfl (fun e => ?_) (fun e14 => ?_)
    · rw [if_pos (Or.inl e)] at hb2 he
      unfold mchan at em
      rw [if_pos e, if_pos ⟨hcc, hb2, he.symm.trans c0⟩] at em
      refine hif (fun c3 => ?_) (fun c3 => ?_)
      · rw [if_neg (fun q => q.1 c3)] at em
        exact hr0 (rSf_no h em)
      refine hif (fun c4 => ?_) (fun c4 => ?_)
      · rw [if_neg (fun q => q.2.1 c4)] at em
        exact hr0 (rSf_no h em)
      have hz0 : ¬ W.1 0 d (xc x % 8) < 0 := fun q => c3 (Int32.lt_trans q (by decide))
      obtain ⟨m, hm, ez⟩ := nI_of hz0
      rw [ez] at c3 c4 em
      rw [ez]
      have c34 : ¬ nI m < 1 ∧ ¬ 4 < nI m := ⟨c3, c4⟩
      rw [show (1 : Int32) = nI 1 from rfl, nI_ltI hm (by omega)] at c3
      rw [show (4 : Int32) = nI 4 from rfl, nI_ltI (by omega) hm] at c4
      rw [nI_clamp hm] at em
      rw [nI_l hm]
      refine hb (e_arC _ (by omega)) ?_
      by_cases c5 : mcl (W.1 0 d (xb x % 8)) m
      · rw [if_pos ⟨c34.1, c34.2, c5⟩] at em
        rw [if_pos c5]
        obtain ⟨f, hf, ef⟩ := nI_of c5.1
        have c52 := c5.2
        rw [ef, nI_clamp hf] at c52 em
        rw [ef]
        refine hF (by decide) ?_
        obtain ⟨k, k1, k2⟩ := hI.ch _ hcc
        refine rt_g h hQ (j := 3) (i := xa x) (k := 3) ⟨hcc, by omega⟩ rfl rfl ?_
        refine hlr (i := xa x) rfl (h.ln 48 (by omega)) (by show _ < 12; omega) ((h.pl.lk _ 3 hcc (by omega)).trans hz.2.2.1) ?_
        rw [k2] at em ⊢
        rw [hz.2.2.1] at em
        unfold G_X11_sends_130 G_X11_sends_165
        simp only [m_32, m_8, a_7, nI_add]
        refine hif (fun c6 => ?_) (fun c6 => ?_)
        · rw [nI_leI (by omega) (by omega)] at c6
          have : k = psz π (xa x) := by omega
          rw [if_pos (by rw [this])] at em
          exact hT rfl (hT rfl (r_187 hn hQ hd em))
        · rw [nI_leI (by omega) (by omega)] at c6
          rw [if_neg (fun q => by have := (nI_eq (by omega) (by omega)).mp q; omega)] at em
          refine hF (by decide) ?_
          refine rt_g h hQ (j := 3) (i := xa x) (k := 3) ⟨hcc, by omega⟩ rfl rfl ?_
          rw [k2]
          refine rt_s h hQ (j := 3) (i := xa x) (k := 3) ⟨hcc, by omega⟩ rfl rfl (fun s1 h1 => ?_)
          have hI1 : mI π n t (mA W 3 (xa x) 3 (nI k + 1)) := by
            rw [nI_1]
            exact hI.A33 (by omega)
          refine hc (r_send h1 hI1 hn3 hd hcc (by omega) (by omega) c52) (fun _ s2 h2 => ?_)
          exact hF (by decide) (r_187 h2 hQ hd em)
      · rw [if_neg (fun q => c5 q.2.2)] at em
        rw [if_neg c5]
        exact hT rfl (hr0 (rSf_no h em))
    refine gif_o (m := 15) (by omega) rfl (fun e => ?_) (fun e15 => ?_)
    · rw [if_pos (Or.inr e)] at hb2
      rw [if_neg (by omega)] at he
      unfold mchan at em
      rw [if_neg (by omega), if_pos e, if_pos ⟨hcc, hb2, he.symm.trans c0⟩] at em
      have hml := (hI.ms (xa x) 0 hcc (by omega)).1
      refine hlr (i := 12 * w + xa x) rfl (h.ln 74 (by omega)) (by show _ < 36; omega) hcn.2.1 ?_
      cases hV : W.2.2 0 (xa x) with
      | nil =>
        rw [hV] at em
        refine hT rfl ?_
        exact rt_s hn hQ (j := 0) (i := d) (k := 7) ⟨hd, by omega⟩ rfl rfl (fun s1 h1 => hr1 (Or.inl ⟨rfl, _, h1, em⟩))
      | cons m tl =>
        rw [hV] at em hml
        have hm := hml m (List.mem_cons_self ..)
        obtain ⟨i, i1, i2, i3, i4, i5, i6⟩ := rM_take h.ms hcc hV
        have hcn4 := hcn.2.2.2.1
        rw [hV, List.length_cons] at hcn4
        refine hF (nI_ne0 (by rw [List.length_cons]; omega) (by rw [List.length_cons]; omega)) ?_
        refine hlr (i := 12 * w + xa x) rfl (h.ln 72 (by omega)) (by show _ < 36; omega) i3 ?_
        refine hlr (i := i) rfl (h.ln 84 (by omega)) (by show _ < 9000; omega) i4.1 ?_
        rw [nI_l (show m.length < 2 ^ 31 by omega)]
        refine hb (e_arC _ (by omega)) ?_
        by_cases c5 : mcl (W.1 0 d (xb x % 8)) m.length
        · rw [if_pos c5]
          simp only [if_pos c5] at em
          obtain ⟨f, hf, ef⟩ := nI_of c5.1
          have c52 := c5.2
          rw [ef, nI_clamp hf] at c52 em
          rw [ef]
          refine hF (by decide) ?_
          have h0 : rT π n w bv s0 s (mAr W 1 d (fun k => if f ≤ k ∧ k < f + 0 then m.getD (k - f) 0 else W.1 1 d k)) := h.eqW (fun jj ii k _ => by
            by_cases y : jj = 1 ∧ ii = d
            · obtain ⟨rfl, rfl⟩ := y
              rw [mAr_s, if_neg (by omega)]
            · rw [mAr_n y]) (fun _ _ _ _ => rfl) (fun _ _ _ _ => rfl)
          refine r_253 (s := s) (n := n) (W := W) hQ hd hm.2 c52 (by omega) i4.1 i4.2 (fun s1 h1 f0 f1 => ?_) mo_fu 0 s (by unfold mo_fu; omega) (Nat.zero_le _) h0 rfl (fun _ _ => rfl)
          unfold G_X11_sends_299
          simp only [m_8, a_7]
          refine hlr (i := i) (v := nI m.length) rfl (h1.ln 84 (by omega)) (by show _ < 9000; omega) (by rw [f1 _ (rk_ne (by omega))]; exact i4.1) ?_
          refine rt_sf h1 hQ (j := 0) (i := d) (k := 7) ⟨hd, by omega⟩ rfl rfl (fun s2 h2 g0 g1 => ?_)
          have k2 : ∀ k, k ≠ 61 → k ≠ 62 → s2.1 (rk k) = s.1 (rk k) := fun k a1 a2 => by rw [g1 _ (rk_ne a1), f1 _ (rk_ne a2)]
          refine hlr (i := i) (v := s.1 (rk 83) i) rfl (h2.ln 83 (by omega)) (by show _ < 9000; omega) (by rw [k2 _ (by omega) (by omega)]) ?_
          refine hsr (i := 12 * w + xa x) rfl (h2.ln 72 (by omega)) (by show _ < 36; omega) (fun s3 p0 p1 p2 => ?_)
          have L3 : ∀ k, 42 ≤ k → s3.2.1 (rk k) = rLen k := fun k hk => by rw [p0]; exact h2.ln k hk
          refine hlr (i := 12 * w + xa x) (v := nI (tl.length + 1)) rfl (L3 74 (by omega)) (by show _ < 36; omega) (by rw [p2 _ (rk_ne (by omega)), k2 _ (by omega) (by omega)]; exact i5) ?_
          rw [nI_pred]
          refine hsr (i := 12 * w + xa x) rfl (L3 74 (by omega)) (by show _ < 36; omega) (fun s4 u0 u1 u2 => hr1 (Or.inl ⟨rfl, mC (mA (mput W d f m) 0 d 7 (nI m.length)) 0 (xa x) tl, ?_, em⟩))
          have r3 : rfr w s2 s3 := rfr.up1 (K := 72) (show 12 * w ≤ _ ∧ _ < 12 * w + 12 by omega) p0 p1 p2
          have r4 : rfr w s3 s4 := rfr.up1 (K := 74) (show 12 * w ≤ _ ∧ _ < 12 * w + 12 by omega) u0 u1 u2
          refine (h2.msU (n' := n) (W' := mC (mA (mput W d f m) 0 d 7 (nI m.length)) 0 (xa x) tl) (r3.tr r4) (fun k hk => ?_) ?_ rfl rfl).mono (Nat.le_succ n)
          · rw [u2 _ (rk_ne (by omega)), p2 _ (rk_ne (by omega))]
          · refine i6 s4 (fun k hk => ?_) ?_ ?_
            · rw [u2 _ (rk_ne (by omega)), p2 _ (rk_ne (by omega)), k2 _ (by omega) (by omega)]
            · rw [u2 _ (rk_ne (by omega)), p1, k2 _ (by omega) (by omega)]
            · rw [u1, p2 _ (rk_ne (by omega)), k2 _ (by omega) (by omega)]
        · rw [if_neg c5]
          simp only [if_neg c5] at em
          exact hT rfl (hr0 (rSf_no h em))
    · rw [if_neg (by omega)] at hb2
      refine hlr (i := xa x) rfl (h.ln 48 (by omega)) (by show _ < 12; omega) ((h.pl.lk _ 3 hcc (by omega)).trans hz.2.2.1) ?_
      rw [nI_l (show psz π (xa x) < 2 ^ 31 by omega)]
      refine hb (e_arC _ (by omega)) ?_
      have emm : (mop π W d x = if mcl (W.1 0 d (xb x % 8)) (psz π (xa x)) then (if xop x = 16 then some (mnx (mA (mA (mAr W 4 (xa x) (fun k => if k < psz π (xa x) then W.1 1 d ((W.1 0 d (xb x % 8)).toNatClampNeg + k) else W.1 4 (xa x) k)) 3 (xa x) 6 (W.1 3 (xa x) 6 + 1)) 3 (xa x) 7 (W.1 5 0 1)) d) else some (mset (mput W d (W.1 0 d (xb x % 8)).toNatClampNeg ((List.range (psz π (xa x))).map (fun k => W.1 4 (xa x) k))) d 7 (mage W (xa x)))) else none) := by
        rw [em]
        unfold mchan
        rw [if_neg e14, if_neg e15]
        by_cases e16 : xop x = 16
        · rw [if_pos (Or.inr e16)] at he
          rw [if_pos e16, if_pos e16]
          by_cases c5 : mcl (W.1 0 d (xb x % 8)) (psz π (xa x))
          · rw [if_pos c5, if_pos ⟨⟨hcc, hb2, he.symm.trans c0⟩, c5⟩]
            rfl
          · rw [if_neg c5, if_neg (fun q => c5 q.2)]
        · rw [if_neg (by omega)] at he
          rw [if_neg e16, if_neg e16, if_pos (show xop x = 17 by omega)]
          by_cases c5 : mcl (W.1 0 d (xb x % 8)) (psz π (xa x))
          · rw [if_pos c5, if_pos ⟨⟨hcc, hb2, he.symm.trans c0⟩, c5⟩]
            rfl
          · rw [if_neg c5, if_neg (fun q => c5 q.2)]
      by_cases c5 : mcl (W.1 0 d (xb x % 8)) (psz π (xa x))
      · rw [if_pos c5] at emm ⊢
        obtain ⟨f, hf, ef⟩ := nI_of c5.1
        have c52 := c5.2
        rw [ef, nI_clamp hf] at c52 emm
        rw [ef]
        refine hF (by decide) ?_
        by_cases e16 : xop x = 16
        · rw [if_pos e16] at emm
          rw [e16]
          refine r_368 (b := true) (n := n) (W := W) (s0 := s0) (bv := bv) hQ hd hcc c52 (fun s1 h1 => ?_) mo_fu 0 s (by unfold mo_fu; omega) (Nat.zero_le _) ?_
          · simp only [if_true] at h1 ⊢
            unfold G_X11_sends_451
            refine hT rfl ?_
            refine rt_g h1 hQ (j := 3) (i := xa x) (k := 6) ⟨hcc, by omega⟩ rfl rfl ?_
            refine rt_s h1 hQ (j := 3) (i := xa x) (k := 6) ⟨hcc, by omega⟩ rfl rfl (fun s2 h2 => ?_)
            refine rt_g h2 hQ (j := 5) (i := 0) (k := 1) ⟨rfl, by omega, by omega⟩ rfl rfl ?_
            refine rt_s h2 hQ (j := 3) (i := xa x) (k := 7) ⟨hcc, by omega⟩ rfl rfl (fun s3 h3 => hr1 (Or.inl ⟨rfl, _, h3.mono (Nat.le_succ n), ?_⟩))
            rw [emm]
            rfl
          · simp only [if_true]
            refine h.eqW (fun jj ii k _ => ?_) (fun _ _ _ _ => rfl) (fun _ _ _ _ => rfl)
            by_cases y : jj = 4 ∧ ii = xa x
            · obtain ⟨rfl, rfl⟩ := y
              rw [mAr_s, if_neg (by omega)]
            · rw [mAr_n y]
        · rw [if_neg e16] at emm
          have e17 : xop x = 17 := by omega
          rw [e17]
          refine r_368 (b := false) (n := n) (W := W) (s0 := s0) (bv := bv) hQ hd hcc c52 (fun s1 h1 => ?_) mo_fu 0 s (by unfold mo_fu; omega) (Nat.zero_le _) ?_
          · simp only [Bool.false_eq_true, if_false] at h1 ⊢
            have h1' : rT π n w bv s0 s1 (mput W d f ((List.range (psz π (xa x))).map (fun k => W.1 4 (xa x) k))) := h1.eqW (fun jj ii k _ => by
              by_cases y : jj = 1 ∧ ii = d
              · obtain ⟨rfl, rfl⟩ := y
                unfold mput
                rw [mAr_s, mAr_s, List.length_map, List.length_range]
                by_cases q : f ≤ k ∧ k < f + psz π (xa x)
                · rw [if_pos q, if_pos q]
                  have hkf : k - f < psz π (xa x) := by omega
                  rw [getD_map (d := 0) (by rw [List.length_range]; exact hkf)]
                  rw [show (List.range (psz π (xa x))).getD (k - f) 0 = k - f by
                    rw [List.getD_eq_getElem?_getD, List.getElem?_range hkf]; rfl]
                · rw [if_neg q, if_neg q]
              · unfold mput
                rw [mAr_n y, mAr_n y]) (fun _ _ _ _ => rfl) (fun _ _ _ _ => rfl)
            unfold G_X11_sends_451
            simp only [m_8, a_7]
            refine hF (by decide) (hb (e_ageR h1' hQ hcc) ?_)
            refine rt_s h1' hQ (j := 0) (i := d) (k := 7) ⟨hd, by omega⟩ rfl rfl (fun s3 h3 => hr1 (Or.inl ⟨rfl, _, h3.mono (Nat.le_succ n), ?_⟩))
            rw [emm]
            rfl
          · simp only [Bool.false_eq_true, if_false]
            refine h.eqW (fun jj ii k _ => ?_) (fun _ _ _ _ => rfl) (fun _ _ _ _ => rfl)
            by_cases y : jj = 1 ∧ ii = d
            · obtain ⟨rfl, rfl⟩ := y
              rw [mAr_s, if_neg (by omega)]
            · rw [mAr_n y]
      · rw [if_neg c5] at emm ⊢
        exact hT rfl (hr0 (rSf_no h emm))
  · have e0' : mop π W d x = none := by
      rw [em]
      unfold mchan
      rcases hx with e | e | e | e
      · rw [if_pos (Or.inl e)] at he
        rw [if_pos e, if_neg (fun q => c0 (he.trans q.2.2))]
      · rw [if_neg (by omega)] at he
        rw [if_neg (by omega), if_pos e, if_neg (fun q => c0 (he.trans q.2.2))]
      · rw [if_pos (Or.inr e)] at he
        rw [if_neg (by omega), if_neg (by omega), if_pos e, if_neg (fun q => c0 (he.trans q.1.2.2))]
      · rw [if_neg (by omega)] at he
        rw [if_neg (by omega), if_neg (by omega), if_neg (by omega), if_pos e, if_neg (fun q => c0 (he.trans q.1.2.2))]
    exact hr0 (rSf_no h e0')
end RS
