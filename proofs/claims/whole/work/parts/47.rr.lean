/-! THE REFERENCE'S RESET, and its purge -/
def zm (w : Nat) (s s' : gS) : Prop := (∀ K x, K ≠ 90 → K ≠ 92 → s.1 (rk K) x = 0 → s'.1 (rk K) x = 0) ∧ rfr w s s'
section RR
variable {θ : gT} {π : mP} {n t w : Nat} {bv : Int32} {s0 s s' : gS} {W W' : mW} {d : Nat} {x : Int32}
theorem zm.rf : zm w s s := ⟨fun _ _ _ _ h => h, rfr.rf⟩
theorem zm.tr {s1 s2 : gS} (a : zm w s s1) (b : zm w s1 s2) : zm w s s2 := ⟨fun K x k1 k2 h => b.1 K x k1 k2 (a.1 K x k1 k2 h), a.2.tr b.2⟩
theorem hs0 {β : Type} {Q : β → gS → Prop} {K i : Nat} {x : Int32} {Kc : Unit → gM β} (ex : x = nI i) (hL : s.2.1 (rk K) = rLen K) (hi : i < rLen K) (hsl : rSl w K i) (k : ∀ s', zm w s s' → s'.1 (rk K) i = 0 → gh (Kc ()) s' Q) : gh (gb (gsa (pk K 0 0) x 0) Kc) s Q := by
  refine hsr ex hL hi (fun s1 f0 f1 f2 => k s1 ⟨fun K' y k1 k2 h => ?_, rfr.up1 hsl f0 f1 f2⟩ (by rw [f1, upd_s]))
  by_cases e : K' = K
  · subst e
    rw [f1]
    by_cases e2 : y = i
    · rw [e2, upd_s]
    · rw [upd_o e2]; exact h
  · rw [f2 _ (rk_ne e)]; exact h
theorem sl48 {K i : Nat} (hK : K = 61 ∨ K = 65 ∨ K = 80) (h1 : 48 * w ≤ i) (h2 : i < 48 * w + 48) : rSl w K i := by
  unfold rSl
  rw [if_pos hK]; exact ⟨h1, h2⟩
theorem sl6 {K i : Nat} (hK : K = 63 ∨ K = 64 ∨ K = 66 ∨ K = 68 ∨ K = 69 ∨ K = 70 ∨ K = 71) (h1 : 6 * w ≤ i) (h2 : i < 6 * w + 6) : rSl w K i := by
  unfold rSl
  rw [if_neg (by omega), if_neg (by omega), if_neg (by omega), if_pos (by omega)]; exact ⟨h1, h2⟩
theorem sl12 {K i : Nat} (hK : 72 ≤ K ∧ K ≤ 82 ∧ K ≠ 80) (h1 : 12 * w ≤ i) (h2 : i < 12 * w + 12) : rSl w K i := by
  unfold rSl
  rw [if_neg (by omega), if_neg (by omega), if_neg (by omega), if_neg (by omega), if_pos (by omega)]; exact ⟨h1, h2⟩
theorem sl1 {K : Nat} (hK : 86 ≤ K ∧ K ≤ 93) : rSl w K w := by
  unfold rSl
  rw [if_neg (by omega), if_neg (by omega), if_neg (by omega), if_neg (by omega), if_neg (by omega), if_neg (by omega), if_neg (by omega), if_pos (by omega)]
theorem a48 : (48 : Int32) * nI w + (48 : Int32) = nI (48 * w + 48) := by rw [m_48]; exact nI_add _ 48
theorem a192 : (192 : Int32) * nI w + (192 : Int32) = nI (192 * w + 192) := by rw [m_192]; exact nI_add _ 192
theorem a6 : (6 : Int32) * nI w + (6 : Int32) = nI (6 * w + 6) := by rw [m_6]; exact nI_add _ 6
theorem a12 : (12 : Int32) * nI w + (12 : Int32) = nI (12 * w + 12) := by rw [m_12]; exact nI_add _ 12
theorem r_z5 (hw : w < 3) (hL : ∀ k, 42 ≤ k → s.2.1 (rk k) = rLen k) {Q : Unit → gS → Prop} (kk : ∀ s', zm w s s' → (∀ x, 48 * w ≤ x → x < 48 * w + 48 → s'.1 (rk 61) x = 0 ∧ s'.1 (rk 65) x = 0 ∧ s'.1 (rk 80) x = 0) → gh (G_X11_reset_43 θ (nI w)) s' Q) : ∀ (fu j : Nat) (s1 : gS), 48 * w + 48 - j < fu → 48 * w ≤ j → j ≤ 48 * w + 48 → zm w s s1 → (∀ x, 48 * w ≤ x → x < j → s1.1 (rk 61) x = 0 ∧ s1.1 (rk 65) x = 0 ∧ s1.1 (rk 80) x = 0) → gh (G_X11_reset_5 θ fu (nI w) (nI j)) s1 Q
  | 0, j, s1, h, _, _, _, _ => by omega
  | fu + 1, j, s1, hf, h1, h2, hz, h0 => by
    have hL1 : ∀ k, 42 ≤ k → s1.2.1 (rk k) = rLen k := fun k hk => by rw [hz.2.1]; exact hL k hk
    unfold G_X11_reset_5
    refine hif (fun c => ?_) (fun c => ?_) <;> rw [a48, nI_leI (by omega) (by omega)] at c
    · exact kk s1 hz (fun x x1 x2 => h0 x x1 (by omega))
    · rw [nI_1]
      refine hs0 (w := w) (i := j) rfl (hL1 61 (by omega)) (by show _ < 144; omega) (sl48 (by omega) (by omega) (by omega)) (fun s2 z2 e2 => ?_)
      have hL2 : ∀ k, 42 ≤ k → s2.2.1 (rk k) = rLen k := fun k hk => by rw [z2.2.1]; exact hL1 k hk
      refine hs0 (w := w) (i := j) rfl (hL2 65 (by omega)) (by show _ < 144; omega) (sl48 (by omega) (by omega) (by omega)) (fun s3 z3 e3 => ?_)
      have hL3 : ∀ k, 42 ≤ k → s3.2.1 (rk k) = rLen k := fun k hk => by rw [z3.2.1]; exact hL2 k hk
      refine hs0 (w := w) (i := j) rfl (hL3 80 (by omega)) (by show _ < 144; omega) (sl48 (by omega) (by omega) (by omega)) (fun s4 z4 e4 => ?_)
      refine r_z5 hw hL kk fu (j + 1) s4 (by omega) (by omega) (by omega) (((hz.tr z2).tr z3).tr z4) (fun x x1 x2 => ?_)
      have zz := (z2.tr z3).tr z4
      by_cases e : x = j
      · subst e
        exact ⟨(z3.tr z4).1 61 x (by omega) (by omega) e2, z4.1 65 x (by omega) (by omega) e3, e4⟩
      · have := h0 x x1 (by omega)
        exact ⟨zz.1 61 x (by omega) (by omega) this.1, zz.1 65 x (by omega) (by omega) this.2.1, zz.1 80 x (by omega) (by omega) this.2.2⟩
theorem r_z49 (hw : w < 3) (hL : ∀ k, 42 ≤ k → s.2.1 (rk k) = rLen k) {Q : Unit → gS → Prop} (kk : ∀ s', zm w s s' → (∀ x, 192 * w ≤ x → x < 192 * w + 192 → s'.1 (rk 62) x = 0) → gh (G_X11_reset_75 θ (nI w)) s' Q) : ∀ (fu j : Nat) (s1 : gS), 192 * w + 192 - j < fu → 192 * w ≤ j → j ≤ 192 * w + 192 → zm w s s1 → (∀ x, 192 * w ≤ x → x < j → s1.1 (rk 62) x = 0) → gh (G_X11_reset_49 θ fu (nI w) (nI j)) s1 Q
  | 0, j, s1, h, _, _, _, _ => by omega
  | fu + 1, j, s1, hf, h1, h2, hz, h0 => by
    have hL1 : ∀ k, 42 ≤ k → s1.2.1 (rk k) = rLen k := fun k hk => by rw [hz.2.1]; exact hL k hk
    unfold G_X11_reset_49
    refine hif (fun c => ?_) (fun c => ?_) <;> rw [a192, nI_leI (by omega) (by omega)] at c
    · exact kk s1 hz (fun x x1 x2 => h0 x x1 (by omega))
    · rw [nI_1]
      refine hs0 (w := w) (i := j) rfl (hL1 62 (by omega)) (by show _ < 576; omega) (show 192 * w ≤ j ∧ j < 192 * w + 192 by omega) (fun s2 z2 e2 => ?_)
      refine r_z49 hw hL kk fu (j + 1) s2 (by omega) (by omega) (by omega) (hz.tr z2) (fun x x1 x2 => ?_)
      by_cases e : x = j
      · subst e; exact e2
      · exact z2.1 62 x (by omega) (by omega) (h0 x x1 (by omega))
def z80 (w j : Nat) (s : gS) : Prop := ∀ x, 6 * w ≤ x → x < j → s.1 (rk 63) x = 0 ∧ s.1 (rk 64) x = 0 ∧ s.1 (rk 66) x = 0 ∧ s.1 (rk 68) x = 0 ∧ s.1 (rk 69) x = 0 ∧ s.1 (rk 70) x = 0 ∧ s.1 (rk 71) x = 0
theorem r_z80 (hw : w < 3) (hL : ∀ k, 42 ≤ k → s.2.1 (rk k) = rLen k) {Q : Unit → gS → Prop} (kk : ∀ s', zm w s s' → z80 w (6 * w + 6) s' → gh (G_X11_reset_146 θ (nI w)) s' Q) : ∀ (fu j : Nat) (s1 : gS), 6 * w + 6 - j < fu → 6 * w ≤ j → j ≤ 6 * w + 6 → zm w s s1 → z80 w j s1 → gh (G_X11_reset_80 θ fu (nI w) (nI j)) s1 Q
  | 0, j, s1, h, _, _, _, _ => by omega
  | fu + 1, j, s1, hf, h1, h2, hz, h0 => by
    have hL1 : ∀ k, 42 ≤ k → s1.2.1 (rk k) = rLen k := fun k hk => by rw [hz.2.1]; exact hL k hk
    unfold G_X11_reset_80
    refine hif (fun c => ?_) (fun c => ?_) <;> rw [a6, nI_leI (by omega) (by omega)] at c
    · exact kk s1 hz (fun x x1 x2 => h0 x x1 (by omega))
    · rw [nI_1]
      refine hs0 (w := w) (i := j) rfl (hL1 63 (by omega)) (by show _ < 18; omega) (sl6 (by omega) (by omega) (by omega)) (fun s2 z2 e2 => ?_)
      have hL2 : ∀ k, 42 ≤ k → s2.2.1 (rk k) = rLen k := fun k hk => by rw [z2.2.1]; exact hL1 k hk
      refine hs0 (w := w) (i := j) rfl (hL2 64 (by omega)) (by show _ < 18; omega) (sl6 (by omega) (by omega) (by omega)) (fun s3 z3 e3 => ?_)
      have hL3 : ∀ k, 42 ≤ k → s3.2.1 (rk k) = rLen k := fun k hk => by rw [z3.2.1]; exact hL2 k hk
      refine hs0 (w := w) (i := j) rfl (hL3 66 (by omega)) (by show _ < 18; omega) (sl6 (by omega) (by omega) (by omega)) (fun s4 z4 e4 => ?_)
      have hL4 : ∀ k, 42 ≤ k → s4.2.1 (rk k) = rLen k := fun k hk => by rw [z4.2.1]; exact hL3 k hk
      refine hs0 (w := w) (i := j) rfl (hL4 68 (by omega)) (by show _ < 18; omega) (sl6 (by omega) (by omega) (by omega)) (fun s5 z5 e5 => ?_)
      have hL5 : ∀ k, 42 ≤ k → s5.2.1 (rk k) = rLen k := fun k hk => by rw [z5.2.1]; exact hL4 k hk
      refine hs0 (w := w) (i := j) rfl (hL5 69 (by omega)) (by show _ < 18; omega) (sl6 (by omega) (by omega) (by omega)) (fun s6 z6 e6 => ?_)
      have hL6 : ∀ k, 42 ≤ k → s6.2.1 (rk k) = rLen k := fun k hk => by rw [z6.2.1]; exact hL5 k hk
      refine hs0 (w := w) (i := j) rfl (hL6 70 (by omega)) (by show _ < 18; omega) (sl6 (by omega) (by omega) (by omega)) (fun s7 z7 e7 => ?_)
      have hL7 : ∀ k, 42 ≤ k → s7.2.1 (rk k) = rLen k := fun k hk => by rw [z7.2.1]; exact hL6 k hk
      refine hs0 (w := w) (i := j) rfl (hL7 71 (by omega)) (by show _ < 18; omega) (sl6 (by omega) (by omega) (by omega)) (fun s8 z8 e8 => ?_)
      have y7 := z8
      have y6 := z7.tr y7
      have y5 := z6.tr y6
      have y4 := z5.tr y5
      have y3 := z4.tr y4
      have y2 := z3.tr y3
      have y1 := z2.tr y2
      refine r_z80 hw hL kk fu (j + 1) s8 (by omega) (by omega) (by omega) (hz.tr y1) (fun x x1 x2 => ?_)
      by_cases e : x = j
      · subst e
        exact ⟨y2.1 63 x (by omega) (by omega) e2, y3.1 64 x (by omega) (by omega) e3, y4.1 66 x (by omega) (by omega) e4, y5.1 68 x (by omega) (by omega) e5, y6.1 69 x (by omega) (by omega) e6, y7.1 70 x (by omega) (by omega) e7, e8⟩
      · have q := h0 x x1 (by omega)
        exact ⟨y1.1 63 x (by omega) (by omega) q.1, y1.1 64 x (by omega) (by omega) q.2.1, y1.1 66 x (by omega) (by omega) q.2.2.1, y1.1 68 x (by omega) (by omega) q.2.2.2.1, y1.1 69 x (by omega) (by omega) q.2.2.2.2.1, y1.1 70 x (by omega) (by omega) q.2.2.2.2.2.1, y1.1 71 x (by omega) (by omega) q.2.2.2.2.2.2⟩
def z151 (w j : Nat) (s : gS) : Prop := ∀ x, 12 * w ≤ x → x < j → s.1 (rk 74) x = 0 ∧ s.1 (rk 77) x = 0 ∧ s.1 (rk 78) x = 0 ∧ s.1 (rk 79) x = 0 ∧ s.1 (rk 81) x = 0 ∧ s.1 (rk 82) x = 0
theorem r_z151 (hw : w < 3) (hL : ∀ k, 42 ≤ k → s.2.1 (rk k) = rLen k) {Q : Unit → gS → Prop} (kk : ∀ s', zm w s s' → z151 w (12 * w + 12) s' → gh (G_X11_reset_210 θ (nI w)) s' Q) : ∀ (fu j : Nat) (s1 : gS), 12 * w + 12 - j < fu → 12 * w ≤ j → j ≤ 12 * w + 12 → zm w s s1 → z151 w j s1 → gh (G_X11_reset_151 θ fu (nI w) (nI j)) s1 Q
  | 0, j, s1, h, _, _, _, _ => by omega
  | fu + 1, j, s1, hf, h1, h2, hz, h0 => by
    have hL1 : ∀ k, 42 ≤ k → s1.2.1 (rk k) = rLen k := fun k hk => by rw [hz.2.1]; exact hL k hk
    unfold G_X11_reset_151
    refine hif (fun c => ?_) (fun c => ?_) <;> rw [a12, nI_leI (by omega) (by omega)] at c
    · exact kk s1 hz (fun x x1 x2 => h0 x x1 (by omega))
    · rw [nI_1]
      refine hs0 (w := w) (i := j) rfl (hL1 74 (by omega)) (by show _ < 36; omega) (sl12 (by omega) (by omega) (by omega)) (fun s2 z2 e2 => ?_)
      have hL2 : ∀ k, 42 ≤ k → s2.2.1 (rk k) = rLen k := fun k hk => by rw [z2.2.1]; exact hL1 k hk
      refine hs0 (w := w) (i := j) rfl (hL2 77 (by omega)) (by show _ < 36; omega) (sl12 (by omega) (by omega) (by omega)) (fun s3 z3 e3 => ?_)
      have hL3 : ∀ k, 42 ≤ k → s3.2.1 (rk k) = rLen k := fun k hk => by rw [z3.2.1]; exact hL2 k hk
      refine hs0 (w := w) (i := j) rfl (hL3 78 (by omega)) (by show _ < 36; omega) (sl12 (by omega) (by omega) (by omega)) (fun s4 z4 e4 => ?_)
      have hL4 : ∀ k, 42 ≤ k → s4.2.1 (rk k) = rLen k := fun k hk => by rw [z4.2.1]; exact hL3 k hk
      refine hs0 (w := w) (i := j) rfl (hL4 79 (by omega)) (by show _ < 36; omega) (sl12 (by omega) (by omega) (by omega)) (fun s5 z5 e5 => ?_)
      have hL5 : ∀ k, 42 ≤ k → s5.2.1 (rk k) = rLen k := fun k hk => by rw [z5.2.1]; exact hL4 k hk
      refine hs0 (w := w) (i := j) rfl (hL5 81 (by omega)) (by show _ < 36; omega) (sl12 (by omega) (by omega) (by omega)) (fun s6 z6 e6 => ?_)
      have hL6 : ∀ k, 42 ≤ k → s6.2.1 (rk k) = rLen k := fun k hk => by rw [z6.2.1]; exact hL5 k hk
      refine hs0 (w := w) (i := j) rfl (hL6 82 (by omega)) (by show _ < 36; omega) (sl12 (by omega) (by omega) (by omega)) (fun s7 z7 e7 => ?_)
      have y6 := z7
      have y5 := z6.tr y6
      have y4 := z5.tr y5
      have y3 := z4.tr y4
      have y2 := z3.tr y3
      have y1 := z2.tr y2
      refine r_z151 hw hL kk fu (j + 1) s7 (by omega) (by omega) (by omega) (hz.tr y1) (fun x x1 x2 => ?_)
      by_cases e : x = j
      · subst e
        exact ⟨y2.1 74 x (by omega) (by omega) e2, y3.1 77 x (by omega) (by omega) e3, y4.1 78 x (by omega) (by omega) e4, y5.1 79 x (by omega) (by omega) e5, y6.1 81 x (by omega) (by omega) e6, e7⟩
      · have q := h0 x x1 (by omega)
        exact ⟨y1.1 74 x (by omega) (by omega) q.1, y1.1 77 x (by omega) (by omega) q.2.1, y1.1 78 x (by omega) (by omega) q.2.2.1, y1.1 79 x (by omega) (by omega) q.2.2.2.1, y1.1 81 x (by omega) (by omega) q.2.2.2.2.1, y1.1 82 x (by omega) (by omega) q.2.2.2.2.2⟩
theorem mres_0 {j i k : Nat} (h : j ≠ 5) : (mres π).1 j i k = 0 := if_neg (fun q => h q.1)
theorem r_reset (hw : w < 3) (hL : ∀ k, 42 ≤ k → s.2.1 (rk k) = rLen k) (hp' : pR π s) (hQ : mQ π) (hs0' : rfr w s0 s) : gh (G_X11_reset θ (nI w)) s (fun _ s' => rT π 0 w 1 s0 s' (mres π)) := by
  have ht := hp'.t1
  unfold G_X11_reset
  rw [m_48]
  refine r_z5 hw hL (fun sa za ha => ?_) mo_fu (48 * w) s (by unfold mo_fu; omega) (Nat.le_refl _) (by omega) zm.rf (fun x x1 x2 => by omega)
  have hLa : ∀ k, 42 ≤ k → sa.2.1 (rk k) = rLen k := fun k hk => by rw [za.2.1]; exact hL k hk
  unfold G_X11_reset_43
  rw [m_192]
  refine r_z49 hw hLa (fun sb zb hb' => ?_) mo_fu (192 * w) sa (by unfold mo_fu; omega) (Nat.le_refl _) (by omega) zm.rf (fun x x1 x2 => by omega)
  have hLb : ∀ k, 42 ≤ k → sb.2.1 (rk k) = rLen k := fun k hk => by rw [zb.2.1]; exact hLa k hk
  unfold G_X11_reset_75
  rw [m_6]
  refine r_z80 hw hLb (fun sc zc hc' => ?_) mo_fu (6 * w) sb (by unfold mo_fu; omega) (Nat.le_refl _) (by omega) zm.rf (fun x x1 x2 => by omega)
  have hLc : ∀ k, 42 ≤ k → sc.2.1 (rk k) = rLen k := fun k hk => by rw [zc.2.1]; exact hLb k hk
  unfold G_X11_reset_146
  rw [m_12]
  refine r_z151 hw hLc (fun sd zd hd' => ?_) mo_fu (12 * w) sc (by unfold mo_fu; omega) (Nat.le_refl _) (by omega) zm.rf (fun x x1 x2 => by omega)
  have hLd : ∀ k, 42 ≤ k → sd.2.1 (rk k) = rLen k := fun k hk => by rw [zd.2.1]; exact hLc k hk
  unfold G_X11_reset_210
  refine hs0 (w := w) (i := w) rfl (hLd 86 (by omega)) (by show _ < 3; omega) (sl1 (by omega)) (fun s1 z1 e1 => ?_)
  have hL1 : ∀ k, 42 ≤ k → s1.2.1 (rk k) = rLen k := fun k hk => by rw [z1.2.1]; exact hLd k hk
  refine hs0 (w := w) (i := w) rfl (hL1 87 (by omega)) (by show _ < 3; omega) (sl1 (by omega)) (fun s2 z2 e2 => ?_)
  have hL2 : ∀ k, 42 ≤ k → s2.2.1 (rk k) = rLen k := fun k hk => by rw [z2.2.1]; exact hL1 k hk
  refine hs0 (w := w) (i := w) rfl (hL2 88 (by omega)) (by show _ < 3; omega) (sl1 (by omega)) (fun s3 z3 e3 => ?_)
  have hL3 : ∀ k, 42 ≤ k → s3.2.1 (rk k) = rLen k := fun k hk => by rw [z3.2.1]; exact hL2 k hk
  refine hs0 (w := w) (i := w) rfl (hL3 89 (by omega)) (by show _ < 3; omega) (sl1 (by omega)) (fun s4 z4 e4 => ?_)
  have hL4 : ∀ k, 42 ≤ k → s4.2.1 (rk k) = rLen k := fun k hk => by rw [z4.2.1]; exact hL3 k hk
  have Z4 : zm w s s4 := ((((((za.tr zb).tr zc).tr zd).tr z1).tr z2).tr z3).tr z4
  have hp4 : pR π s4 := hp'.cg (fun k hk => Z4.2.o (Or.inl hk))
  refine hlr (i := 0) (v := nI ((psl π 0).getD 0 (0, 0)).2) rfl (hL4 53 (by omega)) (by show _ < 36; omega) ((hp4.sl 0 (by omega)).2 0 hQ.s0).2 ?_
  refine hsr (i := w) rfl (hL4 90 (by omega)) (by show _ < 3; omega) (fun s5 f0 f1 f2 => ?_)
  have z5 : zm w s4 s5 := ⟨fun K y k1 k2 h => by rw [f2 _ (rk_ne k1)]; exact h, rfr.up1 (sl1 (by omega)) f0 f1 f2⟩
  have hL5 : ∀ k, 42 ≤ k → s5.2.1 (rk k) = rLen k := fun k hk => by rw [z5.2.1]; exact hL4 k hk
  refine hsr (i := w) rfl (hL5 91 (by omega)) (by show _ < 3; omega) (fun s6 g0 g1 g2 => ?_)
  have z6 : zm w s5 s6 := by
    refine ⟨fun K y k1 k2 h => ?_, rfr.up1 (sl1 (by omega)) g0 g1 g2⟩
    by_cases e : K = 91
    · subst e
      rw [g1]
      by_cases e2 : y = w
      · rw [e2, upd_s]
      · rw [upd_o e2]; exact h
    · rw [g2 _ (rk_ne e)]; exact h
  have hL6 : ∀ k, 42 ≤ k → s6.2.1 (rk k) = rLen k := fun k hk => by rw [z6.2.1]; exact hL5 k hk
  refine hzr (i := w) (Or.inr rfl) rfl (hL6 92 (by omega)) (by show _ < 3; omega) (fun s7 p0 p1 p2 => ?_)
  have z7 : zm w s6 s7 := ⟨fun K y k1 k2 h => by rw [p2 _ (rk_ne k2)]; exact h, rfr.up1 (sl1 (by omega)) p0 p1 p2⟩
  have hL7 : ∀ k, 42 ≤ k → s7.2.1 (rk k) = rLen k := fun k hk => by rw [z7.2.1]; exact hL6 k hk
  refine hzr (i := w) (Or.inl rfl) rfl (hL7 93 (by omega)) (by show _ < 3; omega) (fun s8 u0 u1 u2 => hr ?_)
  have z8 : zm w s7 s8 := by
    refine ⟨fun K y k1 k2 h => ?_, rfr.up1 (sl1 (by omega)) u0 u1 u2⟩
    by_cases e : K = 93
    · subst e
      rw [u1]
      by_cases e2 : y = w
      · rw [e2, upd_s]
      · rw [upd_o e2]; exact h
    · rw [u2 _ (rk_ne e)]; exact h
  have y7 := z8
  have y6 := z7.tr y7
  have y5 := z6.tr y6
  have y4 := z5.tr y5
  have y3 := z4.tr y4
  have y2 := z3.tr y3
  have y1 := z2.tr y2
  have yd := z1.tr y1
  have yc := zd.tr yd
  have yb := zc.tr yc
  have ya := zb.tr yb
  have Z : zm w s s8 := za.tr ya
  have a90 : s8.1 (rk 90) w = nI ((psl π 0).getD 0 (0, 0)).2 := by rw [u2 _ (rk_ne (by omega)), p2 _ (rk_ne (by omega)), g2 _ (rk_ne (by omega)), f1, upd_s]
  have a92 : s8.1 (rk 92) w = 1 := by rw [u2 _ (rk_ne (by omega)), p1, upd_s]
  have a91 : s8.1 (rk 91) w = 0 := y6.1 91 w (by omega) (by omega) (by rw [g1, upd_s])
  have a93 : s8.1 (rk 93) w = 0 := by rw [u1, upd_s]
  have a86 := y1.1 86 w (by omega) (by omega) e1
  have a87 := y2.1 87 w (by omega) (by omega) e2
  have a88 := y3.1 88 w (by omega) (by omega) e3
  have a89 := y4.1 89 w (by omega) (by omega) e4
  have b61 : ∀ x, 48 * w ≤ x → x < 48 * w + 48 → s8.1 (rk 61) x = 0 ∧ s8.1 (rk 65) x = 0 ∧ s8.1 (rk 80) x = 0 := fun x x1 x2 => by
    have q := ha x x1 x2
    exact ⟨ya.1 61 x (by omega) (by omega) q.1, ya.1 65 x (by omega) (by omega) q.2.1, ya.1 80 x (by omega) (by omega) q.2.2⟩
  have b62 : ∀ x, 192 * w ≤ x → x < 192 * w + 192 → s8.1 (rk 62) x = 0 := fun x x1 x2 => yb.1 62 x (by omega) (by omega) (hb' x x1 x2)
  have b63 : z80 w (6 * w + 6) s8 := fun x x1 x2 => by
    have q := hc' x x1 x2
    exact ⟨yc.1 63 x (by omega) (by omega) q.1, yc.1 64 x (by omega) (by omega) q.2.1, yc.1 66 x (by omega) (by omega) q.2.2.1, yc.1 68 x (by omega) (by omega) q.2.2.2.1, yc.1 69 x (by omega) (by omega) q.2.2.2.2.1, yc.1 70 x (by omega) (by omega) q.2.2.2.2.2.1, yc.1 71 x (by omega) (by omega) q.2.2.2.2.2.2⟩
  have b74 : z151 w (12 * w + 12) s8 := fun x x1 x2 => by
    have q := hd' x x1 x2
    exact ⟨yd.1 74 x (by omega) (by omega) q.1, yd.1 77 x (by omega) (by omega) q.2.1, yd.1 78 x (by omega) (by omega) q.2.2.1, yd.1 79 x (by omega) (by omega) q.2.2.2.1, yd.1 81 x (by omega) (by omega) q.2.2.2.2.1, yd.1 82 x (by omega) (by omega) q.2.2.2.2.2⟩
  clear ha hb' hc' hd' za zb zc zd z1 z2 z3 z4 z5 z6 z7 z8 y1 y2 y3 y4 y5 y6 y7 ya yb yc yd
  have hz4 : ∀ c, c < π.2.1 → psz π c ≤ 4 := fun c hc => (hQ.lk c hc).2.1
  refine ⟨fun j i k hr => ?_, fun c k hc h1 h2 => (b61 _ (by omega) (by omega)).2.2, a92, fun k hk => by rw [Z.2.1]; exact hL k hk, fun d hd => ?_, ⟨fun _ _ => [], 0, a86, Nat.le_refl _, fun c j hc hj => ⟨fun i hi => (by cases hi), trivial, ?_, fun i r hr => (by cases hr)⟩, fun c hc i hi => (by cases hi), fun c hc => List.nodup_nil, fun c c' j j' _ _ _ _ _ i hi => (by cases hi)⟩, hp'.cg (fun k hk => Z.2.o (Or.inl hk)), hs0'.tr Z.2, hw⟩
  · have v := rKd_v hr
    rcases mR_lt hr with rfl | rfl | rfl | rfl | rfl | rfl
    · have r1 := hr.1; have r2 := hr.2
      exact (b61 (8 * (6 * w + i) + k) (by omega) (by omega)).1
    · have r1 := hr.1; have r2 := hr.2
      exact b62 (32 * (6 * w + i) + k) (by omega) (by omega)
    · have r1 := hr.1
      have q := b63 (6 * w + i) (by omega) (by omega)
      rw [rF_1, (rF_2 w i k).2.2.1]
      have hk : (k = 4 ∧ rKd 2 k = 63) ∨ (k = 5 ∧ rKd 2 k = 64) ∨ (k = 6 ∧ rKd 2 k = 69) ∨ (k = 7 ∧ rKd 2 k = 70) ∨ (k = 8 ∧ rKd 2 k = 71) := by omega
      rw [mres_0 (by omega)]
      rcases hk with hk | hk | hk | hk | hk <;> rw [hk.2]
      · exact q.1
      · exact q.2.1
      · exact q.2.2.2.2.1
      · exact q.2.2.2.2.2.1
      · exact q.2.2.2.2.2.2
    · have r1 := hr.1
      have q := b74 (12 * w + i) (by omega) (by omega)
      rw [rF_1, (rF_2 w i k).2.2.2.1]
      have hk : (k = 3 ∧ rKd 3 k = 79) ∨ (k = 4 ∧ rKd 3 k = 78) ∨ (k = 6 ∧ rKd 3 k = 81) ∨ (k = 7 ∧ rKd 3 k = 82) := by omega
      rw [mres_0 (by omega)]
      rcases hk with hk | hk | hk | hk <;> rw [hk.2]
      · exact q.2.2.2.1
      · exact q.2.2.1
      · exact q.2.2.2.2.1
      · exact q.2.2.2.2.2
    · have r1 := hr.1; have r2 := hr.2; have := hz4 i hr.1
      exact (b61 (4 * (12 * w + i) + k) (by omega) (by omega)).2.2
    · obtain ⟨rfl, r1, r2⟩ := hr
      have : k = 1 ∨ k = 2 ∨ k = 3 ∨ k = 4 ∨ k = 5 ∨ k = 6 := by omega
      rcases this with rfl | rfl | rfl | rfl | rfl | rfl
      · exact a87
      · exact a88
      · exact a89
      · exact a90
      · exact a91
      · exact a93
  · have q := b63 (6 * w + d) (by omega) (by omega)
    exact ⟨⟨q.2.2.1, fun x hx => absurd hx (Nat.not_lt_zero _)⟩, q.2.2.2.1, fun x hx => absurd hx (Nat.not_lt_zero _)⟩
  · have q := b74 (12 * w + c) (by omega) (by omega)
    have hj2 : j = 0 ∨ j = 1 := by omega
    rcases hj2 with rfl | rfl
    · exact q.1
    · exact q.2.1
end RR
