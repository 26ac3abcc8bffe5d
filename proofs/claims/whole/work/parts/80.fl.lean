/-! THE LAW'S LOOP -/
section FL
variable {h : mo_H} {y1 y2 sz c c' : Nat}
theorem LJ.mono (L : LJ y1 y2 sz c h) (hc : c ≤ c') : LJ y1 y2 sz c' h := by
  obtain ⟨θ, Gs, U, s, π, sl, acts, T, n, W, H, e1, e2, J, hT', h6⟩ := L
  exact ⟨θ, Gs, U, s, π, sl, acts, T, n, W, H, e1, e2, J, Nat.le_trans hT' hc, h6⟩
theorem ST.mono {f1 f2 : mo_M Int32} (S : ST f1 f2 y1 y2 sz c h) (hc : c ≤ c') : ST f1 f2 y1 y2 sz c' h := by
  obtain ⟨r, h1, h2, a, b, L⟩ := S
  exact ⟨r, h1, h2, a, b, L.mono hc⟩
theorem st_flow (L : LJ y1 y2 sz c h) (x1 x2 x3 : Int32) (hx3 : x3 = 0 ∨ x3 = 1) : ST (F_X10_flow y1 x1 x2 x3) (F_X11_flow y2 x1 x2 x3) y1 y2 sz c h := by
  obtain ⟨θ, Gs, U, s, π, sl, acts, T, n, W, H, e1, e2, J, hT', h6⟩ := L
  subst e1 e2
  exact st_pp H rfl rfl h6 (q_X10_flow θ Gs U x1 x2 x3 ⟨⟨rfl, rfl⟩, h6⟩) (fun U' => q_X11_flow θ Gs U' x1 x2 x3 ⟨⟨rfl, rfl⟩, h6⟩) (P_flow J hT' x1 x2 x3 hx3)
theorem st_code (L : LJ y1 y2 sz c h) (x1 x2 : Int32) : ST (F_X10_code y1 x1 x2) (F_X11_code y2 x1 x2) y1 y2 sz c h := by
  obtain ⟨θ, Gs, U, s, π, sl, acts, T, n, W, H, e1, e2, J, hT', h6⟩ := L
  subst e1 e2
  exact st_pp H rfl rfl h6 (q_X10_code θ Gs U x1 x2 ⟨⟨rfl, rfl⟩, h6⟩) (fun U' => q_X11_code θ Gs U' x1 x2 ⟨⟨rfl, rfl⟩, h6⟩) (P_code J hT' x1 x2)
theorem st_onFail (L : LJ y1 y2 sz c h) (x1 x2 : Int32) : ST (F_X10_onFail y1 x1 x2) (F_X11_onFail y2 x1 x2) y1 y2 sz c h := by
  obtain ⟨θ, Gs, U, s, π, sl, acts, T, n, W, H, e1, e2, J, hT', h6⟩ := L
  subst e1 e2
  exact st_pp H rfl rfl h6 (q_X10_onFail θ Gs U x1 x2 ⟨⟨rfl, rfl⟩, h6⟩) (fun U' => q_X11_onFail θ Gs U' x1 x2 ⟨⟨rfl, rfl⟩, h6⟩) (P_onFail J hT' x1 x2)
theorem st_slot (L : LJ y1 y2 sz c h) (x1 x2 x3 : Int32) : ST (F_X10_slot y1 x1 x2 x3) (F_X11_slot y2 x1 x2 x3) y1 y2 sz c h := by
  obtain ⟨θ, Gs, U, s, π, sl, acts, T, n, W, H, e1, e2, J, hT', h6⟩ := L
  subst e1 e2
  exact st_pp H rfl rfl h6 (q_X10_slot θ Gs U x1 x2 x3 ⟨⟨rfl, rfl⟩, h6⟩) (fun U' => q_X11_slot θ Gs U' x1 x2 x3 ⟨⟨rfl, rfl⟩, h6⟩) (P_slot J hT' x1 x2 x3)
theorem st_seal (L : LJ y1 y2 sz c h) : ST (F_X10_seal y1) (F_X11_seal y2) y1 y2 sz c h := by
  obtain ⟨θ, Gs, U, s, π, sl, acts, T, n, W, H, e1, e2, J, hT', h6⟩ := L
  subst e1 e2
  exact st_pp H rfl rfl h6 (q_X10_seal θ Gs U ⟨⟨rfl, rfl⟩, h6⟩) (fun U' => q_X11_seal θ Gs U' ⟨⟨rfl, rfl⟩, h6⟩) (P_seal J hT')
theorem st_input (L : LJ y1 y2 sz c h) (x1 x2 : Int32) : ST (F_X10_input y1 x1 x2) (F_X11_input y2 x1 x2) y1 y2 sz c h := by
  obtain ⟨θ, Gs, U, s, π, sl, acts, T, n, W, H, e1, e2, J, hT', h6⟩ := L
  subst e1 e2
  exact st_pp H rfl rfl h6 (q_X10_input θ Gs U x1 x2 ⟨⟨rfl, rfl⟩, h6⟩) (fun U' => q_X11_input θ Gs U' x1 x2 ⟨⟨rfl, rfl⟩, h6⟩) (P_input J hT' x1 x2)
theorem st_tick (L : LJ y1 y2 sz c h) (x1 : Int32) : ST (F_X10_tick y1 x1) (F_X11_tick y2 x1) y1 y2 sz (c + 200) h := by
  obtain ⟨θ, Gs, U, s, π, sl, acts, T, n, W, H, e1, e2, J, hT', h6⟩ := L
  subst e1 e2
  exact st_pp H rfl rfl h6 (q_X10_tick θ Gs U x1 ⟨⟨rfl, rfl⟩, h6⟩) (fun U' => q_X11_tick θ Gs U' x1 ⟨⟨rfl, rfl⟩, h6⟩) (P_tick J (by omega) x1)
theorem st_register (L : LJ y1 y2 sz c h) (x1 x2 : Int32) : ST (F_X10_register y1 x1 x2) (F_X11_register y2 x1 x2) y1 y2 sz c h := by
  obtain ⟨θ, Gs, U, s, π, sl, acts, T, n, W, H, e1, e2, J, hT', h6⟩ := L
  subst e1 e2
  exact st_pp H rfl rfl h6 (q_X10_register θ Gs U x1 x2 ⟨⟨rfl, rfl⟩, h6⟩) (fun U' => q_X11_register θ Gs U' x1 x2 ⟨⟨rfl, rfl⟩, h6⟩) (pp_re J hT' (P_register J x1 x2))
theorem st_cell (L : LJ y1 y2 sz c h) (x1 x2 : Int32) : ST (F_X10_cell y1 x1 x2) (F_X11_cell y2 x1 x2) y1 y2 sz c h := by
  obtain ⟨θ, Gs, U, s, π, sl, acts, T, n, W, H, e1, e2, J, hT', h6⟩ := L
  subst e1 e2
  exact st_pp H rfl rfl h6 (q_X10_cell θ Gs U x1 x2 ⟨⟨rfl, rfl⟩, h6⟩) (fun U' => q_X11_cell θ Gs U' x1 x2 ⟨⟨rfl, rfl⟩, h6⟩) (pp_re J hT' (P_cell J x1 x2))
theorem st_of (L : LJ y1 y2 sz c h) (x1 x2 : Int32) : ST (F_X10_of y1 x1 x2) (F_X11_of y2 x1 x2) y1 y2 sz c h := by
  obtain ⟨θ, Gs, U, s, π, sl, acts, T, n, W, H, e1, e2, J, hT', h6⟩ := L
  subst e1 e2
  exact st_pp H rfl rfl h6 (q_X10_of θ Gs U x1 x2 ⟨⟨rfl, rfl⟩, h6⟩) (fun U' => q_X11_of θ Gs U' x1 x2 ⟨⟨rfl, rfl⟩, h6⟩) (pp_re J hT' (P_of J x1 x2))
theorem st_output (L : LJ y1 y2 sz c h) (x1 x2 : Int32) : ST (F_X10_output y1 x1 x2) (F_X11_output y2 x1 x2) y1 y2 sz c h := by
  obtain ⟨θ, Gs, U, s, π, sl, acts, T, n, W, H, e1, e2, J, hT', h6⟩ := L
  subst e1 e2
  exact st_pp H rfl rfl h6 (q_X10_output θ Gs U x1 x2 ⟨⟨rfl, rfl⟩, h6⟩) (fun U' => q_X11_output θ Gs U' x1 x2 ⟨⟨rfl, rfl⟩, h6⟩) (pp_re J hT' (P_output J x1 x2))
theorem st_at (L : LJ y1 y2 sz c h) (x1 x2 : Int32) : ST (F_X10_at y1 x1 x2) (F_X11_at y2 x1 x2) y1 y2 sz c h := by
  obtain ⟨θ, Gs, U, s, π, sl, acts, T, n, W, H, e1, e2, J, hT', h6⟩ := L
  subst e1 e2
  exact st_pp H rfl rfl h6 (q_X10_at θ Gs U x1 x2 ⟨⟨rfl, rfl⟩, h6⟩) (fun U' => q_X11_at θ Gs U' x1 x2 ⟨⟨rfl, rfl⟩, h6⟩) (pp_re J hT' (P_at J x1 x2))
theorem st_told (L : LJ y1 y2 sz c h) (x1 : Int32) : ST (F_X10_told y1 x1) (F_X11_told y2 x1) y1 y2 sz c h := by
  obtain ⟨θ, Gs, U, s, π, sl, acts, T, n, W, H, e1, e2, J, hT', h6⟩ := L
  subst e1 e2
  exact st_pp H rfl rfl h6 (q_X10_told θ Gs U x1 ⟨⟨rfl, rfl⟩, h6⟩) (fun U' => q_X11_told θ Gs U' x1 ⟨⟨rfl, rfl⟩, h6⟩) (pp_re J hT' (P_told J x1))
theorem st_action (L : LJ y1 y2 sz c h) (x1 x2 : Int32) : ST (F_X10_action y1 x1 x2) (F_X11_action y2 x1 x2) y1 y2 sz c h := by
  obtain ⟨θ, Gs, U, s, π, sl, acts, T, n, W, H, e1, e2, J, hT', h6⟩ := L
  subst e1 e2
  exact st_pp H rfl rfl h6 (q_X10_action θ Gs U x1 x2 ⟨⟨rfl, rfl⟩, h6⟩) (fun U' => q_X11_action θ Gs U' x1 x2 ⟨⟨rfl, rfl⟩, h6⟩) (pp_re J hT' (P_action J x1 x2))
theorem st_kept (L : LJ y1 y2 sz c h) (x1 : Int32) : ST (F_X10_kept y1 x1) (F_X11_kept y2 x1) y1 y2 sz c h := by
  obtain ⟨θ, Gs, U, s, π, sl, acts, T, n, W, H, e1, e2, J, hT', h6⟩ := L
  subst e1 e2
  exact st_pp H rfl rfl h6 (q_X10_kept θ Gs U x1 ⟨⟨rfl, rfl⟩, h6⟩) (fun U' => q_X11_kept θ Gs U' x1 ⟨⟨rfl, rfl⟩, h6⟩) (pp_re J hT' (P_kept J x1))
theorem st_purged (L : LJ y1 y2 sz c h) (x1 x2 x3 : Int32) : ST (F_X10_purged y1 x1 x2 x3) (F_X11_purged y2 x1 x2 x3) y1 y2 sz c h := by
  obtain ⟨θ, Gs, U, s, π, sl, acts, T, n, W, H, e1, e2, J, hT', h6⟩ := L
  subst e1 e2
  exact st_pp H rfl rfl h6 (q_X10_purged θ Gs U x1 x2 x3 ⟨⟨rfl, rfl⟩, h6⟩) (fun U' => q_X11_purged θ Gs U' x1 x2 x3 ⟨⟨rfl, rfl⟩, h6⟩) (pp_re J hT' (P_purged J x1 x2 x3))
theorem st_go {f1 f2 next bad : mo_M Int32} {Q : Int32 → mo_H → Prop} (S : ST f1 f2 y1 y2 sz c h) (k : ∀ h', LJ y1 y2 sz c h' → fh next h' Q) : fh (mo_b f1 fun v => mo_b f2 fun v' => if v = v' then next else bad) h Q := by
  obtain ⟨r, h1, h2, a, b, L⟩ := S
  exact f_b a (f_b b (f_T rfl (k h2 L)))
theorem f_if {β : Type} {c : Prop} [Decidable c] {f g : mo_M β} {Q : β → mo_H → Prop} (k1 : c → fh f h Q) (k2 : ¬ c → fh g h Q) : fh (if c then f else g) h Q := by
  by_cases hc : c
  · exact f_T hc (k1 hc)
  · exact f_F hc (k2 hc)
theorem sl_e {L i : Nat} {xs : Nat → Int32} {x : Int32} (ex : x = nI i) (hi : i < L) (hL : L ≤ 2561) (K : Int32 → mo_M Int32) : mo_b (mo_sl L xs x) K = K (xs i) := by
  subst ex
  refine Subtype.ext (funext fun h => mo_b_run ?_)
  show (if nI i < 0 ∨ L ≤ (nI i).toNatClampNeg then none else some (xs (nI i).toNatClampNeg)).map (fun x => (x, h)) = _
  rw [nI_clamp (by omega), if_neg (fun q => q.elim (nI_pos (by omega)) (fun q => by omega))]
  rfl
theorem law_end {L p : Nat} (hL : L ≤ 2561) (hp : p ≤ 3000) : (Int32.ofNat L - (5 : Int32) < nI p) ∨ (p + 5 ≤ L ∧ ¬ (Int32.ofNat L - (5 : Int32) < nI p)) := by
  by_cases h5 : 5 ≤ L
  · have e : Int32.ofNat L - (5 : Int32) = nI (L - 5) := by
      show nI L - nI 5 = _
      rw [pk_sub h5]
    rw [e]
    by_cases q : L - 5 < p
    · exact Or.inl ((nI_ltI (by omega) (by omega)).mpr q)
    · exact Or.inr ⟨by omega, fun z => q ((nI_ltI (by omega) (by omega)).mp z)⟩
  · refine Or.inl ?_
    have h1 : Int32.ofNat L - (5 : Int32) < 0 := (by decide : ∀ L, L < 5 → Int32.ofNat L - (5 : Int32) < 0) L (by omega)
    exact Int32.lt_of_lt_of_le h1 (Int32.not_lt.mp (nI_pos (by omega)))
set_option maxHeartbeats 4000000 in
theorem f_law28 {L : Nat} {xs : Nat → Int32} (hL : L ≤ 2561) : ∀ (fu j : Nat) (h : mo_H), 600 - j < fu → j ≤ 520 → LJ y1 y2 sz (200 * j) h → fh (F_L_law_28 L xs fu y1 y2 (nI (1 + 5 * j))) h (fun r h' => r = 1 ∧ LJ y1 y2 sz 200000 h')
  | 0, j, h, hf, hj, _ => by omega
  | fu + 1, j, h, hf, hj, J => by
    unfold F_L_law_28
    rcases law_end (p := 1 + 5 * j) hL (by omega) with c | ⟨c1, c2⟩
    · refine f_T c ?_
      have : mo_rz 1 = mo_ret 1 := if_pos (Or.inr rfl)
      rw [this]
      exact f_r ⟨rfl, J.mono (by omega)⟩
    · refine f_F c2 ?_
      generalize hp : 1 + 5 * j = p at c1 c2
      have r0 : ∀ K : Int32 → mo_M Int32, mo_b (mo_sl L xs (nI p)) K = K (xs p) := sl_e rfl (by omega) hL
      have r1 : ∀ K : Int32 → mo_M Int32, mo_b (mo_sl L xs (nI p + (1 : Int32))) K = K (xs (p + 1)) := sl_e (nI_add p 1) (by omega) hL
      have r2 : ∀ K : Int32 → mo_M Int32, mo_b (mo_sl L xs (nI p + (2 : Int32))) K = K (xs (p + 2)) := sl_e (nI_add p 2) (by omega) hL
      have r3 : ∀ K : Int32 → mo_M Int32, mo_b (mo_sl L xs (nI p + (3 : Int32))) K = K (xs (p + 3)) := sl_e (nI_add p 3) (by omega) hL
      have r4 : ∀ K : Int32 → mo_M Int32, mo_b (mo_sl L xs (nI p + (4 : Int32))) K = K (xs (p + 4)) := sl_e (nI_add p 4) (by omega) hL
      have nx : ∀ h', LJ y1 y2 sz (200 * j) h' → fh (F_L_law_771 L xs (F_L_law_28 L xs fu) y1 y2 (nI p)) h' (fun r h' => r = 1 ∧ LJ y1 y2 sz 200000 h') := fun h' J' => by
        unfold F_L_law_771
        have e : nI p + (5 : Int32) = nI (1 + 5 * (j + 1)) := by
          rw [show (5 : Int32) = nI 5 from rfl, nI_add]; congr 1; omega
        rw [e]
        exact f_law28 hL fu (j + 1) h' (by omega) (by omega) (J'.mono (by omega))
      have nx2 : ∀ h', LJ y1 y2 sz (200 * j + 200) h' → fh (F_L_law_771 L xs (F_L_law_28 L xs fu) y1 y2 (nI p)) h' (fun r h' => r = 1 ∧ LJ y1 y2 sz 200000 h') := fun h' J' => by
        unfold F_L_law_771
        have e : nI p + (5 : Int32) = nI (1 + 5 * (j + 1)) := by
          rw [show (5 : Int32) = nI 5 from rfl, nI_add]; congr 1; omega
        rw [e]
        exact f_law28 hL fu (j + 1) h' (by omega) (by omega) (J'.mono (by omega))
      have hc : 200 * j < 900000 := by omega
      simp only [F_L_law_156, F_L_law_183, F_L_law_215, F_L_law_247, r0, r1, r2, r3, r4]
      generalize F_L_law_771 L xs (F_L_law_28 L xs fu) y1 y2 (nI p) = N at nx nx2
      refine f_if (fun _ => ?_) (fun _ => ?_)
      · by_cases z : xs (p + 3) = 0
        · simp only [z, if_true]
          exact st_go (st_flow J _ _ 0 (Or.inl rfl)) nx
        · simp only [z, if_false]
          exact st_go (st_flow J _ _ 1 (Or.inr rfl)) nx
      refine f_if (fun _ => ?_) (fun _ => ?_)
      · by_cases z : xs (p + 3) = 0
        · simp only [z, if_true]
          exact st_go (st_chan J _ _ 0 _ (Or.inl rfl)) nx
        · simp only [z, if_false]
          exact st_go (st_chan J _ _ 1 _ (Or.inr rfl)) nx
      refine f_if (fun _ => st_go (st_code J _ _) nx) (fun _ => ?_)
      refine f_if (fun _ => st_go (st_onFail J _ _) nx) (fun _ => ?_)
      refine f_if (fun _ => st_go (st_slot J _ _ _) nx) (fun _ => ?_)
      refine f_if (fun _ => st_go (st_seal J) nx) (fun _ => ?_)
      refine f_if (fun _ => st_go (st_input J _ _) nx) (fun _ => ?_)
      refine f_if (fun _ => st_go (st_tick J _) nx2) (fun _ => ?_)
      refine f_if (fun _ => st_go (st_register J _ _) nx) (fun _ => ?_)
      refine f_if (fun _ => st_go (st_cell J _ _) nx) (fun _ => ?_)
      refine f_if (fun _ => st_go (st_of J _ _) nx) (fun _ => ?_)
      refine f_if (fun _ => st_go (st_output J _ _) nx) (fun _ => ?_)
      refine f_if (fun _ => st_go (st_at J _ _) nx) (fun _ => ?_)
      refine f_if (fun _ => st_go (st_told J _) nx) (fun _ => ?_)
      refine f_if (fun _ => st_go (st_action J _ _) nx) (fun _ => ?_)
      refine f_if (fun _ => st_go (st_purge J hc _) nx) (fun _ => ?_)
      refine f_if (fun _ => st_go (st_kept J _) nx) (fun _ => ?_)
      refine f_if (fun _ => st_go (st_purged J _ _ _) nx) (fun _ => ?_)
      refine f_if (fun _ => st_go (st_undist J hc _) nx) (fun _ => ?_)
      exact nx h J
end FL
