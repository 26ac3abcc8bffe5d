/-! CHANNEL -/
def pCh (π : mP) (x0 x1 x2 x3 : Int32) : mP := (π.1, π.2.1 + 1, π.2.2.1, fun c k => if c = π.2.1 then lkF x0 x1 x2 x3 k else plk π c k, π.2.2.2.2)
def thC (θ : gT) : gT := (θ.1, θ.2.1 + 1, θ.2.2)
section FD
variable {θ : gT} {Gs U : gK → Nat} {h h' : mo_H} {s : gS} {π : mP} {acts : List mAct} {T n b1 b2 sc z a b : Nat} {W : mW} {x2 : Int32} {c : Nat × Nat}
theorem pch_n {x0 x1 x2 x3 : Int32} {k : Nat} : plk (pCh π x0 x1 x2 x3) π.2.1 k = lkF x0 x1 x2 x3 k := if_pos rfl
theorem pch_o {x0 x1 x2 x3 : Int32} {i k : Nat} (hi : i ≠ π.2.1) : plk (pCh π x0 x1 x2 x3) i k = plk π i k := if_neg hi
theorem psz_n {x0 x1 x2 : Int32} (hz : z ≤ 4) : psz (pCh π x0 x1 x2 (nI z)) π.2.1 = z := by
  unfold psz
  rw [pch_n]
  exact nI_clamp (by omega)
theorem psz_o {x0 x1 x2 x3 : Int32} {i : Nat} (hi : i ≠ π.2.1) : psz (pCh π x0 x1 x2 x3) i = psz π i := by
  unfold psz
  rw [pch_o hi]
theorem cS_pC {x0 x1 x3 : Int32} (p : pC θ π s) (hl : π.2.1 < 12) : pC (thC θ) (pCh π x0 x1 x2 x3) (cS π.2.1 sc z (lkF x0 x1 x2 x3) s c) := by
  have o1 : ∀ k i, k ≠ 1 → k < 15 → k ≠ 4 → (cS π.2.1 sc z (lkF x0 x1 x2 x3) s c).1 (pk k 0 i) = s.1 (pk k 0 i) := fun k i h1 h2 h3 => cS1_o (fun q => by have := q.2.2; dsimp only [pk] at this; omega) (pk_ne (by omega))
  have o2 : ∀ k i, k < 15 → k ≠ 4 → (cS π.2.1 sc z (lkF x0 x1 x2 x3) s c).2.1 (pk k 0 i) = s.2.1 (pk k 0 i) := fun k i h2 h3 => cS2_o (fun q => by have := q.2.2; dsimp only [pk] at this; omega)
  refine ⟨⟨p.t1.1, by show θ.2.1 + 1 = π.2.1 + 1; rw [p.t1.2.1], p.t1.2.2.1, p.t1.2.2.2.1, hl⟩, ?_, ?_, ⟨?_, fun y hy => ?_⟩, fun i k hi hk => ?_, fun d hd => (p.pr d hd).cg (o1 6 d (by omega) (by omega) (by omega)) (o1 7 d (by omega) (by omega) (by omega)) (o2 7 d (by omega) (by omega)), ⟨?_, fun d hd => ?_⟩, fun y hy => ⟨((p.sl y hy).1).cg (o1 10 y (by omega) (by omega) (by omega)) (o1 11 y (by omega) (by omega) (by omega)) (o2 11 y (by omega) (by omega)), ((p.sl y hy).2).cg (o1 13 y (by omega) (by omega) (by omega)) (o1 14 y (by omega) (by omega) (by omega)) (o2 14 y (by omega) (by omega))⟩⟩
  · rw [cS1_p, upd_o (by omega)]; exact p.nd
  · rw [cS1_p, upd_s]; rfl
  · rw [o2 2 0 (by omega) (by omega)]; exact p.fl.1
  · rw [o1 2 0 (by omega) (by omega) (by omega)]; exact p.fl.2 y hy
  · have hi' : i < π.2.1 + 1 := hi
    by_cases e : i = π.2.1
    · subst e
      rw [cS1_4, pch_n]
    · rw [pch_o e, cS1_o (fun q => e q.2.1) (pk_ne (by omega))]
      exact p.lk i k (by omega) hk
  · rw [o2 8 0 (by omega) (by omega)]; exact p.wy.1
  · rw [o1 8 0 (by omega) (by omega) (by omega)]; exact p.wy.2 d hd
theorem cS_cT {x0 x1 : Int32} (J : JI θ π false acts T n W b1 b2 s) (hl : π.2.1 < 12) (hz : z ≤ 4) (hs : 1 ≤ sc ∧ sc ≤ 4) : cT (thC θ) (pCh π x0 x1 x2 (nI z)) 0 0 (cS π.2.1 sc z (lkF x0 x1 x2 (nI z)) s c) (cS π.2.1 sc z (lkF x0 x1 x2 (nI z)) s c) mz := by
  obtain ⟨u1, u2, u3, -⟩ := J.us rfl
  subst u1 u2 u3
  have cw := J.cw
  have o1 : ∀ k i, k ≠ 1 → (i ≠ π.2.1 ∨ (k ≠ 4 ∧ k < 26)) → (cS π.2.1 sc z (lkF x0 x1 x2 (nI z)) s c).1 (pk k 0 i) = s.1 (pk k 0 i) := fun k i h1 h2 => cS1_o (fun q => by have := q.2.2; have := q.2.1; dsimp only [pk] at *; omega) (pk_ne (by omega))
  have o2 : ∀ k i, (i ≠ π.2.1 ∨ (k ≠ 4 ∧ k < 26)) → (cS π.2.1 sc z (lkF x0 x1 x2 (nI z)) s c).2.1 (pk k 0 i) = s.2.1 (pk k 0 i) := fun k i h2 => cS2_o (fun q => by have := q.2.2; have := q.2.1; dsimp only [pk] at *; omega)
  refine ⟨fun j i k hr' => ?_, ⟨fun d hd => ?_, fun i hi => ?_⟩, fun d hd => ?_, fun i hi => ?_, cS_pC cw.pl hl, fr.rf⟩
  · show _ = (0 : Int32)
    rcases mR_lt hr' with rfl | rfl | rfl | rfl | rfl | rfl
    · show (cS π.2.1 sc z (lkF x0 x1 x2 (nI z)) s c).1 (pk 20 0 i) k = 0
      rw [o1 20 i (by omega) (by omega)]; exact cw.sc 0 i k hr'
    · show (cS π.2.1 sc z (lkF x0 x1 x2 (nI z)) s c).1 (pk 21 0 i) k = 0
      rw [o1 21 i (by omega) (by omega)]; exact cw.sc 1 i k hr'
    · show (cS π.2.1 sc z (lkF x0 x1 x2 (nI z)) s c).1 (pk 19 0 i) k = 0
      rw [o1 19 i (by omega) (by omega)]; exact cw.sc 2 i k hr'
    · show (cS π.2.1 sc z (lkF x0 x1 x2 (nI z)) s c).1 (pk 26 0 i) k = 0
      have hi : i < π.2.1 + 1 := hr'.1
      by_cases e : i = π.2.1
      · subst e; rw [cS1_c (by omega)]
      · rw [o1 26 i (by omega) (by omega)]; exact cw.sc 3 i k ⟨by omega, hr'.2⟩
    · show (cS π.2.1 sc z (lkF x0 x1 x2 (nI z)) s c).1 (pk 31 0 i) k = 0
      have hi : i < π.2.1 + 1 := hr'.1
      by_cases e : i = π.2.1
      · subst e; rw [cS1_c (by omega)]
      · rw [o1 31 i (by omega) (by omega)]
        have := hr'.2
        rw [psz_o e] at this
        exact cw.sc 4 i k ⟨by omega, this⟩
    · have hk : i = 0 ∧ 1 ≤ k ∧ k ≤ 6 := hr'
      have q := cw.sc 5 i k hr'
      show (cS π.2.1 sc z (lkF x0 x1 x2 (nI z)) s c).1 (if k = 6 then (pk 15 0 0, 4) else (pk 18 0 0, k) : gK × Nat).1 (if k = 6 then (pk 15 0 0, 4) else (pk 18 0 0, k) : gK × Nat).2 = 0
      have q' : s.1 (if k = 6 then (pk 15 0 0, 4) else (pk 18 0 0, k) : gK × Nat).1 (if k = 6 then (pk 15 0 0, 4) else (pk 18 0 0, k) : gK × Nat).2 = 0 := q
      by_cases e : k = 6
      · rw [if_pos e] at q' ⊢
        rw [o1 15 0 (by omega) (by omega)]; exact q'
      · rw [if_neg e] at q' ⊢
        rw [o1 18 0 (by omega) (by omega)]; exact q'
  · rw [o2 20 d (by omega), o2 21 d (by omega)]; exact cw.ln.1 d hd
  · have hi' : i < π.2.1 + 1 := hi
    by_cases e : i = π.2.1
    · subst e
      rw [cS2_c (by omega), psz_n hz]; rfl
    · rw [o2 31 i (by omega), psz_o e]; exact cw.ln.2 i (by omega)
  · exact ⟨((cw.rw d hd).1).cg (o1 22 d (by omega) (by omega)) (o1 23 d (by omega) (by omega)) (o2 23 d (by omega)), ((cw.rw d hd).2).cg (o1 24 d (by omega) (by omega)) (o1 25 d (by omega) (by omega)) (o2 25 d (by omega))⟩
  · have hi' : i < π.2.1 + 1 := hi
    by_cases e : i = π.2.1
    · subst e
      refine ⟨⟨0, sc, ?_, ?_, by show 0 + 0 ≤ 0; omega, ?_, by omega, by show 0 + 0 ≤ _; omega, by omega, fun x hx => absurd hx (Nat.not_lt_zero _)⟩, ⟨0, sc, ?_, ?_, by show 0 + 0 ≤ 0; omega, ?_, by omega, by show 0 + 0 ≤ _; omega, by omega, fun x hx => absurd hx (Nat.not_lt_zero _)⟩⟩
      · rw [cS1_c (by omega)]; rfl
      · rw [cS1_c (by omega)]; rfl
      · rw [cS2_c (by omega)]; rfl
      · rw [cS1_c (by omega)]; rfl
      · rw [cS1_c (by omega)]; rfl
      · rw [cS2_c (by omega)]; rfl
    · exact ⟨((cw.ms i (by omega)).1).cg (o1 27 i (by omega) (by omega)) (o1 28 i (by omega) (by omega)) (o2 28 i (by omega)), ((cw.ms i (by omega)).2).cg (o1 29 i (by omega) (by omega)) (o1 30 i (by omega) (by omega)) (o2 30 i (by omega))⟩
theorem cS_jB {sz : Nat} (J : JI θ π false acts T n W (4 * (sz + cb θ)) (sb θ) s) (hz : z ≤ 4) (hs : 1 ≤ sc ∧ sc ≤ 4) {g : Nat → Int32} (h1 : c.1 ≤ s.2.2.1 + 7) (h2 : c.2 ≤ s.2.2.2 + 100) : jB (4 * (sz + cb (thC θ))) (sb (thC θ)) (cS π.2.1 sc z g s c) := by
  obtain ⟨-, -, -, -, -, -, -, u8⟩ := J.us rfl
  obtain ⟨j1, j2, j3⟩ := J.jb
  have hp : gpot s ≤ gpot (cS π.2.1 sc z g s c) := gsum_le gGL (fun q hq => by
    by_cases e : kCh π.2.1 q
    · have hq4 : q.1 ≠ 4 := (by decide +kernel : ∀ q, q ∈ gGL → q.1 ≠ 4) q hq
      have : s.2.1 q = 0 := by
        have := u8 q.1 q.2.2 (by have := e.2.2; omega) (by have := e.2.2; omega) (by have := e.2.1; omega)
        rw [show q = pk q.1 0 q.2.2 from Prod.ext rfl (Prod.ext e.1 rfl)]
        exact this
      rw [this]; exact Nat.zero_le _
    · rw [cS2_o e]; exact Nat.le_refl _)
  have e1 : cb (thC θ) = cb θ + 10 := by
    unfold cb thC
    show 1000 + 10 * (θ.2.1 + 1) + (if θ.2.2.1 = true then 200 else 0) + (if θ.2.2.2 = true then 200 else 0) = 1000 + 10 * θ.2.1 + (if θ.2.2.1 = true then 200 else 0) + (if θ.2.2.2 = true then 200 else 0) + 10
    omega
  have e2 : sb (thC θ) = sb θ + 100 := by
    unfold sb thC
    show 100000 + 100 * (θ.2.1 + 1) + (if θ.2.2.1 = true then 2000 else 0) + (if θ.2.2.2 = true then 2000 else 0) = 100000 + 100 * θ.2.1 + (if θ.2.2.1 = true then 2000 else 0) + (if θ.2.2.2 = true then 2000 else 0) + 100
    omega
  refine ⟨fun q => ?_, ?_, ?_⟩
  · by_cases e : kCh π.2.1 q
    · show (if kChB π.2.1 q = true then _ else _) ≤ _
      rw [if_pos (kChB_iff.mpr e)]
      unfold cLn gcap
      repeat' split
      all_goals omega
    · rw [cS2_o e]; exact j1 q
  · show 4 * c.1 ≤ _
    rw [e1]; omega
  · show c.2 ≤ _
    rw [e2]; omega
/-- the reference's channel after the kernel's -/
theorem r_chn {sz : Nat} {cc : Nat} (J : JI θ π false acts T n W (4 * (sz + cb θ)) (sb θ) s) (ha : a < π.1) (hbb : b < π.1) (hab : a ≠ b) (hf : pfl π a b = true) (hz1 : 1 ≤ z) (hz : z ≤ 4) (hl : π.2.1 < 12) (hx2 : x2 = 0 ∨ x2 = 1) (hs : 1 ≤ sc ∧ sc ≤ 4) (ca : ¬ nI a < 0 ∧ (nI a).toNatClampNeg < π.1) (cb' : ¬ nI b < 0 ∧ (nI b).toNatClampNeg < π.1) (h1 : c.1 ≤ s.2.2.1 + 7) (h2 : c.2 ≤ s.2.2.2 + 100) : gh (G_X11_channel (thC θ) (nI a) (nI b) x2 (nI z)) (cS π.2.1 sc z (lkF (nI a) (nI b) x2 (nI z)) s c) (fun r s2 => r = nI π.2.1 ∧ ∃ π sl acts T n W, JI (thC θ) π sl acts T n W (4 * (sz + cb (thC θ))) (sb (thC θ)) s2 ∧ T ≤ cc) := by
  have hcw := cS_cT (x0 := nI a) (x1 := nI b) (x2 := x2) (c := c) J hl hz hs
  have hjb := cS_jB (g := lkF (nI a) (nI b) x2 (nI z)) J hz hs h1 h2
  obtain ⟨u1, u2, u3, u4, u5, u6, u7, u8⟩ := J.us rfl
  have o1 : ∀ q : gK, q.1 ≠ 1 → q.1 ≠ 4 → (q.1 < 26 ∨ 31 < q.1) → (cS π.2.1 sc z (lkF (nI a) (nI b) x2 (nI z)) s c).1 q = s.1 q := fun q k1 k2 k3 => cS1_o (fun z => by have := z.2.2; omega) (fun e => k1 (by rw [e]))
  have o2 : ∀ q : gK, q.1 ≠ 4 → (q.1 < 26 ∨ 31 < q.1) → (cS π.2.1 sc z (lkF (nI a) (nI b) x2 (nI z)) s c).2.1 q = s.2.1 q := fun q k2 k3 => cS2_o (fun z => by have := z.2.2; omega)
  have o3 : ∀ k i w, 15 ≤ k → w ≠ 0 → (cS π.2.1 sc z (lkF (nI a) (nI b) x2 (nI z)) s c).2.1 (pk k w i) = s.2.1 (pk k w i) := fun k i w _ hw => cS2_o (fun z => hw z.1)
  have o4 : ∀ k i, 26 ≤ k → k ≤ 31 → π.2.1 + 1 ≤ i → (cS π.2.1 sc z (lkF (nI a) (nI b) x2 (nI z)) s c).2.1 (pk k 0 i) = s.2.1 (pk k 0 i) := fun k i _ _ hi => cS2_o (fun z => by have : i = π.2.1 := z.2.1; omega)
  have p8 : (cS π.2.1 sc z (lkF (nI a) (nI b) x2 (nI z)) s c).1 (pk 1 0 0) 8 = 0 := by rw [cS1_p, upd_o (by omega)]; exact J.cs
  revert hcw hjb o1 o2 o3 o4 p8
  generalize cS π.2.1 sc z (lkF (nI a) (nI b) x2 (nI z)) s c = s1
  intro hcw hjb o1 o2 o3 o4 p8
  have k1 : ∀ k, 32 ≤ k → s1.1 (rk k) = s.1 (rk k) ∧ s1.2.1 (rk k) = s.2.1 (rk k) := fun k hk => ⟨o1 (rk k) (show k ≠ 1 by omega) (show k ≠ 4 by omega) (Or.inr (show 31 < k by omega)), o2 (rk k) (show k ≠ 4 by omega) (Or.inr (show 31 < k by omega))⟩
  have hp1 : pR π s1 := J.rr.pl.mv (fun k x hk => by rw [(k1 k (by omega)).1])
  have hL1 : ∀ k, 42 ≤ k → s1.2.1 (rk k) = rLen k := fun k hk => by rw [(k1 k (by omega)).2]; exact J.rr.ln k hk
  have ht := hp1.t1
  have hab' : ¬ nI a = nI b := fun e => hab ((nI_eq (by omega) (by omega)).mp e)
  have fl := hp1.fl a b ha hbb hab
  rw [if_pos hf] at fl
  unfold G_X11_channel
  refine hb ((dm_y ca).2 hp1) (hF (by decide) (hb ((dm_y cb').2 hp1) (hF (by decide) (hF hab' ?_))))
  rw [m_6, nI_add]
  refine hlr (i := 6 * a + b) rfl (hL1 43 (by omega)) (by show _ < 36; omega) fl (hF (by decide) ?_)
  refine hF (fun q => absurd ((nI_ltI (b := 1) (by omega) (by omega)).mp q) (by omega)) (hF (fun q => absurd ((nI_ltI (a := 4) (by omega) (by omega)).mp q) (by omega)) ?_)
  refine hg hp1.nc (hF (fun e => absurd ((nI_eq (b := 12) (by omega) (by omega)).mp e) (by omega)) ?_)
  refine hg (v := 0) (by show Prod.fst s1 (rk 41) 13 = 0; rw [(k1 41 (by omega)).1]; exact J.rs) (hT rfl ?_)
  refine hg hp1.nc (hsr (i := π.2.1) rfl (hL1 45 (by omega)) (by show _ < 12; omega) (fun s2 e0 e1 e2 => ?_))
  have n2 : s2.1 (rk 41) = s1.1 (rk 41) := e2 _ (rk_ne (by omega))
  refine hg (v := nI π.2.1) (by show Prod.fst s2 (rk 41) 2 = _; rw [n2]; exact hp1.nc) (hsr (i := π.2.1) rfl (by rw [e0]; exact hL1 46 (by omega)) (by show _ < 12; omega) (fun s3 f0 f1 f2 => ?_))
  have n3 : s3.1 (rk 41) = s1.1 (rk 41) := (f2 _ (rk_ne (by omega))).trans n2
  refine hg (v := nI π.2.1) (by show Prod.fst s3 (rk 41) 2 = _; rw [n3]; exact hp1.nc) (hzr (i := π.2.1) hx2 rfl (by rw [f0, e0]; exact hL1 47 (by omega)) (by show _ < 12; omega) (fun s4 g0 g1 g2 => ?_))
  have n4 : s4.1 (rk 41) = s1.1 (rk 41) := (g2 _ (rk_ne (by omega))).trans n3
  refine hg (v := nI π.2.1) (by show Prod.fst s4 (rk 41) 2 = _; rw [n4]; exact hp1.nc) (hsr (i := π.2.1) rfl (by rw [g0, f0, e0]; exact hL1 48 (by omega)) (by show _ < 12; omega) (fun s5 i0 i1 i2 => ?_))
  have n5 : s5.1 (rk 41) = s1.1 (rk 41) := (i2 _ (rk_ne (by omega))).trans n4
  refine hg (v := nI π.2.1) (by show Prod.fst s5 (rk 41) 2 = _; rw [n5]; exact hp1.nc) ?_
  rw [nI_1]
  refine hp ?_
  have r8 : (gw s5 (pk 41 0 0) (upd (s5.1 (pk 41 0 0)) 2 (nI (π.2.1 + 1)))).1 (rk 41) = upd (s5.1 (rk 41)) 2 (nI (π.2.1 + 1)) := gw_s
  have ro : ∀ q, q ≠ rk 41 → (gw s5 (pk 41 0 0) (upd (s5.1 (pk 41 0 0)) 2 (nI (π.2.1 + 1)))).1 q = s5.1 q := fun q hq => gw_o hq
  have r2 : (gw s5 (pk 41 0 0) (upd (s5.1 (pk 41 0 0)) 2 (nI (π.2.1 + 1)))).2 = s5.2 := rfl
  revert r8 ro r2
  generalize gw s5 (pk 41 0 0) (upd (s5.1 (pk 41 0 0)) 2 (nI (π.2.1 + 1))) = s6
  intro r8 ro r2
  have q41 : ∀ x, x ≠ 2 → s6.1 (rk 41) x = s.1 (rk 41) x := fun x hx' => by rw [r8, upd_o hx', n5, (k1 41 (by omega)).1]
  have l6 : s6.2 = s1.2 := by rw [r2, i0, g0, f0, e0]
  have o6 : ∀ q : gK, q.1 ≠ 41 → (q.1 < 45 ∨ 48 < q.1) → s6.1 q = s1.1 q := fun q h1 h2 => by
    have nn : ∀ k, q.1 ≠ k → q ≠ rk k := fun k hk e => hk (by rw [e]; rfl)
    rw [ro _ (nn 41 h1), i2 _ (nn 48 (by omega)), g2 _ (nn 47 (by omega)), f2 _ (nn 46 (by omega)), e2 _ (nn 45 (by omega))]
  refine hg (v := nI (π.2.1 + 1)) (by show Prod.fst s6 (rk 41) 2 = _; rw [r8, upd_s]) (hr ⟨nI_pred _, pCh π (nI a) (nI b) x2 (nI z), false, [], 0, 0, mz, ?_, Nat.zero_le _⟩)
  have c6 : ∀ q : gK, q.1 < 41 → s6.1 q = s1.1 q ∧ s6.2.1 q = s1.2.1 q := fun q hq => ⟨o6 q (by omega) (by omega), by rw [l6]⟩
  have lk45 : ∀ k, k < 4 → s6.1 (rk (45 + k)) = upd (s1.1 (rk (45 + k))) π.2.1 (lkF (nI a) (nI b) x2 (nI z) k) := fun k hk => by
    have : k = 0 ∨ k = 1 ∨ k = 2 ∨ k = 3 := by omega
    rcases this with rfl | rfl | rfl | rfl
    · show s6.1 (rk 45) = upd (s1.1 (rk 45)) π.2.1 (nI a)
      rw [ro _ (rk_ne (by omega)), i2 _ (rk_ne (by omega)), g2 _ (rk_ne (by omega)), f2 _ (rk_ne (by omega)), e1]
    · show s6.1 (rk 46) = upd (s1.1 (rk 46)) π.2.1 (nI b)
      rw [ro _ (rk_ne (by omega)), i2 _ (rk_ne (by omega)), g2 _ (rk_ne (by omega)), f1, e2 _ (rk_ne (by omega))]
    · show s6.1 (rk 47) = upd (s1.1 (rk 47)) π.2.1 x2
      rw [ro _ (rk_ne (by omega)), i2 _ (rk_ne (by omega)), g1, f2 _ (rk_ne (by omega)), e2 _ (rk_ne (by omega))]
    · show s6.1 (rk 48) = upd (s1.1 (rk 48)) π.2.1 (nI z)
      rw [ro _ (rk_ne (by omega)), i1, g2 _ (rk_ne (by omega)), f2 _ (rk_ne (by omega)), e2 _ (rk_ne (by omega))]
  have kq : ∀ k, k ≠ 41 → (k < 45 ∨ 48 < k) → s6.1 (rk k) = s1.1 (rk k) := fun k h1 h2 => o6 (rk k) h1 h2
  have hp6 : pR (pCh π (nI a) (nI b) x2 (nI z)) s6 := by
    refine ⟨⟨ht.1, ht.2.1, hl⟩, ?_, ?_, fun x y hx' hy hxy => ?_, fun i k hi hk => ?_, fun d hd => ⟨?_, fun p hp => ?_⟩, fun d hd => ?_, fun x hx' => ⟨?_, fun y hy => ⟨?_, ?_⟩⟩⟩
    · rw [r8, upd_o (by omega), n5]; exact hp1.nd
    · rw [r8, upd_s]; rfl
    · rw [kq 43 (by omega) (by omega)]; exact hp1.fl x y hx' hy hxy
    · rw [lk45 k hk]
      have hi' : i < π.2.1 + 1 := hi
      by_cases e : i = π.2.1
      · subst e; rw [upd_s, pch_n]
      · rw [upd_o e, pch_o e]; exact hp1.lk i k (by omega) hk
    · rw [kq 50 (by omega) (by omega)]; exact (hp1.pr d hd).1
    · rw [kq 49 (by omega) (by omega)]; exact (hp1.pr d hd).2 p hp
    · rw [kq 51 (by omega) (by omega)]; exact hp1.wy d hd
    · rw [kq 54 (by omega) (by omega)]; exact (hp1.sl x hx').1
    · rw [kq 52 (by omega) (by omega)]; exact ((hp1.sl x hx').2 y hy).1
    · rw [kq 53 (by omega) (by omega)]; exact ((hp1.sl x hx').2 y hy).2
  refine JI_un (hcw.mv (fun q hq => c6 q (by omega))) hp6 (fun k hk => by rw [l6]; exact hL1 k hk) (fun k x h1 h2 => ?_) ?_ ?_ ?_ ?_ ?_ ?_ ?_ ?_ (hjb.o2 l6) (fun k i h1 h2 h3 => ?_) ⟨fun k i h1 h2 => ?_, fun k i h1 h2 => ?_⟩
  · rw [kq k (by omega) (by omega), (k1 k (by omega)).1]; exact u7 k x h1 h2
  · rw [(c6 _ (by decide)).1]; exact p8
  · rw [q41 13 (by omega)]; exact J.rs
  · rw [q41 14 (by omega)]; have := J.ra.1; rw [u2] at this; exact this
  · rw [q41 54 (by omega)]; exact J.jp.p0 u4
  · have := J.ca
    rw [u2] at this
    refine this.cg (fun q hq => ?_)
    rw [(c6 q (by omega)).1, (c6 q (by omega)).2, o1 q (by omega) (by omega) (by omega), o2 q (by omega) (by omega)]
    exact ⟨rfl, rfl⟩
  · refine ⟨⟨J.q0.pok.1, fun i hi => ?_, J.q0.pok.2.2.1, hl, J.q0.pok.2.2.2.2⟩, J.q0.sl, J.q0.pr, fun i hi => ?_, J.q0.wy⟩
    · have hi' : i < π.2.1 + 1 := hi
      by_cases e : i = π.2.1
      · subst e
        rw [pch_n, pch_n]
        exact ⟨a, b, ha, hbb, rfl, rfl, hab, hf⟩
      · rw [pch_o e, pch_o e]
        exact J.q0.pok.2.1 i (by omega)
    · have hi' : i < π.2.1 + 1 := hi
      by_cases e : i = π.2.1
      · subst e
        rw [psz_n hz, pch_n, pch_n]
        exact ⟨hz1, hz, rfl, hx2⟩
      · rw [psz_o e, pch_o e, pch_o e]
        exact J.q0.lk i (by omega)
  · exact u4
  · exact u5
  · rw [l6, o4 k i h1 h2 h3]; exact u8 k i h1 h2 (by have : π.2.1 + 1 ≤ i := h3; omega)
  · rw [l6, o3 k i 1 h1 (by omega)]; exact J.jp.zr.1 u4 k i h1 h2
  · rw [l6, o3 k i 2 h1 (by omega)]; exact J.jp.zr.2 u5 k i h1 h2
end FD
