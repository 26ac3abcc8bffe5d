/-! A PURGE THAT MAKES ITS MACHINE -/
theorem gsum_le {f g : gK → Nat} : ∀ l : List gK, (∀ q, q ∈ l → f q ≤ g q) → gsum f l ≤ gsum g l
  | [], _ => Nat.le_refl _
  | q :: l, h => by
    have h1 := h q (List.mem_cons_self ..)
    have h2 := gsum_le l (fun q hq => h q (List.mem_cons_of_mem _ hq))
    show f q + gsum f l ≤ g q + gsum g l
    omega
theorem gGL_k : ∀ q, q ∈ gGL → q.1 < 37 := by decide +kernel
theorem nL_cap {nl k i : Nat} {sc sz : Nat → Nat} (h1 : ∀ j, j < nl → sc j ≤ 4 ∧ sz j ≤ 4) : nL nl sc sz k i ≤ gcap k := by
  unfold nL gcap
  by_cases c1 : k = 20 ∨ k = 23 ∨ k = 25
  · rw [if_pos c1]
    repeat' split
    all_goals omega
  rw [if_neg c1]
  by_cases c2 : k = 21 ∨ k = 36
  · rw [if_pos c2]
    repeat' split
    all_goals omega
  rw [if_neg c2]
  by_cases c3 : (k = 28 ∨ k = 30) ∧ i < nl
  · rw [if_pos c3]
    have := h1 i c3.2
    repeat' split
    all_goals omega
  rw [if_neg c3]
  by_cases c4 : k = 31 ∧ i < nl
  · rw [if_pos c4]
    have := h1 i c4.2
    repeat' split
    all_goals omega
  rw [if_neg c4]
  exact Nat.zero_le _
section FR2
variable {θ : gT} {Gs U : gK → Nat} {h : mo_H} {s : gS} {x1 x2 sz c w : Nat} {π : mP} {acts : List mAct} {T n b1 b2 : Nat} {W : mW}
theorem ch_s4 {bd : Int32} {z : Nat} (h1 : 1 ≤ z) (h4 : z ≤ 4) : 1 ≤ ch_s bd z ∧ ch_s bd z ≤ 4 := by
  unfold ch_s
  split <;> omega
/-- the fresh machine of the store -/
theorem nS_cT {c : Nat × Nat} (J : JI θ π true acts T n W b1 b2 s) (hw : w = 1 ∨ w = 2) : cT (setM θ w) π 0 w (nS w π.2.1 (fun j => ch_s (plk π j 2) (psz π j)) (psz π) s c) (nS w π.2.1 (fun j => ch_s (plk π j 2) (psz π j)) (psz π) s c) mz := by
  have hl := J.q0.lk
  refine ⟨fun j i k hr' => ?_, ⟨fun d hd => ⟨?_, ?_⟩, fun i hi => ?_⟩, fun d hd => ⟨?_, ?_⟩, fun i hi => ?_, ?_, fr.rf⟩
  · have f := cF_1 w j i k
    have g := cKd_r j k
    show (if (cF w j i k).1.2.1 = w ∧ 15 ≤ (cF w j i k).1.1 then (fun _ => (0 : Int32)) else s.1 (cF w j i k).1) (cF w j i k).2 = _
    rw [if_pos ⟨f.2, by rw [f.1]; exact g.1.1⟩]
    rfl
  · rw [nS_2 (by omega)]; rfl
  · rw [nS_2 (by omega)]; rfl
  · rw [nS_2 (by omega)]
    unfold nL
    rw [if_neg (by omega), if_neg (by omega), if_neg (by omega), if_pos ⟨rfl, hi⟩]
  · unfold cRow
    rw [nS_1 (by omega), nS_2 (by omega)]
    exact ⟨rfl, Nat.zero_le _, (by decide : 4 ≤ 8), (by decide : 8 ≤ 1000000), fun x hx => absurd hx (Nat.not_lt_zero _)⟩
  · unfold cRow
    rw [nS_1 (by omega), nS_2 (by omega)]
    exact ⟨rfl, Nat.zero_le _, (by decide : 4 ≤ 8), (by decide : 8 ≤ 1000000), fun x hx => absurd hx (Nat.not_lt_zero _)⟩
  · have h4 := ch_s4 (bd := plk π i 2) (hl i hi).1 (hl i hi).2.1
    have hn : ∀ k, k = 28 ∨ k = 30 → nL π.2.1 (fun j => ch_s (plk π j 2) (psz π j)) (psz π) k i = 5 * ch_s (plk π i 2) (psz π i) := fun k hk => by
      unfold nL
      rw [if_neg (by omega), if_neg (by omega), if_pos ⟨hk, hi⟩]
    refine ⟨⟨0, ch_s (plk π i 2) (psz π i), ?_, ?_, by show 0 + 0 ≤ 0; omega, ?_, by omega, by show 0 + 0 ≤ _; omega, by omega, fun x hx => absurd hx (Nat.not_lt_zero _)⟩, ⟨0, ch_s (plk π i 2) (psz π i), ?_, ?_, by show 0 + 0 ≤ 0; omega, ?_, by omega, by show 0 + 0 ≤ _; omega, by omega, fun x hx => absurd hx (Nat.not_lt_zero _)⟩⟩
    · rw [nS_1 (by omega)]; rfl
    · rw [nS_1 (by omega)]; rfl
    · rw [nS_2 (by omega)]; exact hn 28 (by omega)
    · rw [nS_1 (by omega)]; rfl
    · rw [nS_1 (by omega)]; rfl
    · rw [nS_2 (by omega)]; exact hn 30 (by omega)
  · have p := J.cw.pl
    have p2 := p.cg (s' := nS w π.2.1 (fun j => ch_s (plk π j 2) (psz π j)) (psz π) s c) (fun q hq => nS_oth q (by omega))
    exact ⟨p.t1, p2.nd, p2.nc, p2.fl, p2.lk, p2.pr, p2.wy, p2.sl⟩
theorem cb_set (hw : (w = 1 ∧ θ.2.2.1 = false) ∨ (w = 2 ∧ θ.2.2.2 = false)) : cb (setM θ w) = cb θ + 200 ∧ sb (setM θ w) = sb θ + 2000 := by
  unfold cb sb
  rcases hw with ⟨rfl, q⟩ | ⟨rfl, q⟩
  · have e : setM θ 1 = (θ.1, θ.2.1, true, θ.2.2.2) := rfl
    rw [e, q]
    simp
    omega
  · have e : setM θ 2 = (θ.1, θ.2.1, θ.2.2.1, true) := rfl
    rw [e, q]
    simp
theorem nS_jB {c : Nat × Nat} (J : JI θ π true acts T n W (4 * (sz + cb θ)) (sb θ) s) (hw : (w = 1 ∧ θ.2.2.1 = false) ∨ (w = 2 ∧ θ.2.2.2 = false)) (h1 : c.1 ≤ s.2.2.1 + 200) (h2 : c.2 ≤ s.2.2.2 + 2000) : jB (4 * (sz + cb (setM θ w))) (sb (setM θ w)) (nS w π.2.1 (fun j => ch_s (plk π j 2) (psz π j)) (psz π) s c) := by
  have hl := J.q0.lk
  obtain ⟨j1, j2, j3⟩ := J.jb
  have hz : ∀ k i, 15 ≤ k → k < 37 → s.2.1 (pk k w i) = 0 := by
    rcases hw with ⟨rfl, q⟩ | ⟨rfl, q⟩
    · exact J.jp.zr.1 q
    · exact J.jp.zr.2 q
  have hp : gpot s ≤ gpot (nS w π.2.1 (fun j => ch_s (plk π j 2) (psz π j)) (psz π) s c) := gsum_le gGL (fun q hq => by
    by_cases e : q.2.1 = w ∧ 15 ≤ q.1
    · have : s.2.1 q = 0 := by
        have := hz q.1 q.2.2 e.2 (gGL_k q hq)
        rw [← e.1] at this
        exact this
      rw [this]; exact Nat.zero_le _
    · rw [(nS_oth q e).2]; exact Nat.le_refl _)
  have hb := cb_set hw
  refine ⟨fun q => ?_, ?_, ?_⟩
  · by_cases e : q.2.1 = w ∧ 15 ≤ q.1
    · show (if q.2.1 = w ∧ 15 ≤ q.1 then _ else _) ≤ _
      rw [if_pos e]
      exact nL_cap (fun j hj => ⟨(ch_s4 (hl j hj).1 (hl j hj).2.1).2, (hl j hj).2.1⟩)
    · rw [(nS_oth q e).2]; exact j1 q
  · show 4 * c.1 ≤ _
    rw [hb.1]; omega
  · show c.2 ≤ _
    rw [hb.2]; omega
theorem f_new {β : Type} {Q : β → mo_H → Prop} {K : mo_M β} (H : gI θ Gs U h s) (J : JI θ π true acts T n W b1 b2 s) (hw : (w = 1 ∧ θ.2.2.1 = false) ∨ (w = 2 ∧ θ.2.2.2 = false)) (kk : ∀ h' : mo_H, h'.2.1 ≤ h.2.1 + 200 → h'.2.2 ≤ h.2.2 + 2000 → gI (setM θ w) (nG w h.2.1 θ.1 θ.2.1 Gs) (nG w h.2.1 θ.1 θ.2.1 U) h' (nS w π.2.1 (fun j => ch_s (plk π j 2) (psz π j)) (psz π) s h'.2) → fh K h' Q) : fh (mo_b (mo_nc 8 dfX8) fun v23 => mo_b (mo_gR (Gs (pk 0 0 0)) 10 0) fun v24 => mo_b (F_X8_init v23 v24) fun _ => mo_b (mo_pV (Gs (pk 0 0 0)) 10 (2 + w) (.ref v23)) fun _ => K) h Q := by
  have p := J.cw.pl
  have ht := p.t1
  have hlk := J.q0.lk
  have h6 : θ.1 ≤ 6 ∧ θ.2.1 ≤ 12 := by omega
  have v0 : gV θ 0 0 0 := ⟨⟨rfl, rfl⟩, h6⟩
  have v1 : gV θ 1 0 0 := ⟨⟨rfl, rfl⟩, h6⟩
  have v3 : gV θ 3 0 0 := ⟨⟨rfl, rfl⟩, h6⟩
  have v4 : ∀ j, j < θ.2.1 → gV θ 4 0 j := fun j hj => ⟨⟨rfl, hj⟩, h6⟩
  have c0 := H.1 0 0 0 v0
  have c1 := H.1 1 0 0 v1
  have c3 := H.1 3 0 0 v3
  have c4 := fun j hj => H.1 4 0 j (v4 j hj)
  have l0 : Gs (pk 0 0 0) < h.2.1 := c0.2
  have l3 : Gs (pk 3 0 0) < h.2.1 := c3.2
  have c3a : h.1 (Gs (pk 3 0 0)) = some (.inl (3, 12, gRef (fun j => if j < θ.2.1 then some (Gs (pk 4 0 j)) else none))) := c3.1
  have l4 : ∀ j, j < θ.2.1 → Gs (pk 4 0 j) < h.2.1 := fun j hj => (c4 j hj).2
  have c4a : ∀ j, j < θ.2.1 → h.1 (Gs (pk 4 0 j)) = some (.inr (4, [.int (s.1 (pk 4 0 j) 0), .int (s.1 (pk 4 0 j) 1), .int (s.1 (pk 4 0 j) 2), .int (s.1 (pk 4 0 j) 3)])) := fun j hj => (c4 j hj).1
  have l1 : Gs (pk 1 0 0) < h.2.1 := c1.2
  have ne01 : Gs (pk 1 0 0) ≠ Gs (pk 0 0 0) := fun e => by
    obtain ⟨own, g2⟩ := H.2.1
    have a1 : own (Gs (pk 1 0 0)) = pk 1 0 0 := g2 1 0 0 v1
    have a2 : own (Gs (pk 0 0 0)) = pk 0 0 0 := g2 0 0 0 v0
    rw [e, a2] at a1
    exact absurd (congrArg Prod.fst a1) (by decide)
  refine f_nc (fun h1 a1 a2 a3 => ?_)
  have hb1 : h1.2.1 = h.2.1 + 1 := by rw [a1]
  have hb2 : h1.2.2 = h.2.2 + 5 := by rw [a1]; rfl
  refine f_gR (by rw [a3 _ l0]; exact c0.1) rfl ?_
  have hPF : ∀ h2 : mo_H, h2.2.1 = h.2.1 + 1 → (∀ q, q < h.2.1 → h2.1 q = h.1 q) → PF h2 h2.2.1 (Gs (pk 1 0 0)) θ.1 θ.2.1 (fun j => Gs (pk 4 0 j)) (fun j => plk π j 2) (psz π) := fun h2 e1 e2 => by
    refine ⟨by omega, h6.1, h6.2, ⟨_, Gs (pk 3 0 0), (fun j => if j < θ.2.1 then some (Gs (pk 4 0 j)) else none), by rw [e2 _ l1]; exact c1.1, ?_, rfl, ?_, by omega, by rw [e2 _ l3]; exact c3a, fun j hj => if_pos hj⟩, fun j hj => ⟨by have := l4 j hj; rw [e1]; show Gs (pk 4 0 j) < _; omega, ?_, ?_, s.1 (pk 4 0 j) 0, s.1 (pk 4 0 j) 1, ?_⟩⟩
    · show some (Value.int (s.1 (pk 1 0 0) 0)) = _
      rw [p.nd, ht.1]
    · show some (Value.int (s.1 (pk 1 0 0) 3)) = _
      rw [p.nc, ht.2.1]
    · exact (hlk j (by omega)).1
    · exact (hlk j (by omega)).2.1
    · rw [e2 _ (l4 j hj), c4a j hj, p.lk j 2 (by omega) (by omega), p.lk j 3 (by omega) (by omega), (hlk j (by omega)).2.2.1]
  refine f_c (Q1 := fun _ h' => h'.2.1 = h.2.1 + 6 + 7 * θ.1 + 6 * θ.2.1 ∧ h'.2.2 ≤ h.2.2 + 1240 ∧ (∀ q, q < h.2.1 → h'.1 q = h.1 q) ∧ MF h' (h.2.1 + 1) (Gs (pk 1 0 0)) θ.1 θ.2.1 (fun j => Gs (pk 4 0 j)) (fun j => plk π j 2) (psz π) ∧ h'.1 h.2.1 = some (.inr (8, [.ref (Gs (pk 1 0 0)), .ref (h.2.1 + 1), .ref (h.2.1 + 5 + 7 * θ.1 + 6 * θ.2.1), .int 0, .int 0])) ∧ h'.1 (h.2.1 + 5 + 7 * θ.1 + 6 * θ.2.1) = some (aI 32 1)) ?_ (fun _ h2 z => ?_)
  · unfold F_X8_init
    refine f_pV a2 (by show 0 < 5; omega) (fun h2 d1 d2 d3 => ?_)
    have e2 : h2.2.1 = h.2.1 + 1 := by rw [d1, hb1]
    have e3 : h2.2.2 = h.2.2 + 5 := by rw [d1, hb2]
    refine f_mach (hPF h2 e2 (fun q hq => by rw [d3 q (by omega), a3 q hq])) (fun h3 g1 g2 g3 g4 => ?_)
    rw [e2] at g1 g3 g4 ⊢
    refine f_pV (a := h.2.1) (by rw [g3 _ (by omega)]; exact d2) (by show 1 < 5; omega) (fun h4 i1 i2 i3 => ?_)
    have e4 : h4.2.1 = h.2.1 + 5 + 7 * θ.1 + 6 * θ.2.1 := by rw [i1, g1]
    refine f_na (m := 32) rfl (by omega) (fun h5 j1 j2 j3 => ?_)
    rw [e4] at j2 j3 ⊢
    refine f_pV (a := h.2.1) (by rw [j3 _ (by omega)]; exact i2) (by show 2 < 5; omega) (fun h7 k1 k2 k3 => f_r ⟨?_, ?_, fun q hq => ?_, ?_, ?_, ?_⟩)
    · rw [k1, j1]; show h4.2.1 + 1 = _; rw [e4]; omega
    · rw [k1, j1]; show h4.2.2 + 32 ≤ _; rw [i1]; omega
    · rw [k3 q (by omega), j3 q (by omega), i3 q (by omega), g3 q (by omega), d3 q (by omega), a3 q hq]
    · have cg : ∀ q, h.2.1 + 1 ≤ q → q < h.2.1 + 5 + 7 * θ.1 + 6 * θ.2.1 → h7.1 q = h3.1 q := fun q q1 q2 => by rw [k3 q (by omega), j3 q (by omega), i3 q (by omega)]
      obtain ⟨m1, m2, m3, m4, m5, m6⟩ := g4
      exact ⟨by rw [cg _ (by omega) (by omega)]; exact m1, by rw [cg _ (by omega) (by omega)]; exact m2, fun j hj => (m3 j hj).cg (fun q q1 q2 => cg q (by omega) (by omega)), by rw [cg _ (by omega) (by omega)]; exact m4, fun j hj => (m5 j hj).cg (fun q q1 q2 => cg q (by omega) (by omega)), by rw [cg _ (by omega) (by omega)]; exact m6⟩
    · rw [k2]; rfl
    · rw [k3 _ (by omega)]; exact j2
  · obtain ⟨z1, z2, z3, z4, z5, z6⟩ := z
    have c0' : h2.1 (Gs (pk 0 0 0)) = some (gC θ Gs U 0 0 0 (s.1 (pk 0 0 0)) (s.2.1 (pk 0 0 0))) := by rw [z3 _ l0]; exact c0.1
    refine f_pV (a := Gs (pk 0 0 0)) c0' (by show 2 + w < 5; omega) (fun h3 d1 d2 d3 => ?_)
    refine kk h3 (by rw [d1, z1]; omega) (by rw [d1]; omega) ?_
    have cg : ∀ q, h.2.1 ≤ q → h3.1 q = h2.1 q := fun q q1 => d3 q (by omega)
    have hMF : MF h3 (h.2.1 + 1) (Gs (pk 1 0 0)) θ.1 θ.2.1 (fun j => Gs (pk 4 0 j)) (fun j => plk π j 2) (psz π) := by
      obtain ⟨m1, m2, m3, m4, m5, m6⟩ := z4
      exact ⟨by rw [cg _ (by omega)]; exact m1, by rw [cg _ (by omega)]; exact m2, fun j hj => (m3 j hj).cg (fun q q1 q2 => cg q (by omega)), by rw [cg _ (by omega)]; exact m4, fun j hj => (m5 j hj).cg (fun q q1 q2 => cg q (by omega)), by rw [cg _ (by omega)]; exact m6⟩
    have fin := gI_mach (w := w) (h' := h3) (sc := fun j => ch_s (plk π j 2) (psz π j)) (sz := psz π) H hw h6 hMF (fun _ _ => rfl) (fun _ _ => rfl) (by rw [cg _ (Nat.le_refl _)]; exact z5) (by rw [cg _ (by omega)]; exact z6) (by
      rw [d2]
      rcases hw with ⟨rfl, q⟩ | ⟨rfl, q⟩ <;> rfl) (fun q hq hne => by rw [d3 q hne, z3 q hq]) (by rw [d1, z1])
    rw [ht.2.1] at fin ⊢
    exact fin
theorem st_pgA {x : Int32} {d : Nat} (H : gI θ Gs U h s) (e1 : Gs (pk 0 0 0) = x1) (e2 : Gs (pk 41 0 0) = x2) (J : JI θ π true acts T n W (4 * (sz + cb θ)) (sb θ) s) (hT : T ≤ c) (hc : c < 900000) (hm : θ.2.2.1 = false) (hd : d < π.1) (ex : x = nI d) (ca : ¬ nI d < 0 ∧ (nI d).toNatClampNeg < π.1) : ST (F_X10_purge x1 x) (F_X11_purge x2 x) x1 x2 sz c h := by
  subst ex e1 e2
  have ht := J.cw.pl.t1
  have h6 : θ.1 ≤ 6 ∧ θ.2.1 ≤ 12 := by omega
  have v0 : gV θ 0 0 0 := ⟨⟨rfl, rfl⟩, h6⟩
  have v1 : gV θ 1 0 0 := ⟨⟨rfl, rfl⟩, h6⟩
  have c0 := (H.1 0 0 0 v0).1
  have c1 := (H.1 1 0 0 v1).1
  have run : fh (F_X10_purge (Gs (pk 0 0 0)) (nI d)) h (fun r h1 => ∃ h2, (F_X11_purge (Gs (pk 41 0 0)) (nI d)).1 h1 = some (r, h2) ∧ LJ (Gs (pk 0 0 0)) (Gs (pk 41 0 0)) sz c h2) := by
    unfold F_X10_purge
    refine f_ck c0 (f_gR c0 rfl (f_gI (x := 1) c1 ?_ (f_F (by decide) (f_gR c0 rfl ?_))))
    · show some (Value.int (s.1 (pk 1 0 0) 8)) = _
      have e8 : s.1 (pk 1 0 0) 8 = 1 := J.cs
      rw [e8]
    obtain ⟨h1, U1, b1, H1, eU⟩ := q_X7_hasDomain θ Gs U (nI d) v1 h s H 1 s ((dm_y ca).1 J.cw.pl)
    have eU := eU rfl
    subst eU
    have c0' := (H1.1 0 0 0 v0).1
    refine f_b b1 (f_F (by decide) (f_gO (x := none) c0' ?_ ?_))
    · show some (va_rf (match θ.2.2.1 with | true => some (Gs (pk 35 1 0)) | false => none)) = _
      rw [hm]
    refine f_new (w := 1) H1 J (Or.inl ⟨rfl, hm⟩) (fun h' g1 g2 g3 => ?_)
    have vv : gV (setM θ 1) 0 0 0 := ⟨⟨rfl, rfl⟩, h6⟩
    have o0 : nG 1 h1.2.1 θ.1 θ.2.1 Gs (pk 0 0 0) = Gs (pk 0 0 0) := nG_o (fun z => absurd z.1 (by decide))
    have o41 : nG 1 h1.2.1 θ.1 θ.2.1 Gs (pk 41 0 0) = Gs (pk 41 0 0) := nG_o (fun z => absurd z.1 (by decide))
    have hs : h1.2 = s.2.2 := H1.2.2
    have P := P_pg (θ' := setM θ 1) (s := nS 1 π.2.1 (fun j => ch_s (plk π j 2) (psz π j)) (psz π) s h'.2) J nS_oth (nS_jB J (Or.inl ⟨rfl, hm⟩) (by rw [← hs]; exact g1) (by rw [← hs]; exact g2)) hT (by omega) hd (nS_cT J (Or.inl rfl)) ⟨by rw [nS_2 (by omega)]; exact (by decide : 4 ≤ 32), by rw [nS_2 (by omega)]; exact (by decide : 32 ≤ 6000)⟩ rfl rfl rfl rfl ca
    obtain ⟨r, h2, h3, k1, k2, k3⟩ := st_pp (x1 := Gs (pk 0 0 0)) (x2 := Gs (pk 41 0 0)) g3 o0 o41 h6 (q_pg45 (setM θ 1) _ _ (nI d) vv rfl) (fun U' => q_X11_purge (setM θ 1) (nG 1 h1.2.1 θ.1 θ.2.1 Gs) U' (nI d) ⟨⟨rfl, rfl⟩, h6⟩) P
    rw [o0] at k1
    rw [o41] at k2
    exact ⟨r, h2, k1, h3, k2, k3⟩
  obtain ⟨r, h1, k1, h2, k2, k3⟩ := run
  exact ⟨r, h1, h2, k1, k2, k3⟩
theorem st_usA {x : Int32} {d : Nat} (H : gI θ Gs U h s) (e1 : Gs (pk 0 0 0) = x1) (e2 : Gs (pk 41 0 0) = x2) (J : JI θ π true acts T n W (4 * (sz + cb θ)) (sb θ) s) (hT : T ≤ c) (hc : c < 900000) (hm : θ.2.2.2 = false) (hd : d < π.1) (ex : x = nI d) (ca : ¬ nI d < 0 ∧ (nI d).toNatClampNeg < π.1) : ST (F_X10_undisturbed x1 x) (F_X11_undisturbed x2 x) x1 x2 sz c h := by
  subst ex e1 e2
  have ht := J.cw.pl.t1
  have h6 : θ.1 ≤ 6 ∧ θ.2.1 ≤ 12 := by omega
  have v0 : gV θ 0 0 0 := ⟨⟨rfl, rfl⟩, h6⟩
  have v1 : gV θ 1 0 0 := ⟨⟨rfl, rfl⟩, h6⟩
  have c0 := (H.1 0 0 0 v0).1
  have c1 := (H.1 1 0 0 v1).1
  have run : fh (F_X10_undisturbed (Gs (pk 0 0 0)) (nI d)) h (fun r h1 => ∃ h2, (F_X11_undisturbed (Gs (pk 41 0 0)) (nI d)).1 h1 = some (r, h2) ∧ LJ (Gs (pk 0 0 0)) (Gs (pk 41 0 0)) sz c h2) := by
    unfold F_X10_undisturbed
    refine f_ck c0 (f_gR c0 rfl (f_gI (x := 1) c1 ?_ (f_F (by decide) (f_gR c0 rfl ?_))))
    · show some (Value.int (s.1 (pk 1 0 0) 8)) = _
      have e8 : s.1 (pk 1 0 0) 8 = 1 := J.cs
      rw [e8]
    obtain ⟨h1, U1, b1, H1, eU⟩ := q_X7_hasDomain θ Gs U (nI d) v1 h s H 1 s ((dm_y ca).1 J.cw.pl)
    have eU := eU rfl
    subst eU
    have c0' := (H1.1 0 0 0 v0).1
    refine f_b b1 (f_F (by decide) (f_gO (x := none) c0' ?_ ?_))
    · show some (va_rf (match θ.2.2.2 with | true => some (Gs (pk 35 2 0)) | false => none)) = _
      rw [hm]
    refine f_new (w := 2) H1 J (Or.inr ⟨rfl, hm⟩) (fun h' g1 g2 g3 => ?_)
    have vv : gV (setM θ 2) 0 0 0 := ⟨⟨rfl, rfl⟩, h6⟩
    have o0 : nG 2 h1.2.1 θ.1 θ.2.1 Gs (pk 0 0 0) = Gs (pk 0 0 0) := nG_o (fun z => absurd z.1 (by decide))
    have o41 : nG 2 h1.2.1 θ.1 θ.2.1 Gs (pk 41 0 0) = Gs (pk 41 0 0) := nG_o (fun z => absurd z.1 (by decide))
    have hs : h1.2 = s.2.2 := H1.2.2
    have P := P_us (θ' := setM θ 2) (s := nS 2 π.2.1 (fun j => ch_s (plk π j 2) (psz π j)) (psz π) s h'.2) J nS_oth (nS_jB J (Or.inr ⟨rfl, hm⟩) (by rw [← hs]; exact g1) (by rw [← hs]; exact g2)) hT (by omega) hd (nS_cT J (Or.inr rfl)) ⟨by rw [nS_2 (by omega)]; exact (by decide : 4 ≤ 32), by rw [nS_2 (by omega)]; exact (by decide : 32 ≤ 6000)⟩ rfl rfl rfl rfl ca
    obtain ⟨r, h2, h3, k1, k2, k3⟩ := st_pp (x1 := Gs (pk 0 0 0)) (x2 := Gs (pk 41 0 0)) g3 o0 o41 h6 (q_us45 (setM θ 2) _ _ (nI d) vv rfl) (fun U' => q_X11_undisturbed (setM θ 2) (nG 2 h1.2.1 θ.1 θ.2.1 Gs) U' (nI d) ⟨⟨rfl, rfl⟩, h6⟩) P
    rw [o0] at k1
    rw [o41] at k2
    exact ⟨r, h2, k1, h3, k2, k3⟩
  obtain ⟨r, h1, k1, h2, k2, k3⟩ := run
  exact ⟨r, h1, h2, k1, k2, k3⟩
theorem st_purge (L : LJ x1 x2 sz c h) (hc : c < 900000) (x : Int32) : ST (F_X10_purge x1 x) (F_X11_purge x2 x) x1 x2 sz c h := by
  obtain ⟨θ, Gs, U, s, π, sl, acts, T, n, W, H, e1, e2, J, hT, h6⟩ := L
  by_cases z : θ.2.2.1 = true ∨ ¬ (sl = true ∧ ¬ x < 0 ∧ x.toNatClampNeg < π.1)
  · subst e1 e2
    exact st_pp H rfl rfl h6 (q_pgR θ Gs U x ⟨⟨rfl, rfl⟩, h6⟩) (fun U' => q_X11_purge θ Gs U' x ⟨⟨rfl, rfl⟩, h6⟩) (P_purge J hT (by omega) x z)
  · have z1 : θ.2.2.1 = false := by
      cases e : θ.2.2.1 with
      | true => exact absurd (Or.inl e) z
      | false => rfl
    have z2 : sl = true ∧ ¬ x < 0 ∧ x.toNatClampNeg < π.1 := Classical.byContradiction (fun q => z (Or.inr q))
    obtain ⟨rfl, z3⟩ := z2
    rcases dom_cs π x with ⟨d, hd, rfl, ca⟩ | ca
    · exact st_pgA H e1 e2 J hT hc z1 hd rfl ca
    · exact absurd z3 ca
theorem st_undist (L : LJ x1 x2 sz c h) (hc : c < 900000) (x : Int32) : ST (F_X10_undisturbed x1 x) (F_X11_undisturbed x2 x) x1 x2 sz c h := by
  obtain ⟨θ, Gs, U, s, π, sl, acts, T, n, W, H, e1, e2, J, hT, h6⟩ := L
  by_cases z : θ.2.2.2 = true ∨ ¬ (sl = true ∧ ¬ x < 0 ∧ x.toNatClampNeg < π.1)
  · subst e1 e2
    exact st_pp H rfl rfl h6 (q_usR θ Gs U x ⟨⟨rfl, rfl⟩, h6⟩) (fun U' => q_X11_undisturbed θ Gs U' x ⟨⟨rfl, rfl⟩, h6⟩) (P_undist J hT (by omega) x z)
  · have z1 : θ.2.2.2 = false := by
      cases e : θ.2.2.2 with
      | true => exact absurd (Or.inl e) z
      | false => rfl
    have z2 : sl = true ∧ ¬ x < 0 ∧ x.toNatClampNeg < π.1 := Classical.byContradiction (fun q => z (Or.inr q))
    obtain ⟨rfl, z3⟩ := z2
    rcases dom_cs π x with ⟨d, hd, rfl, ca⟩ | ca
    · exact st_usA H e1 e2 J hT hc z1 hd rfl ca
    · exact absurd z3 ca
end FR2
